theorem kM_X5_spreadFromNow : kM yX5_spreadFromNow cX5_spreadFromNow 2 (none : Option Jvm.ClassFile.FieldType) 1 := ⟨kc_X5_spreadFromNow, kn_RingsOff, by decide +kernel⟩
abbrev R_X5_spreadFromNow : Room := { frames := 7, cells := 0, slots := 0, locals := 148 }
set_option maxHeartbeats 4000000 in
set_option maxRecDepth 100000 in
theorem c_X5_spreadFromNow (l : Launch) {ad : Nat → Nat} {adN : Nat → Nat} {adL : Nat → Nat} {adE : Nat → Nat} {aK : Nat} {aD : Nat} {aS : Nat} {aT : Nat} {N : Nat} {ro : RO} {nw : EV} {lw : LW} {se : SE} {p1 : Int32} {out : LW × SE} (h : M_X5_spreadFromNow N ro nw lw se p1 = some out) : gM l yX5_spreadFromNow cX5_spreadFromNow 2 (none : Option Jvm.ClassFile.FieldType) R_X5_spreadFromNow (fun _ => [.ref (ad 0), .int p1]) (fun g => [wRO g ad (adN 0) aK aD aS aT (adL 0) (adE 0) ro, wEV g adN nw, wLW g adL lw, wSE g adE se]) (gQv (fun g (_ : Unit) => [wRO g ad (adN 0) aK aD aS aT (adL 0) (adE 0) ro, wEV g adN nw, wLW g adL out.1, wSE g adE out.2])) := by
  refine gM.ofv (by decide +kernel) (fun _ => Nat.le_of_ble_eq_true rfl) (fun g p e s m args below meth c A ls Q X hret hw hl => ?_)
  have hx := X.1.1
  have hb := X.1.2.1
  have hl : lv_has ls 2 [(0, .ref (ad 0)), (1, .int p1)] := hl
  unfold M_X5_spreadFromNow at h
  refine lv_aload_n hx hb dX5_spreadFromNow_0 rfl (lv_at hl 0 rfl) ?_
  refine lv_iload_n hx hb dX5_spreadFromNow_1 rfl (lv_at hl 1 rfl) ?_
  obtain ⟨r2, h2, h⟩ := bnd h
  refine g_callv0 (isC := [0, 1, 2, 3]) (gn := fun _ => [wRO g ad (adN 0) aK aD aS aT (adL 0) (adE 0) ro, wEV g adN nw, wLW g adL r2.1, wSE g adE r2.2]) (g_runV (isC := [0, 1, 2, 3]) (rest := []) (As := [.int p1]) X hw (c_X5_study l (ad := ad) (adN := adN) (adL := adL) (adE := adE) (aK := aK) (aD := aD) (aS := aS) (aT := aT) h2) rfl kM_X5_study ki_X5_study ks_X5_study km_X5_253 ⟨(Nat.le_of_ble_eq_true rfl), (Nat.le_of_ble_eq_true rfl)⟩ ⟨(Nat.le_of_ble_eq_true rfl), (Nat.le_of_ble_eq_true rfl)⟩ rfl rfl ⟨_, _, _, _, rfl, rfl, rfl, rfl⟩ rfl hl.1 rfl (Nat.le_of_ble_eq_true rfl) dX5_spreadFromNow_2) hw rfl rfl (fun _ => (Nat.le_of_ble_eq_true rfl)) (fun _ => rfl) rfl rfl (fun _ H locs hw => ?_)
  refine lv_aload_n hx hb dX5_spreadFromNow_5 rfl (lv_at hl 0 rfl) ?_
  refine RO_g_search X hw 0 rfl kf_X5_46 dX5_spreadFromNow_6 ?_
  refine lv_aload_n hx hb dX5_spreadFromNow_9 rfl (lv_at hl 0 rfl) ?_
  refine RO_g_now X hw 0 rfl kf_X5_12 dX5_spreadFromNow_10 ?_
  refine lv_iload_n hx hb dX5_spreadFromNow_13 rfl (lv_at hl 1 rfl) ?_
  obtain ⟨r14, h14, h⟩ := bnd h
  refine g_calli0 (isC := [1]) (gn := fun _ => [wRO g ad (adN 0) aK aD aS aT (adL 0) (adE 0) ro, wEV g adN nw, wLW g adL r2.1, wSE g adE r2.2]) (g_runVN (isC := [1]) (rest := [.ref (adE 0)]) (As := [.int p1]) X hw (c_X0_onOf l (ad := adN) h14) rfl kM_X0_onOf ki_X0_onOf ks_X0_onOf km_X5_122 ⟨(Nat.le_of_ble_eq_true rfl), (Nat.le_of_ble_eq_true rfl)⟩ ⟨(Nat.le_of_ble_eq_true rfl), (Nat.le_of_ble_eq_true rfl)⟩ rfl rfl ⟨_, _, _, _, rfl, rfl, rfl, rfl⟩ rfl hl.1 rfl (Nat.le_of_ble_eq_true rfl) dX5_spreadFromNow_14) hw rfl rfl (fun _ => (Nat.le_of_ble_eq_true rfl)) (fun _ => rfl) rfl rfl (fun _ H locs hw => ?_)
  refine lv_iconst (v := 1) hx hb dX5_spreadFromNow_17 (by decide) ?_
  obtain ⟨r18, h18, h⟩ := bnd h
  refine g_callv0 (isC := [3]) (gn := fun _ => [wRO g ad (adN 0) aK aD aS aT (adL 0) (adE 0) ro, wEV g adN nw, wLW g adL r2.1, wSE g adE r18]) (g_runVN (isC := [3]) (rest := []) (As := [.int r14, .int (1 : Int32)]) X hw (c_X2_spreadAnew l (ad := adE) h18) rfl kM_X2_spreadAnew ki_X2_spreadAnew ks_X2_spreadAnew km_X5_306 ⟨(Nat.le_of_ble_eq_true rfl), (Nat.le_of_ble_eq_true rfl)⟩ ⟨(Nat.le_of_ble_eq_true rfl), (Nat.le_of_ble_eq_true rfl)⟩ rfl rfl ⟨_, _, _, _, rfl, rfl, rfl, rfl⟩ rfl hl.1 rfl (Nat.le_of_ble_eq_true rfl) dX5_spreadFromNow_18) hw rfl rfl (fun _ => (Nat.le_of_ble_eq_true rfl)) (fun _ => rfl) rfl rfl (fun _ H locs hw => ?_)
  have h := Option.some.inj h
  subst h
  exact hret () dX5_spreadFromNow_21 hw
theorem kM_X5_brokenPicture : kM yX5_brokenPicture cX5_brokenPicture 5 (some FieldType.int) 3 := ⟨kc_X5_brokenPicture, kn_RingsOff, by decide +kernel⟩
abbrev R_X5_brokenPicture : Room := { frames := 7, cells := 0, slots := 0, locals := 148 }
set_option maxHeartbeats 4000000 in
set_option maxRecDepth 100000 in
theorem c_X5_brokenPicture (l : Launch) {ad : Nat → Nat} {adN : Nat → Nat} {adS : Nat → Nat} {adL : Nat → Nat} {adE : Nat → Nat} {aK : Nat} {aD : Nat} {aT : Nat} {N : Nat} {ro : RO} {nw : EV} {sh : SH} {lw : LW} {se : SE} {p1 : Int32} {p2 : Int32} {p3 : Int32} {out : Int32 × LW × SE} (h : M_X5_brokenPicture N ro nw sh lw se p1 p2 p3 = some out) : gM l yX5_brokenPicture cX5_brokenPicture 5 (some FieldType.int) R_X5_brokenPicture (fun _ => [.ref (ad 0), .int p1, .int p2, .int p3]) (fun g => [wRO g ad (adN 0) aK aD (adS 0) aT (adL 0) (adE 0) ro, wEV g adN nw, wSH g adS sh, wLW g adL lw, wSE g adE se]) (gQi (fun (_ : Unit) => out.1) (fun g (_ : Unit) => [wRO g ad (adN 0) aK aD (adS 0) aT (adL 0) (adE 0) ro, wEV g adN nw, wSH g adS sh, wLW g adL out.2.1, wSE g adE out.2.2])) := by
  refine gM.ofi (by decide +kernel) (fun _ => Nat.le_of_ble_eq_true rfl) (fun g p e s m args below meth c A ls Q X hret hw hl => ?_)
  have hx := X.1.1
  have hb := X.1.2.1
  have hl : lv_has ls 5 [(0, .ref (ad 0)), (1, .int p1), (2, .int p2), (3, .int p3)] := hl
  have L8 : ∀ (n : Nat) (z8 : LW × SE × Int32), lp (M_X5_brokenPicture_l8 N ro nw sh p1 p2 p3) n z8 = some out → ∀ (H : Heap) (locs : List Loc) (ls : Array Slot), gW g A s.heap [wRO g ad (adN 0) aK aD (adS 0) aT (adL 0) (adE 0) ro, wEV g adN nw, wSH g adS sh, wLW g adL z8.1, wSE g adE z8.2.1] H locs → lv_has ls 5 [(0, .ref (ad 0)), (1, .int p1), (2, .int p2), (3, .int p3), (4, .int z8.2.2)] → W p l e R_X5_brokenPicture s m args below meth c H locs 0 0 Q (F0 m 8 ls []) := by
    refine lp_ind ?_
    intro rec8 ih8
    intro z8 h H locs ls hw hl
    unfold M_X5_brokenPicture_l8 at h
    refine lv_iload hx hb dX5_brokenPicture_8 (lv_at hl 4 rfl) ?_
    refine lv_iload_n hx hb dX5_brokenPicture_10 rfl (lv_at hl 2 rfl) ?_
    refine lv_icmp_ge (tgt := 35) hx hb dX5_brokenPicture_11 (by decide) (fun k11 => ?_) (fun k11 => ?_)
    · have h := itt k11 h
      refine lv_iconst (v := -1) hx hb dX5_brokenPicture_35 (by decide) ?_
      have h := Option.some.inj h
      subst h
      exact hret () dX5_brokenPicture_36 rfl hw
    · have h := itf k11 h
      refine lv_aload_n hx hb dX5_brokenPicture_14 rfl (lv_at hl 0 rfl) ?_
      refine lv_iload_n hx hb dX5_brokenPicture_15 rfl (lv_at hl 1 rfl) ?_
      refine lv_iload hx hb dX5_brokenPicture_16 (lv_at hl 4 rfl) ?_
      refine lv_iload_n hx hb dX5_brokenPicture_18 rfl (lv_at hl 3 rfl) ?_
      obtain ⟨r19, h19, h⟩ := bnd h
      refine g_calli0 (isC := [0, 1, 2, 4]) (gn := fun _ => [wRO g ad (adN 0) aK aD (adS 0) aT (adL 0) (adE 0) ro, wEV g adN nw, wSH g adS sh, wLW g adL z8.1, wSE g adE r19.2]) (g_runV (isC := [0, 1, 2, 4]) (rest := []) (As := [.int p1, .int z8.2.2, .int p3]) X hw (c_X5_stepsToPicture l (ad := ad) (adN := adN) (adS := adS) (adE := adE) (aK := aK) (aD := aD) (aT := aT) (aL := (adL 0)) h19) rfl kM_X5_stepsToPicture ki_X5_stepsToPicture ks_X5_stepsToPicture km_X5_297 ⟨(Nat.le_of_ble_eq_true rfl), (Nat.le_of_ble_eq_true rfl)⟩ ⟨(Nat.le_of_ble_eq_true rfl), (Nat.le_of_ble_eq_true rfl)⟩ rfl rfl ⟨_, _, _, _, rfl, rfl, rfl, rfl⟩ rfl hl.1 rfl (Nat.le_of_ble_eq_true rfl) dX5_brokenPicture_19) hw rfl rfl (fun _ => (Nat.le_of_ble_eq_true rfl)) (fun _ => rfl) rfl rfl (fun _ H locs hw => ?_)
      refine lv_iconst (v := -1) hx hb dX5_brokenPicture_22 (by decide) ?_
      refine lv_icmp_ne (tgt := 29) hx hb dX5_brokenPicture_23 (by decide) (fun k23 => ?_) (fun k23 => ?_)
      · have h := itt k23 h
        refine lv_iinc (v := (z8.2.2 + 1)) (lv' := [(4, .int (z8.2.2 + 1)), (0, .ref (ad 0)), (1, .int p1), (2, .int p2), (3, .int p3)]) hx hb dX5_brokenPicture_29 hl (k := 4) rfl rfl (by decide) rfl (fun ls hl => ?_)
        refine lv_goto (tgt := 8) hx hb dX5_brokenPicture_32 (by decide) ?_
        exact ih8 _ h _ _ _ hw (lv_sub hl [1, 2, 3, 4, 0] rfl)
      · have h := itf (fun z => z k23) h
        refine lv_iload hx hb dX5_brokenPicture_26 (lv_at hl 4 rfl) ?_
        have h := Option.some.inj h
        subst h
        exact hret () dX5_brokenPicture_28 rfl hw
  unfold M_X5_brokenPicture at h
  refine lv_aload_n hx hb dX5_brokenPicture_0 rfl (lv_at hl 0 rfl) ?_
  refine lv_iload_n hx hb dX5_brokenPicture_1 rfl (lv_at hl 3 rfl) ?_
  obtain ⟨r2, h2, h⟩ := bnd h
  refine g_callv0 (isC := [0, 1, 3, 4]) (gn := fun _ => [wRO g ad (adN 0) aK aD (adS 0) aT (adL 0) (adE 0) ro, wEV g adN nw, wSH g adS sh, wLW g adL r2.1, wSE g adE r2.2]) (g_runV (isC := [0, 1, 3, 4]) (rest := []) (As := [.int p3]) X hw (c_X5_study l (ad := ad) (adN := adN) (adL := adL) (adE := adE) (aK := aK) (aD := aD) (aS := (adS 0)) (aT := aT) h2) rfl kM_X5_study ki_X5_study ks_X5_study km_X5_253 ⟨(Nat.le_of_ble_eq_true rfl), (Nat.le_of_ble_eq_true rfl)⟩ ⟨(Nat.le_of_ble_eq_true rfl), (Nat.le_of_ble_eq_true rfl)⟩ rfl rfl ⟨_, _, _, _, rfl, rfl, rfl, rfl⟩ rfl hl.1 rfl (Nat.le_of_ble_eq_true rfl) dX5_brokenPicture_2) hw rfl rfl (fun _ => (Nat.le_of_ble_eq_true rfl)) (fun _ => rfl) rfl rfl (fun _ H locs hw => ?_)
  refine lv_iconst (v := 0) hx hb dX5_brokenPicture_5 (by decide) ?_
  refine lv_istore (lv' := [(4, .int (0 : Int32)), (0, .ref (ad 0)), (1, .int p1), (2, .int p2), (3, .int p3)]) hx hb dX5_brokenPicture_6 hl (by decide) rfl (fun ls hl => ?_)
  exact L8 N _ h _ _ _ hw (lv_sub hl [1, 2, 3, 4, 0] rfl)
theorem kM_X5_judgedMove : kM yX5_judgedMove cX5_judgedMove 8 (some FieldType.int) 3 := ⟨kc_X5_judgedMove, kn_RingsOff, by decide +kernel⟩
abbrev R_X5_judgedMove : Room := { frames := 5, cells := 0, slots := 0, locals := 105 }
set_option maxHeartbeats 4000000 in
set_option maxRecDepth 100000 in
theorem c_X5_judgedMove (l : Launch) {ad : Nat → Nat} {adN : Nat → Nat} {adS : Nat → Nat} {adL : Nat → Nat} {aK : Nat} {aD : Nat} {aT : Nat} {aE : Nat} {N : Nat} {ro : RO} {nw : EV} {sh : SH} {lw : LW} {p1 : Int32} {p2 : Int32} {p3 : Int32} {out : Int32 × LW} (h : M_X5_judgedMove N ro nw sh lw p1 p2 p3 = some out) : gM l yX5_judgedMove cX5_judgedMove 8 (some FieldType.int) R_X5_judgedMove (fun _ => [.ref (ad 0), .int p1, .int p2, .int p3]) (fun g => [wRO g ad (adN 0) aK aD (adS 0) aT (adL 0) aE ro, wEV g adN nw, wSH g adS sh, wLW g adL lw]) (gQi (fun (_ : Unit) => out.1) (fun g (_ : Unit) => [wRO g ad (adN 0) aK aD (adS 0) aT (adL 0) aE ro, wEV g adN nw, wSH g adS sh, wLW g adL out.2])) := by
  refine gM.ofi (by decide +kernel) (fun _ => Nat.le_of_ble_eq_true rfl) (fun g p e s m args below meth c A ls Q X hret hw hl => ?_)
  have hx := X.1.1
  have hb := X.1.2.1
  have hl : lv_has ls 8 [(0, .ref (ad 0)), (1, .int p1), (2, .int p2), (3, .int p3)] := hl
  have L25 : ∀ (n : Nat) (z25 : LW × Int32 × Int32), lp (M_X5_judgedMove_l25 N ro nw sh p1 p2 p3) n z25 = some out → ∀ (H : Heap) (locs : List Loc) (ls : Array Slot), gW g A s.heap [wRO g ad (adN 0) aK aD (adS 0) aT (adL 0) aE ro, wEV g adN nw, wSH g adS sh, wLW g adL z25.1] H locs → lv_has ls 8 [(0, .ref (ad 0)), (1, .int p1), (2, .int p2), (4, .int z25.2.1), (5, .int z25.2.2)] → W p l e R_X5_judgedMove s m args below meth c H locs 0 0 Q (F0 m 25 ls []) := by
    refine lp_ind ?_
    intro rec25 ih25
    intro z25 h H locs ls hw hl
    unfold M_X5_judgedMove_l25 at h
    refine lv_iload hx hb dX5_judgedMove_25 (lv_at hl 4 rfl) ?_
    refine lv_iload_n hx hb dX5_judgedMove_27 rfl (lv_at hl 2 rfl) ?_
    refine lv_icmp_ge (tgt := 97) hx hb dX5_judgedMove_28 (by decide) (fun k28 => ?_) (fun k28 => ?_)
    · have h := itt k28 h
      refine lv_iconst (v := -1) hx hb dX5_judgedMove_97 (by decide) ?_
      have h := Option.some.inj h
      subst h
      exact hret () dX5_judgedMove_98 rfl hw
    · have h := itf k28 h
      refine lv_aload_n hx hb dX5_judgedMove_31 rfl (lv_at hl 0 rfl) ?_
      refine RO_g_shelves X hw 0 rfl kf_X5_25 dX5_judgedMove_32 ?_
      refine lv_iload_n hx hb dX5_judgedMove_35 rfl (lv_at hl 1 rfl) ?_
      refine lv_iload hx hb dX5_judgedMove_36 (lv_at hl 4 rfl) ?_
      obtain ⟨r38, h38, h⟩ := bnd h
      refine g_calll0 (isC := [2]) (gn := fun _ => [wRO g ad (adN 0) aK aD (adS 0) aT (adL 0) aE ro, wEV g adN nw, wSH g adS sh, wLW g adL z25.1]) (g_runVN (isC := [2]) (rest := []) (As := [.int p1, .int z25.2.2]) X hw (c_X3_cell l (ad := adS) h38) rfl kM_X3_cell ki_X3_cell ks_X3_cell km_X5_92 ⟨(Nat.le_of_ble_eq_true rfl), (Nat.le_of_ble_eq_true rfl)⟩ ⟨(Nat.le_of_ble_eq_true rfl), (Nat.le_of_ble_eq_true rfl)⟩ rfl rfl ⟨_, _, _, _, rfl, rfl, rfl, rfl⟩ rfl hl.1 rfl (Nat.le_of_ble_eq_true rfl) dX5_judgedMove_38) hw rfl rfl (fun _ => (Nat.le_of_ble_eq_true rfl)) (fun _ => rfl) rfl rfl (fun _ H locs hw => ?_)
      refine lv_lstore (lv' := [(6, .long r38), (0, .ref (ad 0)), (1, .int p1), (2, .int p2), (4, .int z25.2.1), (5, .int z25.2.2)]) hx hb dX5_judgedMove_41 hl (by decide) rfl (fun ls hl => ?_)
      refine lv_lload hx hb dX5_judgedMove_43 (lv_at hl 0 rfl) ?_
      refine lv_lconst (v := 0) hx hb dX5_judgedMove_45 (by decide) ?_
      refine W.lcmp hx hb dX5_judgedMove_46 ?_
      refine lv_if_lt (tgt := 77) hx hb dX5_judgedMove_47 (by decide) (fun k47 => ?_) (fun k47 => ?_)
      · have h := itt k47 h
        refine lv_iload hx hb dX5_judgedMove_77 (lv_at hl 5 rfl) ?_
        have h := Option.some.inj h
        subst h
        exact hret () dX5_judgedMove_79 rfl hw
      · have h := itf k47 h
        refine lv_lload hx hb dX5_judgedMove_50 (lv_at hl 0 rfl) ?_
        refine lv_ldc2 hx hb X.1.2.2.2.1 (gK1 X _ kq_X5_371) dX5_judgedMove_52 ?_
        refine W.lcmp hx hb dX5_judgedMove_55 ?_
        refine lv_if_gt (tgt := 77) hx hb dX5_judgedMove_56 (by decide) (fun k56 => ?_) (fun k56 => ?_)
        · have h := itt k56 h
          refine lv_iload hx hb dX5_judgedMove_77 (lv_at hl 5 rfl) ?_
          have h := Option.some.inj h
          subst h
          exact hret () dX5_judgedMove_79 rfl hw
        · have h := itf k56 h
          refine lv_aload_n hx hb dX5_judgedMove_59 rfl (lv_at hl 1 rfl) ?_
          refine RO_g_law X hw 0 rfl kf_X5_39 dX5_judgedMove_60 ?_
          refine lv_iload hx hb dX5_judgedMove_63 (lv_at hl 4 rfl) ?_
          obtain ⟨r65, h65, h⟩ := bnd h
          refine g_calli0 (isC := [3]) (gn := fun _ => [wRO g ad (adN 0) aK aD (adS 0) aT (adL 0) aE ro, wEV g adN nw, wSH g adS sh, wLW g adL z25.1]) (g_runVN (isC := [3]) (rest := []) (As := [.int z25.2.1]) X hw (c_X1_legalIn l (ad := adL) h65) rfl kM_X1_legalIn ki_X1_legalIn ks_X1_legalIn km_X5_334 ⟨(Nat.le_of_ble_eq_true rfl), (Nat.le_of_ble_eq_true rfl)⟩ ⟨(Nat.le_of_ble_eq_true rfl), (Nat.le_of_ble_eq_true rfl)⟩ rfl rfl ⟨_, _, _, _, rfl, rfl, rfl, rfl⟩ rfl hl.1 rfl (Nat.le_of_ble_eq_true rfl) dX5_judgedMove_65) hw rfl rfl (fun _ => (Nat.le_of_ble_eq_true rfl)) (fun _ => rfl) rfl rfl (fun _ H locs hw => ?_)
          refine lv_lload hx hb dX5_judgedMove_68 (lv_at hl 0 rfl) ?_
          refine lv_l2i (v := r38.toInt32) hx hb dX5_judgedMove_70 rfl ?_
          obtain ⟨r71, h71, h⟩ := bnd h
          refine g_calli0 (isC := []) (gn := fun _ => [wRO g ad (adN 0) aK aD (adS 0) aT (adL 0) aE ro, wEV g adN nw, wSH g adS sh, wLW g adL z25.1]) (g_runS (isC := []) (rest := []) (As := [.int r65, .int r38.toInt32]) X hw (c_X5_hasBit l h71) rfl kM_X5_hasBit kt_X5_hasBit km_X5_223 ⟨(Nat.le_of_ble_eq_true rfl), (Nat.le_of_ble_eq_true rfl)⟩ ⟨(Nat.le_of_ble_eq_true rfl), (Nat.le_of_ble_eq_true rfl)⟩ rfl rfl rfl hl.1 rfl (Nat.le_of_ble_eq_true rfl) dX5_judgedMove_71) hw rfl rfl (fun _ => (Nat.le_of_ble_eq_true rfl)) (fun _ => rfl) rfl rfl (fun _ H locs hw => ?_)
          refine lv_if_ne (tgt := 80) hx hb dX5_judgedMove_74 (by decide) (fun k74 => ?_) (fun k74 => ?_)
          · have h := itt k74 h
            refine lv_iload hx hb dX5_judgedMove_80 (lv_at hl 4 rfl) ?_
            refine lv_lload hx hb dX5_judgedMove_82 (lv_at hl 0 rfl) ?_
            refine lv_l2i (v := r38.toInt32) hx hb dX5_judgedMove_84 rfl ?_
            obtain ⟨r85, h85, h⟩ := bnd h
            refine g_calli0 (isC := []) (gn := fun _ => [wRO g ad (adN 0) aK aD (adS 0) aT (adL 0) aE ro, wEV g adN nw, wSH g adS sh, wLW g adL z25.1]) (g_runS (isC := []) (rest := [.int z25.2.1]) (As := [.int r38.toInt32]) X hw (c_X5_ringsOf l h85) rfl kM_X5_ringsOf kt_X5_ringsOf km_X5_232 ⟨(Nat.le_of_ble_eq_true rfl), (Nat.le_of_ble_eq_true rfl)⟩ ⟨(Nat.le_of_ble_eq_true rfl), (Nat.le_of_ble_eq_true rfl)⟩ rfl rfl rfl hl.1 rfl (Nat.le_of_ble_eq_true rfl) dX5_judgedMove_85) hw rfl rfl (fun _ => (Nat.le_of_ble_eq_true rfl)) (fun _ => rfl) rfl rfl (fun _ H locs hw => ?_)
            refine lv_ixor hx hb dX5_judgedMove_88 ?_
            refine lv_istore (lv' := [(4, .int (z25.2.1 ^^^ r85)), (6, .long r38), (0, .ref (ad 0)), (1, .int p1), (2, .int p2), (5, .int z25.2.2)]) hx hb dX5_judgedMove_89 hl (by decide) rfl (fun ls hl => ?_)
            refine lv_iinc (v := (z25.2.2 + 1)) (lv' := [(5, .int (z25.2.2 + 1)), (4, .int (z25.2.1 ^^^ r85)), (6, .long r38), (0, .ref (ad 0)), (1, .int p1), (2, .int p2)]) hx hb dX5_judgedMove_91 hl (k := 5) rfl rfl (by decide) rfl (fun ls hl => ?_)
            refine lv_goto (tgt := 25) hx hb dX5_judgedMove_94 (by decide) ?_
            exact ih25 _ h _ _ _ hw (lv_sub hl [3, 4, 5, 1, 0] rfl)
          · have h := itf (fun z => z k74) h
            refine lv_iload hx hb dX5_judgedMove_77 (lv_at hl 5 rfl) ?_
            have h := Option.some.inj h
            subst h
            exact hret () dX5_judgedMove_79 rfl hw
  unfold M_X5_judgedMove at h
  refine lv_aload_n hx hb dX5_judgedMove_0 rfl (lv_at hl 0 rfl) ?_
  refine RO_g_law X hw 0 rfl kf_X5_39 dX5_judgedMove_1 ?_
  refine lv_aload_n hx hb dX5_judgedMove_4 rfl (lv_at hl 0 rfl) ?_
  refine RO_g_now X hw 0 rfl kf_X5_12 dX5_judgedMove_5 ?_
  refine lv_iload_n hx hb dX5_judgedMove_8 rfl (lv_at hl 3 rfl) ?_
  obtain ⟨r9, h9, h⟩ := bnd h
  refine g_callv0 (isC := [3, 1]) (gn := fun _ => [wRO g ad (adN 0) aK aD (adS 0) aT (adL 0) aE ro, wEV g adN nw, wSH g adS sh, wLW g adL r9]) (g_runVN (isC := [3, 1]) (rest := []) (As := [.ref (adN 0), .int p3]) X hw (c_X1_take l (ad := adL) (ad1 := adN) h9) rfl kM_X1_take ki_X1_take ks_X1_take km_X5_330 ⟨(Nat.le_of_ble_eq_true rfl), (Nat.le_of_ble_eq_true rfl)⟩ ⟨(Nat.le_of_ble_eq_true rfl), (Nat.le_of_ble_eq_true rfl)⟩ rfl rfl ⟨_, _, _, _, rfl, rfl, rfl, rfl⟩ rfl hl.1 rfl (Nat.le_of_ble_eq_true rfl) dX5_judgedMove_9) hw rfl rfl (fun _ => (Nat.le_of_ble_eq_true rfl)) (fun _ => rfl) rfl rfl (fun _ H locs hw => ?_)
  refine lv_aload_n hx hb dX5_judgedMove_12 rfl (lv_at hl 0 rfl) ?_
  refine RO_g_now X hw 0 rfl kf_X5_12 dX5_judgedMove_13 ?_
  refine lv_iload_n hx hb dX5_judgedMove_16 rfl (lv_at hl 3 rfl) ?_
  obtain ⟨r17, h17, h⟩ := bnd h
  refine g_calli0 (isC := [1]) (gn := fun _ => [wRO g ad (adN 0) aK aD (adS 0) aT (adL 0) aE ro, wEV g adN nw, wSH g adS sh, wLW g adL r9]) (g_runVN (isC := [1]) (rest := []) (As := [.int p3]) X hw (c_X0_onOf l (ad := adN) h17) rfl kM_X0_onOf ki_X0_onOf ks_X0_onOf km_X5_122 ⟨(Nat.le_of_ble_eq_true rfl), (Nat.le_of_ble_eq_true rfl)⟩ ⟨(Nat.le_of_ble_eq_true rfl), (Nat.le_of_ble_eq_true rfl)⟩ rfl rfl ⟨_, _, _, _, rfl, rfl, rfl, rfl⟩ rfl hl.1 rfl (Nat.le_of_ble_eq_true rfl) dX5_judgedMove_17) hw rfl rfl (fun _ => (Nat.le_of_ble_eq_true rfl)) (fun _ => rfl) rfl rfl (fun _ H locs hw => ?_)
  refine lv_istore (lv' := [(4, .int r17), (0, .ref (ad 0)), (1, .int p1), (2, .int p2), (3, .int p3)]) hx hb dX5_judgedMove_20 hl (by decide) rfl (fun ls hl => ?_)
  refine lv_iconst (v := 0) hx hb dX5_judgedMove_22 (by decide) ?_
  refine lv_istore (lv' := [(5, .int (0 : Int32)), (4, .int r17), (0, .ref (ad 0)), (1, .int p1), (2, .int p2), (3, .int p3)]) hx hb dX5_judgedMove_23 hl (by decide) rfl (fun ls hl => ?_)
  exact L25 N _ h _ _ _ hw (lv_sub hl [2, 3, 4, 1, 0] rfl)
theorem kM_X5_sayingOf : kM yX5_sayingOf cX5_sayingOf 4 (some FieldType.int) 3 := ⟨kc_X5_sayingOf, kn_RingsOff, by decide +kernel⟩
abbrev R_X5_sayingOf : Room := { frames := 8, cells := 0, slots := 0, locals := 171 }
set_option maxHeartbeats 4000000 in
set_option maxRecDepth 100000 in
theorem c_X5_sayingOf (l : Launch) {ad : Nat → Nat} {adN : Nat → Nat} {adL : Nat → Nat} {adE : Nat → Nat} {aK : Nat} {aD : Nat} {aS : Nat} {aT : Nat} {N : Nat} {ro : RO} {nw : EV} {lw : LW} {se : SE} {p1 : Int32} {p2 : Int32} {p3 : Int32} {out : Int32 × LW × SE} (h : M_X5_sayingOf N ro nw lw se p1 p2 p3 = some out) : gM l yX5_sayingOf cX5_sayingOf 4 (some FieldType.int) R_X5_sayingOf (fun _ => [.ref (ad 0), .int p1, .int p2, .int p3]) (fun g => [wRO g ad (adN 0) aK aD aS aT (adL 0) (adE 0) ro, wEV g adN nw, wLW g adL lw, wSE g adE se]) (gQi (fun (_ : Unit) => out.1) (fun g (_ : Unit) => [wRO g ad (adN 0) aK aD aS aT (adL 0) (adE 0) ro, wEV g adN nw, wLW g adL out.2.1, wSE g adE out.2.2])) := by
  refine gM.ofi (by decide +kernel) (fun _ => Nat.le_of_ble_eq_true rfl) (fun g p e s m args below meth c A ls Q X hret hw hl => ?_)
  have hx := X.1.1
  have hb := X.1.2.1
  have hl : lv_has ls 4 [(0, .ref (ad 0)), (1, .int p1), (2, .int p2), (3, .int p3)] := hl
  have J66 : ∀ (z66 : LW × SE × Int64), M_X5_sayingOf_j66 N ro nw p1 p2 p3 z66 = some out → ∀ (H : Heap) (locs : List Loc) (ls : Array Slot), gW g A s.heap [wRO g ad (adN 0) aK aD aS aT (adL 0) (adE 0) ro, wEV g adN nw, wLW g adL z66.1, wSE g adE z66.2.1] H locs → lv_has ls 4 [] → W p l e R_X5_sayingOf s m args below meth c H locs 0 0 Q (F0 m 66 ls [.long z66.2.2]) := by
    intro z66 h H locs ls hw hl
    unfold M_X5_sayingOf_j66 at h
    obtain ⟨r66, h66, h⟩ := bnd h
    refine g_calll0 (isC := []) (gn := fun _ => [wRO g ad (adN 0) aK aD aS aT (adL 0) (adE 0) ro, wEV g adN nw, wLW g adL z66.1, wSE g adE z66.2.1]) (g_runS (isC := []) (rest := []) (As := [.long z66.2.2]) X hw (c_X5_grayPlace l h66) rfl kM_X5_grayPlace kt_X5_grayPlace km_X5_136 ⟨(Nat.le_of_ble_eq_true rfl), (Nat.le_of_ble_eq_true rfl)⟩ ⟨(Nat.le_of_ble_eq_true rfl), (Nat.le_of_ble_eq_true rfl)⟩ rfl rfl rfl hl.1 rfl (Nat.le_of_ble_eq_true rfl) dX5_sayingOf_66) hw rfl rfl (fun _ => (Nat.le_of_ble_eq_true rfl)) (fun _ => rfl) rfl rfl (fun _ H locs hw => ?_)
    refine lv_l2i (v := r66.toInt32) hx hb dX5_sayingOf_69 rfl ?_
    have h := Option.some.inj h
    subst h
    exact hret () dX5_sayingOf_70 rfl hw
  unfold M_X5_sayingOf at h
  refine lv_iload_n hx hb dX5_sayingOf_0 rfl (lv_at hl 2 rfl) ?_
  by_cases k1_0 : p2 = 1
  · have h := itt k1_0 h
    refine lv_tableIn (off := 35) (tgt := 36) hx hb dX5_sayingOf_1 (by rw [k1_0]; decide) (by rw [k1_0]; decide) (by rw [k1_0]; rfl) (by decide) ?_
    refine lv_aload_n hx hb dX5_sayingOf_36 rfl (lv_at hl 0 rfl) ?_
    refine RO_g_now X hw 0 rfl kf_X5_12 dX5_sayingOf_37 ?_
    refine lv_iload_n hx hb dX5_sayingOf_40 rfl (lv_at hl 1 rfl) ?_
    obtain ⟨r41, h41, h⟩ := bnd h
    refine g_calli0 (isC := [1]) (gn := fun _ => [wRO g ad (adN 0) aK aD aS aT (adL 0) (adE 0) ro, wEV g adN nw, wLW g adL lw, wSE g adE se]) (g_runVN (isC := [1]) (rest := []) (As := [.int p1]) X hw (c_X0_kindOf l (ad := adN) h41) rfl kM_X0_kindOf ki_X0_kindOf ks_X0_kindOf km_X5_116 ⟨(Nat.le_of_ble_eq_true rfl), (Nat.le_of_ble_eq_true rfl)⟩ ⟨(Nat.le_of_ble_eq_true rfl), (Nat.le_of_ble_eq_true rfl)⟩ rfl rfl ⟨_, _, _, _, rfl, rfl, rfl, rfl⟩ rfl hl.1 rfl (Nat.le_of_ble_eq_true rfl) dX5_sayingOf_41) hw rfl rfl (fun _ => (Nat.le_of_ble_eq_true rfl)) (fun _ => rfl) rfl rfl (fun _ H locs hw => ?_)
    refine lv_iconst (v := 4) hx hb dX5_sayingOf_44 (by decide) ?_
    refine lv_icmp_ne (tgt := 64) hx hb dX5_sayingOf_45 (by decide) (fun k45 => ?_) (fun k45 => ?_)
    · have h := itt k45 h
      refine lv_iload_n hx hb dX5_sayingOf_64 rfl (lv_at hl 3 rfl) ?_
      refine lv_i2l (v := p3.toInt64) hx hb dX5_sayingOf_65 rfl ?_
      exact J66 _ h _ _ _ hw (lv_sub hl [] rfl)
    · have h := itf (fun z => z k45) h
      refine lv_iload_n hx hb dX5_sayingOf_48 rfl (lv_at hl 3 rfl) ?_
      refine lv_aload_n hx hb dX5_sayingOf_49 rfl (lv_at hl 0 rfl) ?_
      refine RO_g_now X hw 0 rfl kf_X5_12 dX5_sayingOf_50 ?_
      refine lv_iload_n hx hb dX5_sayingOf_53 rfl (lv_at hl 1 rfl) ?_
      obtain ⟨r54, h54, h⟩ := bnd h
      refine g_calli0 (isC := [1]) (gn := fun _ => [wRO g ad (adN 0) aK aD aS aT (adL 0) (adE 0) ro, wEV g adN nw, wLW g adL lw, wSE g adE se]) (g_runVN (isC := [1]) (rest := [.int p3]) (As := [.int p1]) X hw (c_X0_sizeOf l (ad := adN) h54) rfl kM_X0_sizeOf ki_X0_sizeOf ks_X0_sizeOf km_X5_129 ⟨(Nat.le_of_ble_eq_true rfl), (Nat.le_of_ble_eq_true rfl)⟩ ⟨(Nat.le_of_ble_eq_true rfl), (Nat.le_of_ble_eq_true rfl)⟩ rfl rfl ⟨_, _, _, _, rfl, rfl, rfl, rfl⟩ rfl hl.1 rfl (Nat.le_of_ble_eq_true rfl) dX5_sayingOf_54) hw rfl rfl (fun _ => (Nat.le_of_ble_eq_true rfl)) (fun _ => rfl) rfl rfl (fun _ H locs hw => ?_)
      obtain ⟨r57, h57, h⟩ := bnd h
      refine g_calli0 (isC := []) (gn := fun _ => [wRO g ad (adN 0) aK aD aS aT (adL 0) (adE 0) ro, wEV g adN nw, wLW g adL lw, wSE g adE se]) (g_runS (isC := []) (rest := []) (As := [.int p3, .int r54]) X hw (c_X5_turned l h57) rfl kM_X5_turned kt_X5_turned km_X5_132 ⟨(Nat.le_of_ble_eq_true rfl), (Nat.le_of_ble_eq_true rfl)⟩ ⟨(Nat.le_of_ble_eq_true rfl), (Nat.le_of_ble_eq_true rfl)⟩ rfl rfl rfl hl.1 rfl (Nat.le_of_ble_eq_true rfl) dX5_sayingOf_57) hw rfl rfl (fun _ => (Nat.le_of_ble_eq_true rfl)) (fun _ => rfl) rfl rfl (fun _ H locs hw => ?_)
      refine lv_i2l (v := r57.toInt64) hx hb dX5_sayingOf_60 rfl ?_
      refine lv_goto (tgt := 66) hx hb dX5_sayingOf_61 (by decide) ?_
      exact J66 _ h _ _ _ hw (lv_sub hl [] rfl)
  have h := itf k1_0 h
  by_cases k1_1 : p2 = 2
  · have h := itt k1_1 h
    refine lv_tableIn (off := 70) (tgt := 71) hx hb dX5_sayingOf_1 (by rw [k1_1]; decide) (by rw [k1_1]; decide) (by rw [k1_1]; rfl) (by decide) ?_
    refine lv_aload_n hx hb dX5_sayingOf_71 rfl (lv_at hl 0 rfl) ?_
    refine lv_iload_n hx hb dX5_sayingOf_72 rfl (lv_at hl 1 rfl) ?_
    refine lv_iload_n hx hb dX5_sayingOf_73 rfl (lv_at hl 3 rfl) ?_
    refine lv_iconst (v := 0) hx hb dX5_sayingOf_74 (by decide) ?_
    obtain ⟨r75, h75, h⟩ := bnd h
    refine g_calli0 (isC := [0, 1, 2, 3]) (gn := fun _ => [wRO g ad (adN 0) aK aD aS aT (adL 0) (adE 0) ro, wEV g adN nw, wLW g adL r75.2.1, wSE g adE r75.2.2]) (g_runV (isC := [0, 1, 2, 3]) (rest := []) (As := [.int p1, .int p3, .int (0 : Int32)]) X hw (c_X5_leadTo l (ad := ad) (adN := adN) (adL := adL) (adE := adE) (aK := aK) (aD := aD) (aS := aS) (aT := aT) h75) rfl kM_X5_leadTo ki_X5_leadTo ks_X5_leadTo km_X5_140 ⟨(Nat.le_of_ble_eq_true rfl), (Nat.le_of_ble_eq_true rfl)⟩ ⟨(Nat.le_of_ble_eq_true rfl), (Nat.le_of_ble_eq_true rfl)⟩ rfl rfl ⟨_, _, _, _, rfl, rfl, rfl, rfl⟩ rfl hl.1 rfl (Nat.le_of_ble_eq_true rfl) dX5_sayingOf_75) hw rfl rfl (fun _ => (Nat.le_of_ble_eq_true rfl)) (fun _ => rfl) rfl rfl (fun _ H locs hw => ?_)
    have h := Option.some.inj h
    subst h
    exact hret () dX5_sayingOf_78 rfl hw
  have h := itf k1_1 h
  by_cases k1_2 : p2 = 3
  · have h := itt k1_2 h
    refine lv_tableIn (off := 78) (tgt := 79) hx hb dX5_sayingOf_1 (by rw [k1_2]; decide) (by rw [k1_2]; decide) (by rw [k1_2]; rfl) (by decide) ?_
    refine lv_aload_n hx hb dX5_sayingOf_79 rfl (lv_at hl 0 rfl) ?_
    refine lv_iload_n hx hb dX5_sayingOf_80 rfl (lv_at hl 1 rfl) ?_
    obtain ⟨r81, h81, h⟩ := bnd h
    refine g_calli0 (isC := [0, 1, 2]) (gn := fun _ => [wRO g ad (adN 0) aK aD aS aT (adL 0) (adE 0) ro, wEV g adN nw, wLW g adL r81.2, wSE g adE se]) (g_runV (isC := [0, 1, 2]) (rest := []) (As := [.int p1]) X hw (c_X5_legalNow l (ad := ad) (adN := adN) (adL := adL) (aK := aK) (aD := aD) (aS := aS) (aT := aT) (aE := (adE 0)) h81) rfl kM_X5_legalNow ki_X5_legalNow ks_X5_legalNow km_X5_143 ⟨(Nat.le_of_ble_eq_true rfl), (Nat.le_of_ble_eq_true rfl)⟩ ⟨(Nat.le_of_ble_eq_true rfl), (Nat.le_of_ble_eq_true rfl)⟩ rfl rfl ⟨_, _, _, _, rfl, rfl, rfl, rfl⟩ rfl hl.1 rfl (Nat.le_of_ble_eq_true rfl) dX5_sayingOf_81) hw rfl rfl (fun _ => (Nat.le_of_ble_eq_true rfl)) (fun _ => rfl) rfl rfl (fun _ H locs hw => ?_)
    obtain ⟨r84, h84, h⟩ := bnd h
    refine g_calli0 (isC := []) (gn := fun _ => [wRO g ad (adN 0) aK aD aS aT (adL 0) (adE 0) ro, wEV g adN nw, wLW g adL r81.2, wSE g adE se]) (g_runS (isC := []) (rest := []) (As := [.int r81.1]) X hw (c_J6_bitCount_0f7a4 l h84) rfl kM_J6_bitCount_0f7a4 kt_J6_bitCount_0f7a4 km_X5_146 ⟨(Nat.le_of_ble_eq_true rfl), (Nat.le_of_ble_eq_true rfl)⟩ ⟨(Nat.le_of_ble_eq_true rfl), (Nat.le_of_ble_eq_true rfl)⟩ rfl rfl rfl hl.1 rfl (Nat.le_of_ble_eq_true rfl) dX5_sayingOf_84) hw rfl rfl (fun _ => (Nat.le_of_ble_eq_true rfl)) (fun _ => rfl) rfl rfl (fun _ H locs hw => ?_)
    have h := Option.some.inj h
    subst h
    exact hret () dX5_sayingOf_87 rfl hw
  have h := itf k1_2 h
  by_cases k1_3 : p2 = 4
  · have h := itt k1_3 h
    refine lv_tableIn (off := 87) (tgt := 88) hx hb dX5_sayingOf_1 (by rw [k1_3]; decide) (by rw [k1_3]; decide) (by rw [k1_3]; rfl) (by decide) ?_
    refine lv_iload_n hx hb dX5_sayingOf_88 rfl (lv_at hl 3 rfl) ?_
    obtain ⟨r89, h89, h⟩ := bnd h
    refine g_calli0 (isC := []) (gn := fun _ => [wRO g ad (adN 0) aK aD aS aT (adL 0) (adE 0) ro, wEV g adN nw, wLW g adL lw, wSE g adE se]) (g_runS (isC := []) (rest := []) (As := [.int p3]) X hw (c_X5_lastRing l h89) rfl kM_X5_lastRing kt_X5_lastRing km_X5_151 ⟨(Nat.le_of_ble_eq_true rfl), (Nat.le_of_ble_eq_true rfl)⟩ ⟨(Nat.le_of_ble_eq_true rfl), (Nat.le_of_ble_eq_true rfl)⟩ rfl rfl rfl hl.1 rfl (Nat.le_of_ble_eq_true rfl) dX5_sayingOf_89) hw rfl rfl (fun _ => (Nat.le_of_ble_eq_true rfl)) (fun _ => rfl) rfl rfl (fun _ H locs hw => ?_)
    have h := Option.some.inj h
    subst h
    exact hret () dX5_sayingOf_92 rfl hw
  have h := itf k1_3 h
  by_cases k1_4 : p2 = 5
  · have h := itt k1_4 h
    refine lv_tableIn (off := 92) (tgt := 93) hx hb dX5_sayingOf_1 (by rw [k1_4]; decide) (by rw [k1_4]; decide) (by rw [k1_4]; rfl) (by decide) ?_
    refine lv_aload_n hx hb dX5_sayingOf_93 rfl (lv_at hl 0 rfl) ?_
    refine RO_g_now X hw 0 rfl kf_X5_12 dX5_sayingOf_94 ?_
    refine lv_iload_n hx hb dX5_sayingOf_97 rfl (lv_at hl 1 rfl) ?_
    obtain ⟨r98, h98, h⟩ := bnd h
    refine g_calli0 (isC := [1]) (gn := fun _ => [wRO g ad (adN 0) aK aD aS aT (adL 0) (adE 0) ro, wEV g adN nw, wLW g adL lw, wSE g adE se]) (g_runVN (isC := [1]) (rest := []) (As := [.int p1]) X hw (c_X0_tabledRings l (ad := adN) h98) rfl kM_X0_tabledRings ki_X0_tabledRings ks_X0_tabledRings km_X5_154 ⟨(Nat.le_of_ble_eq_true rfl), (Nat.le_of_ble_eq_true rfl)⟩ ⟨(Nat.le_of_ble_eq_true rfl), (Nat.le_of_ble_eq_true rfl)⟩ rfl rfl ⟨_, _, _, _, rfl, rfl, rfl, rfl⟩ rfl hl.1 rfl (Nat.le_of_ble_eq_true rfl) dX5_sayingOf_98) hw rfl rfl (fun _ => (Nat.le_of_ble_eq_true rfl)) (fun _ => rfl) rfl rfl (fun _ H locs hw => ?_)
    have h := Option.some.inj h
    subst h
    exact hret () dX5_sayingOf_101 rfl hw
  have h := itf k1_4 h
  refine lv_tableOut (tgt := 102) hx hb dX5_sayingOf_1 (g_out (lo := 1) (hi := 5) p2 (fun q h1 h2 => ?_)) (by decide) ?_
  · rcases (show q = 1 ∨ q = 2 ∨ q = 3 ∨ q = 4 ∨ q = 5 by omega) with rfl | rfl | rfl | rfl | rfl     
    · exact fun e => k1_0 (Int32.toInt_inj.mp (e.trans rfl))
    · exact fun e => k1_1 (Int32.toInt_inj.mp (e.trans rfl))
    · exact fun e => k1_2 (Int32.toInt_inj.mp (e.trans rfl))
    · exact fun e => k1_3 (Int32.toInt_inj.mp (e.trans rfl))
    · exact fun e => k1_4 (Int32.toInt_inj.mp (e.trans rfl))
  refine lv_iload_n hx hb dX5_sayingOf_102 rfl (lv_at hl 3 rfl) ?_
  obtain ⟨r103, h103, h⟩ := bnd h
  refine g_calli0 (isC := []) (gn := fun _ => [wRO g ad (adN 0) aK aD aS aT (adL 0) (adE 0) ro, wEV g adN nw, wLW g adL lw, wSE g adE se]) (g_runS (isC := []) (rest := []) (As := [.int p3]) X hw (c_J6_bitCount_0f7a4 l h103) rfl kM_J6_bitCount_0f7a4 kt_J6_bitCount_0f7a4 km_X5_146 ⟨(Nat.le_of_ble_eq_true rfl), (Nat.le_of_ble_eq_true rfl)⟩ ⟨(Nat.le_of_ble_eq_true rfl), (Nat.le_of_ble_eq_true rfl)⟩ rfl rfl rfl hl.1 rfl (Nat.le_of_ble_eq_true rfl) dX5_sayingOf_103) hw rfl rfl (fun _ => (Nat.le_of_ble_eq_true rfl)) (fun _ => rfl) rfl rfl (fun _ H locs hw => ?_)
  have h := Option.some.inj h
  subst h
  exact hret () dX5_sayingOf_106 rfl hw
theorem kM_X5_may : kM yX5_may cX5_may 3 (some FieldType.int) 2 := ⟨kc_X5_may, kn_RingsOff, by decide +kernel⟩
abbrev R_X5_may : Room := { frames := 6, cells := 0, slots := 0, locals := 126 }
set_option maxHeartbeats 4000000 in
set_option maxRecDepth 100000 in
theorem c_X5_may (l : Launch) {ad : Nat → Nat} {adN : Nat → Nat} {adL : Nat → Nat} {aK : Nat} {aD : Nat} {aS : Nat} {aT : Nat} {aE : Nat} {N : Nat} {ro : RO} {nw : EV} {lw : LW} {p1 : Int32} {p2 : Int32} {out : Int32 × RO × LW} (h : M_X5_may N ro nw lw p1 p2 = some out) : gM l yX5_may cX5_may 3 (some FieldType.int) R_X5_may (fun _ => [.ref (ad 0), .int p1, .int p2]) (fun g => [wRO g ad (adN 0) aK aD aS aT (adL 0) aE ro, wEV g adN nw, wLW g adL lw]) (gQi (fun (_ : Unit) => out.1) (fun g (_ : Unit) => [wRO g ad (adN 0) aK aD aS aT (adL 0) aE out.2.1, wEV g adN nw, wLW g adL out.2.2])) := by
  refine gM.ofi (by decide +kernel) (fun _ => Nat.le_of_ble_eq_true rfl) (fun g p e s m args below meth c A ls Q X hret hw hl => ?_)
  have hx := X.1.1
  have hb := X.1.2.1
  have hl : lv_has ls 3 [(0, .ref (ad 0)), (1, .int p1), (2, .int p2)] := hl
  unfold M_X5_may at h
  refine lv_aload_n hx hb dX5_may_0 rfl (lv_at hl 0 rfl) ?_
  refine RO_g_now X hw 0 rfl kf_X5_12 dX5_may_1 ?_
  refine lv_iload_n hx hb dX5_may_4 rfl (lv_at hl 1 rfl) ?_
  refine lv_iload_n hx hb dX5_may_5 rfl (lv_at hl 2 rfl) ?_
  obtain ⟨r6, h6, h⟩ := bnd h
  refine g_calli0 (isC := [1]) (gn := fun _ => [wRO g ad (adN 0) aK aD aS aT (adL 0) aE ro, wEV g adN nw, wLW g adL lw]) (g_runVN (isC := [1]) (rest := []) (As := [.int p1, .int p2]) X hw (c_X0_hasMove l (ad := adN) h6) rfl kM_X0_hasMove ki_X0_hasMove ks_X0_hasMove km_X5_220 ⟨(Nat.le_of_ble_eq_true rfl), (Nat.le_of_ble_eq_true rfl)⟩ ⟨(Nat.le_of_ble_eq_true rfl), (Nat.le_of_ble_eq_true rfl)⟩ rfl rfl ⟨_, _, _, _, rfl, rfl, rfl, rfl⟩ rfl hl.1 rfl (Nat.le_of_ble_eq_true rfl) dX5_may_6) hw rfl rfl (fun _ => (Nat.le_of_ble_eq_true rfl)) (fun _ => rfl) rfl rfl (fun _ H locs hw => ?_)
  refine lv_if_ne (tgt := 19) hx hb dX5_may_9 (by decide) (fun k9 => ?_) (fun k9 => ?_)
  · have h := itt k9 h
    refine lv_aload_n hx hb dX5_may_19 rfl (lv_at hl 0 rfl) ?_
    refine lv_iload_n hx hb dX5_may_20 rfl (lv_at hl 1 rfl) ?_
    obtain ⟨r21, h21, h⟩ := bnd h
    refine g_calli0 (isC := [0, 1, 2]) (gn := fun _ => [wRO g ad (adN 0) aK aD aS aT (adL 0) aE ro, wEV g adN nw, wLW g adL r21.2]) (g_runV (isC := [0, 1, 2]) (rest := []) (As := [.int p1]) X hw (c_X5_legalNow l (ad := ad) (adN := adN) (adL := adL) (aK := aK) (aD := aD) (aS := aS) (aT := aT) (aE := aE) h21) rfl kM_X5_legalNow ki_X5_legalNow ks_X5_legalNow km_X5_143 ⟨(Nat.le_of_ble_eq_true rfl), (Nat.le_of_ble_eq_true rfl)⟩ ⟨(Nat.le_of_ble_eq_true rfl), (Nat.le_of_ble_eq_true rfl)⟩ rfl rfl ⟨_, _, _, _, rfl, rfl, rfl, rfl⟩ rfl hl.1 rfl (Nat.le_of_ble_eq_true rfl) dX5_may_21) hw rfl rfl (fun _ => (Nat.le_of_ble_eq_true rfl)) (fun _ => rfl) rfl rfl (fun _ H locs hw => ?_)
    refine lv_iload_n hx hb dX5_may_24 rfl (lv_at hl 2 rfl) ?_
    obtain ⟨r25, h25, h⟩ := bnd h
    refine g_calli0 (isC := []) (gn := fun _ => [wRO g ad (adN 0) aK aD aS aT (adL 0) aE ro, wEV g adN nw, wLW g adL r21.2]) (g_runS (isC := []) (rest := []) (As := [.int r21.1, .int p2]) X hw (c_X5_hasBit l h25) rfl kM_X5_hasBit kt_X5_hasBit km_X5_223 ⟨(Nat.le_of_ble_eq_true rfl), (Nat.le_of_ble_eq_true rfl)⟩ ⟨(Nat.le_of_ble_eq_true rfl), (Nat.le_of_ble_eq_true rfl)⟩ rfl rfl rfl hl.1 rfl (Nat.le_of_ble_eq_true rfl) dX5_may_25) hw rfl rfl (fun _ => (Nat.le_of_ble_eq_true rfl)) (fun _ => rfl) rfl rfl (fun _ H locs hw => ?_)
    refine lv_if_eq (tgt := 35) hx hb dX5_may_28 (by decide) (fun k28 => ?_) (fun k28 => ?_)
    · have h := itt k28 h
      refine lv_iconst (v := 0) hx hb dX5_may_35 (by decide) ?_
      have h := Option.some.inj h
      subst h
      exact hret () dX5_may_36 rfl hw
    · have h := itf k28 h
      refine lv_iconst (v := 1) hx hb dX5_may_31 (by decide) ?_
      refine lv_goto (tgt := 36) hx hb dX5_may_32 (by decide) ?_
      have h := Option.some.inj h
      subst h
      exact hret () dX5_may_36 rfl hw
  · have h := itf (fun z => z k9) h
    refine lv_aload_n hx hb dX5_may_12 rfl (lv_at hl 0 rfl) ?_
    refine lv_bipush (v := -2) hx hb dX5_may_13 (by decide) ?_
    obtain ⟨r15, h15, h⟩ := bnd h
    refine g_calli0 (isC := [0]) (gn := fun _ => [wRO g ad (adN 0) aK aD aS aT (adL 0) aE r15.2, wEV g adN nw, wLW g adL lw]) (g_runV (isC := [0]) (rest := []) (As := [.int (-2 : Int32)]) X hw (c_X5_refuse l (ad := ad) (aN := (adN 0)) (aK := aK) (aD := aD) (aS := aS) (aT := aT) (aL := (adL 0)) (aE := aE) h15) rfl kM_X5_refuse ki_X5_refuse ks_X5_refuse km_X5_62 ⟨(Nat.le_of_ble_eq_true rfl), (Nat.le_of_ble_eq_true rfl)⟩ ⟨(Nat.le_of_ble_eq_true rfl), (Nat.le_of_ble_eq_true rfl)⟩ rfl rfl ⟨_, _, _, _, rfl, rfl, rfl, rfl⟩ rfl hl.1 rfl (Nat.le_of_ble_eq_true rfl) dX5_may_15) hw rfl rfl (fun _ => (Nat.le_of_ble_eq_true rfl)) (fun _ => rfl) rfl rfl (fun _ H locs hw => ?_)
    have h := Option.some.inj h
    subst h
    exact hret () dX5_may_18 rfl hw
theorem kM_X5_moves : kM yX5_moves cX5_moves 2 (some FieldType.int) 1 := ⟨kc_X5_moves, kn_RingsOff, by decide +kernel⟩
abbrev R_X5_moves : Room := { frames := 6, cells := 0, slots := 0, locals := 126 }
set_option maxHeartbeats 4000000 in
set_option maxRecDepth 100000 in
theorem c_X5_moves (l : Launch) {ad : Nat → Nat} {adN : Nat → Nat} {adL : Nat → Nat} {aK : Nat} {aD : Nat} {aS : Nat} {aT : Nat} {aE : Nat} {N : Nat} {ro : RO} {nw : EV} {lw : LW} {p1 : Int32} {out : Int32 × RO × LW} (h : M_X5_moves N ro nw lw p1 = some out) : gM l yX5_moves cX5_moves 2 (some FieldType.int) R_X5_moves (fun _ => [.ref (ad 0), .int p1]) (fun g => [wRO g ad (adN 0) aK aD aS aT (adL 0) aE ro, wEV g adN nw, wLW g adL lw]) (gQi (fun (_ : Unit) => out.1) (fun g (_ : Unit) => [wRO g ad (adN 0) aK aD aS aT (adL 0) aE out.2.1, wEV g adN nw, wLW g adL out.2.2])) := by
  refine gM.ofi (by decide +kernel) (fun _ => Nat.le_of_ble_eq_true rfl) (fun g p e s m args below meth c A ls Q X hret hw hl => ?_)
  have hx := X.1.1
  have hb := X.1.2.1
  have hl : lv_has ls 2 [(0, .ref (ad 0)), (1, .int p1)] := hl
  unfold M_X5_moves at h
  refine lv_aload_n hx hb dX5_moves_0 rfl (lv_at hl 0 rfl) ?_
  refine RO_g_now X hw 0 rfl kf_X5_12 dX5_moves_1 ?_
  refine lv_iload_n hx hb dX5_moves_4 rfl (lv_at hl 1 rfl) ?_
  obtain ⟨r5, h5, h⟩ := bnd h
  refine g_calli0 (isC := [1]) (gn := fun _ => [wRO g ad (adN 0) aK aD aS aT (adL 0) aE ro, wEV g adN nw, wLW g adL lw]) (g_runVN (isC := [1]) (rest := []) (As := [.int p1]) X hw (c_X0_hasBar l (ad := adN) h5) rfl kM_X0_hasBar ki_X0_hasBar ks_X0_hasBar km_X5_99 ⟨(Nat.le_of_ble_eq_true rfl), (Nat.le_of_ble_eq_true rfl)⟩ ⟨(Nat.le_of_ble_eq_true rfl), (Nat.le_of_ble_eq_true rfl)⟩ rfl rfl ⟨_, _, _, _, rfl, rfl, rfl, rfl⟩ rfl hl.1 rfl (Nat.le_of_ble_eq_true rfl) dX5_moves_5) hw rfl rfl (fun _ => (Nat.le_of_ble_eq_true rfl)) (fun _ => rfl) rfl rfl (fun _ H locs hw => ?_)
  refine lv_if_ne (tgt := 18) hx hb dX5_moves_8 (by decide) (fun k8 => ?_) (fun k8 => ?_)
  · have h := itt k8 h
    refine lv_aload_n hx hb dX5_moves_18 rfl (lv_at hl 0 rfl) ?_
    refine lv_iload_n hx hb dX5_moves_19 rfl (lv_at hl 1 rfl) ?_
    obtain ⟨r20, h20, h⟩ := bnd h
    refine g_calli0 (isC := [0, 1, 2]) (gn := fun _ => [wRO g ad (adN 0) aK aD aS aT (adL 0) aE ro, wEV g adN nw, wLW g adL r20.2]) (g_runV (isC := [0, 1, 2]) (rest := []) (As := [.int p1]) X hw (c_X5_legalNow l (ad := ad) (adN := adN) (adL := adL) (aK := aK) (aD := aD) (aS := aS) (aT := aT) (aE := aE) h20) rfl kM_X5_legalNow ki_X5_legalNow ks_X5_legalNow km_X5_143 ⟨(Nat.le_of_ble_eq_true rfl), (Nat.le_of_ble_eq_true rfl)⟩ ⟨(Nat.le_of_ble_eq_true rfl), (Nat.le_of_ble_eq_true rfl)⟩ rfl rfl ⟨_, _, _, _, rfl, rfl, rfl, rfl⟩ rfl hl.1 rfl (Nat.le_of_ble_eq_true rfl) dX5_moves_20) hw rfl rfl (fun _ => (Nat.le_of_ble_eq_true rfl)) (fun _ => rfl) rfl rfl (fun _ H locs hw => ?_)
    have h := Option.some.inj h
    subst h
    exact hret () dX5_moves_23 rfl hw
  · have h := itf (fun z => z k8) h
    refine lv_aload_n hx hb dX5_moves_11 rfl (lv_at hl 0 rfl) ?_
    refine lv_bipush (v := -2) hx hb dX5_moves_12 (by decide) ?_
    obtain ⟨r14, h14, h⟩ := bnd h
    refine g_calli0 (isC := [0]) (gn := fun _ => [wRO g ad (adN 0) aK aD aS aT (adL 0) aE r14.2, wEV g adN nw, wLW g adL lw]) (g_runV (isC := [0]) (rest := []) (As := [.int (-2 : Int32)]) X hw (c_X5_refuse l (ad := ad) (aN := (adN 0)) (aK := aK) (aD := aD) (aS := aS) (aT := aT) (aL := (adL 0)) (aE := aE) h14) rfl kM_X5_refuse ki_X5_refuse ks_X5_refuse km_X5_62 ⟨(Nat.le_of_ble_eq_true rfl), (Nat.le_of_ble_eq_true rfl)⟩ ⟨(Nat.le_of_ble_eq_true rfl), (Nat.le_of_ble_eq_true rfl)⟩ rfl rfl ⟨_, _, _, _, rfl, rfl, rfl, rfl⟩ rfl hl.1 rfl (Nat.le_of_ble_eq_true rfl) dX5_moves_14) hw rfl rfl (fun _ => (Nat.le_of_ble_eq_true rfl)) (fun _ => rfl) rfl rfl (fun _ H locs hw => ?_)
    have h := Option.some.inj h
    subst h
    exact hret () dX5_moves_17 rfl hw
theorem kM_X5_move : kM yX5_move cX5_move 3 (some FieldType.int) 2 := ⟨kc_X5_move, kn_RingsOff, by decide +kernel⟩
abbrev R_X5_move : Room := { frames := 6, cells := 0, slots := 0, locals := 126 }
set_option maxHeartbeats 4000000 in
set_option maxRecDepth 100000 in
theorem c_X5_move (l : Launch) {ad : Nat → Nat} {adN : Nat → Nat} {adL : Nat → Nat} {aK : Nat} {aD : Nat} {aS : Nat} {aT : Nat} {aE : Nat} {N : Nat} {ro : RO} {nw : EV} {lw : LW} {p1 : Int32} {p2 : Int32} {out : Int32 × RO × EV × LW} (h : M_X5_move N ro nw lw p1 p2 = some out) : gM l yX5_move cX5_move 3 (some FieldType.int) R_X5_move (fun _ => [.ref (ad 0), .int p1, .int p2]) (fun g => [wRO g ad (adN 0) aK aD aS aT (adL 0) aE ro, wEV g adN nw, wLW g adL lw]) (gQi (fun (_ : Unit) => out.1) (fun g (_ : Unit) => [wRO g ad (adN 0) aK aD aS aT (adL 0) aE out.2.1, wEV g adN out.2.2.1, wLW g adL out.2.2.2])) := by
  refine gM.ofi (by decide +kernel) (fun _ => Nat.le_of_ble_eq_true rfl) (fun g p e s m args below meth c A ls Q X hret hw hl => ?_)
  have hx := X.1.1
  have hb := X.1.2.1
  have hl : lv_has ls 3 [(0, .ref (ad 0)), (1, .int p1), (2, .int p2)] := hl
  unfold M_X5_move at h
  refine lv_aload_n hx hb dX5_move_0 rfl (lv_at hl 0 rfl) ?_
  refine RO_g_now X hw 0 rfl kf_X5_12 dX5_move_1 ?_
  refine lv_iload_n hx hb dX5_move_4 rfl (lv_at hl 1 rfl) ?_
  refine lv_iload_n hx hb dX5_move_5 rfl (lv_at hl 2 rfl) ?_
  obtain ⟨r6, h6, h⟩ := bnd h
  refine g_calli0 (isC := [1]) (gn := fun _ => [wRO g ad (adN 0) aK aD aS aT (adL 0) aE ro, wEV g adN nw, wLW g adL lw]) (g_runVN (isC := [1]) (rest := []) (As := [.int p1, .int p2]) X hw (c_X0_hasMove l (ad := adN) h6) rfl kM_X0_hasMove ki_X0_hasMove ks_X0_hasMove km_X5_220 ⟨(Nat.le_of_ble_eq_true rfl), (Nat.le_of_ble_eq_true rfl)⟩ ⟨(Nat.le_of_ble_eq_true rfl), (Nat.le_of_ble_eq_true rfl)⟩ rfl rfl ⟨_, _, _, _, rfl, rfl, rfl, rfl⟩ rfl hl.1 rfl (Nat.le_of_ble_eq_true rfl) dX5_move_6) hw rfl rfl (fun _ => (Nat.le_of_ble_eq_true rfl)) (fun _ => rfl) rfl rfl (fun _ H locs hw => ?_)
  refine lv_if_ne (tgt := 19) hx hb dX5_move_9 (by decide) (fun k9 => ?_) (fun k9 => ?_)
  · have h := itt k9 h
    refine lv_aload_n hx hb dX5_move_19 rfl (lv_at hl 0 rfl) ?_
    refine lv_iload_n hx hb dX5_move_20 rfl (lv_at hl 1 rfl) ?_
    obtain ⟨r21, h21, h⟩ := bnd h
    refine g_calli0 (isC := [0, 1, 2]) (gn := fun _ => [wRO g ad (adN 0) aK aD aS aT (adL 0) aE ro, wEV g adN nw, wLW g adL r21.2]) (g_runV (isC := [0, 1, 2]) (rest := []) (As := [.int p1]) X hw (c_X5_legalNow l (ad := ad) (adN := adN) (adL := adL) (aK := aK) (aD := aD) (aS := aS) (aT := aT) (aE := aE) h21) rfl kM_X5_legalNow ki_X5_legalNow ks_X5_legalNow km_X5_143 ⟨(Nat.le_of_ble_eq_true rfl), (Nat.le_of_ble_eq_true rfl)⟩ ⟨(Nat.le_of_ble_eq_true rfl), (Nat.le_of_ble_eq_true rfl)⟩ rfl rfl ⟨_, _, _, _, rfl, rfl, rfl, rfl⟩ rfl hl.1 rfl (Nat.le_of_ble_eq_true rfl) dX5_move_21) hw rfl rfl (fun _ => (Nat.le_of_ble_eq_true rfl)) (fun _ => rfl) rfl rfl (fun _ H locs hw => ?_)
    refine lv_iload_n hx hb dX5_move_24 rfl (lv_at hl 2 rfl) ?_
    obtain ⟨r25, h25, h⟩ := bnd h
    refine g_calli0 (isC := []) (gn := fun _ => [wRO g ad (adN 0) aK aD aS aT (adL 0) aE ro, wEV g adN nw, wLW g adL r21.2]) (g_runS (isC := []) (rest := []) (As := [.int r21.1, .int p2]) X hw (c_X5_hasBit l h25) rfl kM_X5_hasBit kt_X5_hasBit km_X5_223 ⟨(Nat.le_of_ble_eq_true rfl), (Nat.le_of_ble_eq_true rfl)⟩ ⟨(Nat.le_of_ble_eq_true rfl), (Nat.le_of_ble_eq_true rfl)⟩ rfl rfl rfl hl.1 rfl (Nat.le_of_ble_eq_true rfl) dX5_move_25) hw rfl rfl (fun _ => (Nat.le_of_ble_eq_true rfl)) (fun _ => rfl) rfl rfl (fun _ H locs hw => ?_)
    refine lv_if_ne (tgt := 38) hx hb dX5_move_28 (by decide) (fun k28 => ?_) (fun k28 => ?_)
    · have h := itt k28 h
      refine lv_aload_n hx hb dX5_move_38 rfl (lv_at hl 0 rfl) ?_
      refine RO_g_now X hw 0 rfl kf_X5_12 dX5_move_39 ?_
      refine lv_iload_n hx hb dX5_move_42 rfl (lv_at hl 1 rfl) ?_
      refine lv_iload_n hx hb dX5_move_43 rfl (lv_at hl 2 rfl) ?_
      obtain ⟨r44, h44, h⟩ := bnd h
      refine g_callv0 (isC := [1]) (gn := fun _ => [wRO g ad (adN 0) aK aD aS aT (adL 0) aE ro, wEV g adN r44, wLW g adL r21.2]) (g_runVN (isC := [1]) (rest := []) (As := [.int p1, .int p2]) X hw (c_X0_makeMove l (ad := adN) h44) rfl kM_X0_makeMove ki_X0_makeMove ks_X0_makeMove km_X5_226 ⟨(Nat.le_of_ble_eq_true rfl), (Nat.le_of_ble_eq_true rfl)⟩ ⟨(Nat.le_of_ble_eq_true rfl), (Nat.le_of_ble_eq_true rfl)⟩ rfl rfl ⟨_, _, _, _, rfl, rfl, rfl, rfl⟩ rfl hl.1 rfl (Nat.le_of_ble_eq_true rfl) dX5_move_44) hw rfl rfl (fun _ => (Nat.le_of_ble_eq_true rfl)) (fun _ => rfl) rfl rfl (fun _ H locs hw => ?_)
      refine lv_aload_n hx hb dX5_move_47 rfl (lv_at hl 0 rfl) ?_
      refine RO_g_now X hw 0 rfl kf_X5_12 dX5_move_48 ?_
      refine lv_iload_n hx hb dX5_move_51 rfl (lv_at hl 1 rfl) ?_
      obtain ⟨r52, h52, h⟩ := bnd h
      refine g_calli0 (isC := [1]) (gn := fun _ => [wRO g ad (adN 0) aK aD aS aT (adL 0) aE ro, wEV g adN r44, wLW g adL r21.2]) (g_runVN (isC := [1]) (rest := []) (As := [.int p1]) X hw (c_X0_onOf l (ad := adN) h52) rfl kM_X0_onOf ki_X0_onOf ks_X0_onOf km_X5_122 ⟨(Nat.le_of_ble_eq_true rfl), (Nat.le_of_ble_eq_true rfl)⟩ ⟨(Nat.le_of_ble_eq_true rfl), (Nat.le_of_ble_eq_true rfl)⟩ rfl rfl ⟨_, _, _, _, rfl, rfl, rfl, rfl⟩ rfl hl.1 rfl (Nat.le_of_ble_eq_true rfl) dX5_move_52) hw rfl rfl (fun _ => (Nat.le_of_ble_eq_true rfl)) (fun _ => rfl) rfl rfl (fun _ H locs hw => ?_)
      have h := Option.some.inj h
      subst h
      exact hret () dX5_move_55 rfl hw
    · have h := itf (fun z => z k28) h
      refine lv_aload_n hx hb dX5_move_31 rfl (lv_at hl 0 rfl) ?_
      refine lv_bipush (v := -5) hx hb dX5_move_32 (by decide) ?_
      obtain ⟨r34, h34, h⟩ := bnd h
      refine g_calli0 (isC := [0]) (gn := fun _ => [wRO g ad (adN 0) aK aD aS aT (adL 0) aE r34.2, wEV g adN nw, wLW g adL r21.2]) (g_runV (isC := [0]) (rest := []) (As := [.int (-5 : Int32)]) X hw (c_X5_refuse l (ad := ad) (aN := (adN 0)) (aK := aK) (aD := aD) (aS := aS) (aT := aT) (aL := (adL 0)) (aE := aE) h34) rfl kM_X5_refuse ki_X5_refuse ks_X5_refuse km_X5_62 ⟨(Nat.le_of_ble_eq_true rfl), (Nat.le_of_ble_eq_true rfl)⟩ ⟨(Nat.le_of_ble_eq_true rfl), (Nat.le_of_ble_eq_true rfl)⟩ rfl rfl ⟨_, _, _, _, rfl, rfl, rfl, rfl⟩ rfl hl.1 rfl (Nat.le_of_ble_eq_true rfl) dX5_move_34) hw rfl rfl (fun _ => (Nat.le_of_ble_eq_true rfl)) (fun _ => rfl) rfl rfl (fun _ H locs hw => ?_)
      have h := Option.some.inj h
      subst h
      exact hret () dX5_move_37 rfl hw
  · have h := itf (fun z => z k9) h
    refine lv_aload_n hx hb dX5_move_12 rfl (lv_at hl 0 rfl) ?_
    refine lv_bipush (v := -2) hx hb dX5_move_13 (by decide) ?_
    obtain ⟨r15, h15, h⟩ := bnd h
    refine g_calli0 (isC := [0]) (gn := fun _ => [wRO g ad (adN 0) aK aD aS aT (adL 0) aE r15.2, wEV g adN nw, wLW g adL lw]) (g_runV (isC := [0]) (rest := []) (As := [.int (-2 : Int32)]) X hw (c_X5_refuse l (ad := ad) (aN := (adN 0)) (aK := aK) (aD := aD) (aS := aS) (aT := aT) (aL := (adL 0)) (aE := aE) h15) rfl kM_X5_refuse ki_X5_refuse ks_X5_refuse km_X5_62 ⟨(Nat.le_of_ble_eq_true rfl), (Nat.le_of_ble_eq_true rfl)⟩ ⟨(Nat.le_of_ble_eq_true rfl), (Nat.le_of_ble_eq_true rfl)⟩ rfl rfl ⟨_, _, _, _, rfl, rfl, rfl, rfl⟩ rfl hl.1 rfl (Nat.le_of_ble_eq_true rfl) dX5_move_15) hw rfl rfl (fun _ => (Nat.le_of_ble_eq_true rfl)) (fun _ => rfl) rfl rfl (fun _ H locs hw => ?_)
    have h := Option.some.inj h
    subst h
    exact hret () dX5_move_18 rfl hw
theorem kM_X5_fewest : kM yX5_fewest cX5_fewest 3 (some FieldType.int) 2 := ⟨kc_X5_fewest, kn_RingsOff, by decide +kernel⟩
abbrev R_X5_fewest : Room := { frames := 8, cells := 0, slots := 0, locals := 171 }
set_option maxHeartbeats 4000000 in
set_option maxRecDepth 100000 in
theorem c_X5_fewest (l : Launch) {ad : Nat → Nat} {adN : Nat → Nat} {adL : Nat → Nat} {adE : Nat → Nat} {aK : Nat} {aD : Nat} {aS : Nat} {aT : Nat} {N : Nat} {ro : RO} {nw : EV} {lw : LW} {se : SE} {p1 : Int32} {p2 : Int32} {out : Int32 × RO × LW × SE} (h : M_X5_fewest N ro nw lw se p1 p2 = some out) : gM l yX5_fewest cX5_fewest 3 (some FieldType.int) R_X5_fewest (fun _ => [.ref (ad 0), .int p1, .int p2]) (fun g => [wRO g ad (adN 0) aK aD aS aT (adL 0) (adE 0) ro, wEV g adN nw, wLW g adL lw, wSE g adE se]) (gQi (fun (_ : Unit) => out.1) (fun g (_ : Unit) => [wRO g ad (adN 0) aK aD aS aT (adL 0) (adE 0) out.2.1, wEV g adN nw, wLW g adL out.2.2.1, wSE g adE out.2.2.2])) := by
  refine gM.ofi (by decide +kernel) (fun _ => Nat.le_of_ble_eq_true rfl) (fun g p e s m args below meth c A ls Q X hret hw hl => ?_)
  have hx := X.1.1
  have hb := X.1.2.1
  have hl : lv_has ls 3 [(0, .ref (ad 0)), (1, .int p1), (2, .int p2)] := hl
  unfold M_X5_fewest at h
  refine lv_aload_n hx hb dX5_fewest_0 rfl (lv_at hl 0 rfl) ?_
  refine RO_g_now X hw 0 rfl kf_X5_12 dX5_fewest_1 ?_
  refine lv_iload_n hx hb dX5_fewest_4 rfl (lv_at hl 1 rfl) ?_
  refine lv_iload_n hx hb dX5_fewest_5 rfl (lv_at hl 2 rfl) ?_
  refine lv_i2l (v := p2.toInt64) hx hb dX5_fewest_6 rfl ?_
  obtain ⟨r7, h7, h⟩ := bnd h
  refine g_calli0 (isC := [1]) (gn := fun _ => [wRO g ad (adN 0) aK aD aS aT (adL 0) (adE 0) ro, wEV g adN nw, wLW g adL lw, wSE g adE se]) (g_runVN (isC := [1]) (rest := []) (As := [.int p1, .long p2.toInt64]) X hw (c_X0_hasSet l (ad := adN) h7) rfl kM_X0_hasSet ki_X0_hasSet ks_X0_hasSet km_X5_164 ⟨(Nat.le_of_ble_eq_true rfl), (Nat.le_of_ble_eq_true rfl)⟩ ⟨(Nat.le_of_ble_eq_true rfl), (Nat.le_of_ble_eq_true rfl)⟩ rfl rfl ⟨_, _, _, _, rfl, rfl, rfl, rfl⟩ rfl hl.1 rfl (Nat.le_of_ble_eq_true rfl) dX5_fewest_7) hw rfl rfl (fun _ => (Nat.le_of_ble_eq_true rfl)) (fun _ => rfl) rfl rfl (fun _ H locs hw => ?_)
  refine lv_if_ne (tgt := 20) hx hb dX5_fewest_10 (by decide) (fun k10 => ?_) (fun k10 => ?_)
  · have h := itt k10 h
    refine lv_aload_n hx hb dX5_fewest_20 rfl (lv_at hl 0 rfl) ?_
    refine lv_iload_n hx hb dX5_fewest_21 rfl (lv_at hl 1 rfl) ?_
    refine lv_aload_n hx hb dX5_fewest_22 rfl (lv_at hl 0 rfl) ?_
    refine RO_g_now X hw 0 rfl kf_X5_12 dX5_fewest_23 ?_
    refine lv_iload_n hx hb dX5_fewest_26 rfl (lv_at hl 1 rfl) ?_
    obtain ⟨r27, h27, h⟩ := bnd h
    refine g_calli0 (isC := [1]) (gn := fun _ => [wRO g ad (adN 0) aK aD aS aT (adL 0) (adE 0) ro, wEV g adN nw, wLW g adL lw, wSE g adE se]) (g_runVN (isC := [1]) (rest := [.int p1, .ref (ad 0)]) (As := [.int p1]) X hw (c_X0_onOf l (ad := adN) h27) rfl kM_X0_onOf ki_X0_onOf ks_X0_onOf km_X5_122 ⟨(Nat.le_of_ble_eq_true rfl), (Nat.le_of_ble_eq_true rfl)⟩ ⟨(Nat.le_of_ble_eq_true rfl), (Nat.le_of_ble_eq_true rfl)⟩ rfl rfl ⟨_, _, _, _, rfl, rfl, rfl, rfl⟩ rfl hl.1 rfl (Nat.le_of_ble_eq_true rfl) dX5_fewest_27) hw rfl rfl (fun _ => (Nat.le_of_ble_eq_true rfl)) (fun _ => rfl) rfl rfl (fun _ H locs hw => ?_)
    refine lv_iload_n hx hb dX5_fewest_30 rfl (lv_at hl 2 rfl) ?_
    obtain ⟨r31, h31, h⟩ := bnd h
    refine g_calli0 (isC := [0, 1, 2, 3]) (gn := fun _ => [wRO g ad (adN 0) aK aD aS aT (adL 0) (adE 0) ro, wEV g adN nw, wLW g adL r31.2.1, wSE g adE r31.2.2]) (g_runV (isC := [0, 1, 2, 3]) (rest := []) (As := [.int p1, .int r27, .int p2]) X hw (c_X5_leadTo l (ad := ad) (adN := adN) (adL := adL) (adE := adE) (aK := aK) (aD := aD) (aS := aS) (aT := aT) h31) rfl kM_X5_leadTo ki_X5_leadTo ks_X5_leadTo km_X5_140 ⟨(Nat.le_of_ble_eq_true rfl), (Nat.le_of_ble_eq_true rfl)⟩ ⟨(Nat.le_of_ble_eq_true rfl), (Nat.le_of_ble_eq_true rfl)⟩ rfl rfl ⟨_, _, _, _, rfl, rfl, rfl, rfl⟩ rfl hl.1 rfl (Nat.le_of_ble_eq_true rfl) dX5_fewest_31) hw rfl rfl (fun _ => (Nat.le_of_ble_eq_true rfl)) (fun _ => rfl) rfl rfl (fun _ H locs hw => ?_)
    have h := Option.some.inj h
    subst h
    exact hret () dX5_fewest_34 rfl hw
  · have h := itf (fun z => z k10) h
    refine lv_aload_n hx hb dX5_fewest_13 rfl (lv_at hl 0 rfl) ?_
    refine lv_bipush (v := -2) hx hb dX5_fewest_14 (by decide) ?_
    obtain ⟨r16, h16, h⟩ := bnd h
    refine g_calli0 (isC := [0]) (gn := fun _ => [wRO g ad (adN 0) aK aD aS aT (adL 0) (adE 0) r16.2, wEV g adN nw, wLW g adL lw, wSE g adE se]) (g_runV (isC := [0]) (rest := []) (As := [.int (-2 : Int32)]) X hw (c_X5_refuse l (ad := ad) (aN := (adN 0)) (aK := aK) (aD := aD) (aS := aS) (aT := aT) (aL := (adL 0)) (aE := (adE 0)) h16) rfl kM_X5_refuse ki_X5_refuse ks_X5_refuse km_X5_62 ⟨(Nat.le_of_ble_eq_true rfl), (Nat.le_of_ble_eq_true rfl)⟩ ⟨(Nat.le_of_ble_eq_true rfl), (Nat.le_of_ble_eq_true rfl)⟩ rfl rfl ⟨_, _, _, _, rfl, rfl, rfl, rfl⟩ rfl hl.1 rfl (Nat.le_of_ble_eq_true rfl) dX5_fewest_16) hw rfl rfl (fun _ => (Nat.le_of_ble_eq_true rfl)) (fun _ => rfl) rfl rfl (fun _ H locs hw => ?_)
    have h := Option.some.inj h
    subst h
    exact hret () dX5_fewest_19 rfl hw
theorem kM_X5_way : kM yX5_way cX5_way 6 (some FieldType.int) 3 := ⟨kc_X5_way, kn_RingsOff, by decide +kernel⟩
abbrev R_X5_way : Room := { frames := 8, cells := 0, slots := 0, locals := 171 }
set_option maxHeartbeats 4000000 in
set_option maxRecDepth 100000 in
theorem c_X5_way (l : Launch) {ad : Nat → Nat} {adN : Nat → Nat} {adL : Nat → Nat} {adE : Nat → Nat} {aK : Nat} {aD : Nat} {aS : Nat} {aT : Nat} {N : Nat} {ro : RO} {nw : EV} {lw : LW} {se : SE} {p1 : Int32} {p2 : Int32} {p3 : Int32} {out : Int32 × RO × LW × SE} (h : M_X5_way N ro nw lw se p1 p2 p3 = some out) : gM l yX5_way cX5_way 6 (some FieldType.int) R_X5_way (fun _ => [.ref (ad 0), .int p1, .int p2, .int p3]) (fun g => [wRO g ad (adN 0) aK aD aS aT (adL 0) (adE 0) ro, wEV g adN nw, wLW g adL lw, wSE g adE se]) (gQi (fun (_ : Unit) => out.1) (fun g (_ : Unit) => [wRO g ad (adN 0) aK aD aS aT (adL 0) (adE 0) out.2.1, wEV g adN nw, wLW g adL out.2.2.1, wSE g adE out.2.2.2])) := by
  refine gM.ofi (by decide +kernel) (fun _ => Nat.le_of_ble_eq_true rfl) (fun g p e s m args below meth c A ls Q X hret hw hl => ?_)
  have hx := X.1.1
  have hb := X.1.2.1
  have hl : lv_has ls 6 [(0, .ref (ad 0)), (1, .int p1), (2, .int p2), (3, .int p3)] := hl
  have L56 : ∀ (n : Nat) (z56 : RO × LW × SE × Int32 × Int32), lp (M_X5_way_l56 N nw p1 p2 p3) n z56 = some out → ∀ (H : Heap) (locs : List Loc) (ls : Array Slot), gW g A s.heap [wRO g ad (adN 0) aK aD aS aT (adL 0) (adE 0) z56.1, wEV g adN nw, wLW g adL z56.2.1, wSE g adE z56.2.2.1] H locs → lv_has ls 6 [(0, .ref (ad 0)), (3, .int p3), (4, .int z56.2.2.2.1), (5, .int z56.2.2.2.2)] → W p l e R_X5_way s m args below meth c H locs 0 0 Q (F0 m 56 ls []) := by
    refine lp_ind ?_
    intro rec56 ih56
    intro z56 h H locs ls hw hl
    unfold M_X5_way_l56 at h
    refine lv_iload hx hb dX5_way_56 (lv_at hl 3 rfl) ?_
    refine lv_iload_n hx hb dX5_way_58 rfl (lv_at hl 1 rfl) ?_
    refine lv_icmp_ge (tgt := 85) hx hb dX5_way_59 (by decide) (fun k59 => ?_) (fun k59 => ?_)
    · have h := itt k59 h
      refine lv_aload_n hx hb dX5_way_85 rfl (lv_at hl 0 rfl) ?_
      refine RO_g_search X hw 0 rfl kf_X5_46 dX5_way_86 ?_
      refine lv_iload hx hb dX5_way_89 (lv_at hl 2 rfl) ?_
      obtain ⟨r91, h91, h⟩ := bnd h
      refine g_calli0 (isC := [3]) (gn := fun _ => [wRO g ad (adN 0) aK aD aS aT (adL 0) (adE 0) z56.1, wEV g adN nw, wLW g adL z56.2.1, wSE g adE z56.2.2.1]) (g_runVN (isC := [3]) (rest := []) (As := [.int z56.2.2.2.1]) X hw (c_X2_nextMove l (ad := adE) h91) rfl kM_X2_nextMove ki_X2_nextMove ks_X2_nextMove km_X5_229 ⟨(Nat.le_of_ble_eq_true rfl), (Nat.le_of_ble_eq_true rfl)⟩ ⟨(Nat.le_of_ble_eq_true rfl), (Nat.le_of_ble_eq_true rfl)⟩ rfl rfl ⟨_, _, _, _, rfl, rfl, rfl, rfl⟩ rfl hl.1 rfl (Nat.le_of_ble_eq_true rfl) dX5_way_91) hw rfl rfl (fun _ => (Nat.le_of_ble_eq_true rfl)) (fun _ => rfl) rfl rfl (fun _ H locs hw => ?_)
      have h := Option.some.inj h
      subst h
      exact hret () dX5_way_94 rfl hw
    · have h := itf k59 h
      refine lv_iload hx hb dX5_way_62 (lv_at hl 2 rfl) ?_
      refine lv_aload_n hx hb dX5_way_64 rfl (lv_at hl 0 rfl) ?_
      refine RO_g_search X hw 0 rfl kf_X5_46 dX5_way_65 ?_
      refine lv_iload hx hb dX5_way_68 (lv_at hl 2 rfl) ?_
      obtain ⟨r70, h70, h⟩ := bnd h
      refine g_calli0 (isC := [3]) (gn := fun _ => [wRO g ad (adN 0) aK aD aS aT (adL 0) (adE 0) z56.1, wEV g adN nw, wLW g adL z56.2.1, wSE g adE z56.2.2.1]) (g_runVN (isC := [3]) (rest := [.int z56.2.2.2.1]) (As := [.int z56.2.2.2.1]) X hw (c_X2_nextMove l (ad := adE) h70) rfl kM_X2_nextMove ki_X2_nextMove ks_X2_nextMove km_X5_229 ⟨(Nat.le_of_ble_eq_true rfl), (Nat.le_of_ble_eq_true rfl)⟩ ⟨(Nat.le_of_ble_eq_true rfl), (Nat.le_of_ble_eq_true rfl)⟩ rfl rfl ⟨_, _, _, _, rfl, rfl, rfl, rfl⟩ rfl hl.1 rfl (Nat.le_of_ble_eq_true rfl) dX5_way_70) hw rfl rfl (fun _ => (Nat.le_of_ble_eq_true rfl)) (fun _ => rfl) rfl rfl (fun _ H locs hw => ?_)
      obtain ⟨r73, h73, h⟩ := bnd h
      refine g_calli0 (isC := []) (gn := fun _ => [wRO g ad (adN 0) aK aD aS aT (adL 0) (adE 0) z56.1, wEV g adN nw, wLW g adL z56.2.1, wSE g adE z56.2.2.1]) (g_runS (isC := []) (rest := [.int z56.2.2.2.1]) (As := [.int r70]) X hw (c_X5_ringsOf l h73) rfl kM_X5_ringsOf kt_X5_ringsOf km_X5_232 ⟨(Nat.le_of_ble_eq_true rfl), (Nat.le_of_ble_eq_true rfl)⟩ ⟨(Nat.le_of_ble_eq_true rfl), (Nat.le_of_ble_eq_true rfl)⟩ rfl rfl rfl hl.1 rfl (Nat.le_of_ble_eq_true rfl) dX5_way_73) hw rfl rfl (fun _ => (Nat.le_of_ble_eq_true rfl)) (fun _ => rfl) rfl rfl (fun _ H locs hw => ?_)
      refine lv_ixor hx hb dX5_way_76 ?_
      refine lv_istore (lv' := [(4, .int (z56.2.2.2.1 ^^^ r73)), (0, .ref (ad 0)), (3, .int p3), (5, .int z56.2.2.2.2)]) hx hb dX5_way_77 hl (by decide) rfl (fun ls hl => ?_)
      refine lv_iinc (v := (z56.2.2.2.2 + 1)) (lv' := [(5, .int (z56.2.2.2.2 + 1)), (4, .int (z56.2.2.2.1 ^^^ r73)), (0, .ref (ad 0)), (3, .int p3)]) hx hb dX5_way_79 hl (k := 3) rfl rfl (by decide) rfl (fun ls hl => ?_)
      refine lv_goto (tgt := 56) hx hb dX5_way_82 (by decide) ?_
      exact ih56 _ h _ _ _ hw (lv_sub hl [2, 3, 1, 0] rfl)
  have J17 : ∀ (z17 : RO × LW × SE), M_X5_way_j17 N nw p1 p2 p3 z17 = some out → ∀ (H : Heap) (locs : List Loc) (ls : Array Slot), gW g A s.heap [wRO g ad (adN 0) aK aD aS aT (adL 0) (adE 0) z17.1, wEV g adN nw, wLW g adL z17.2.1, wSE g adE z17.2.2] H locs → lv_has ls 6 [(0, .ref (ad 0))] → W p l e R_X5_way s m args below meth c H locs 0 0 Q (F0 m 17 ls []) := by
    intro z17 h H locs ls hw hl
    unfold M_X5_way_j17 at h
    refine lv_aload_n hx hb dX5_way_17 rfl (lv_at hl 0 rfl) ?_
    refine lv_bipush (v := -2) hx hb dX5_way_18 (by decide) ?_
    obtain ⟨r20, h20, h⟩ := bnd h
    refine g_calli0 (isC := [0]) (gn := fun _ => [wRO g ad (adN 0) aK aD aS aT (adL 0) (adE 0) r20.2, wEV g adN nw, wLW g adL z17.2.1, wSE g adE z17.2.2]) (g_runV (isC := [0]) (rest := []) (As := [.int (-2 : Int32)]) X hw (c_X5_refuse l (ad := ad) (aN := (adN 0)) (aK := aK) (aD := aD) (aS := aS) (aT := aT) (aL := (adL 0)) (aE := (adE 0)) h20) rfl kM_X5_refuse ki_X5_refuse ks_X5_refuse km_X5_62 ⟨(Nat.le_of_ble_eq_true rfl), (Nat.le_of_ble_eq_true rfl)⟩ ⟨(Nat.le_of_ble_eq_true rfl), (Nat.le_of_ble_eq_true rfl)⟩ rfl rfl ⟨_, _, _, _, rfl, rfl, rfl, rfl⟩ rfl hl.1 rfl (Nat.le_of_ble_eq_true rfl) dX5_way_20) hw rfl rfl (fun _ => (Nat.le_of_ble_eq_true rfl)) (fun _ => rfl) rfl rfl (fun _ H locs hw => ?_)
    have h := Option.some.inj h
    subst h
    exact hret () dX5_way_23 rfl hw
  unfold M_X5_way at h
  refine lv_aload_n hx hb dX5_way_0 rfl (lv_at hl 0 rfl) ?_
  refine RO_g_now X hw 0 rfl kf_X5_12 dX5_way_1 ?_
  refine lv_iload_n hx hb dX5_way_4 rfl (lv_at hl 1 rfl) ?_
  refine lv_iload_n hx hb dX5_way_5 rfl (lv_at hl 2 rfl) ?_
  refine lv_i2l (v := p2.toInt64) hx hb dX5_way_6 rfl ?_
  obtain ⟨r7, h7, h⟩ := bnd h
  refine g_calli0 (isC := [1]) (gn := fun _ => [wRO g ad (adN 0) aK aD aS aT (adL 0) (adE 0) ro, wEV g adN nw, wLW g adL lw, wSE g adE se]) (g_runVN (isC := [1]) (rest := []) (As := [.int p1, .long p2.toInt64]) X hw (c_X0_hasSet l (ad := adN) h7) rfl kM_X0_hasSet ki_X0_hasSet ks_X0_hasSet km_X5_164 ⟨(Nat.le_of_ble_eq_true rfl), (Nat.le_of_ble_eq_true rfl)⟩ ⟨(Nat.le_of_ble_eq_true rfl), (Nat.le_of_ble_eq_true rfl)⟩ rfl rfl ⟨_, _, _, _, rfl, rfl, rfl, rfl⟩ rfl hl.1 rfl (Nat.le_of_ble_eq_true rfl) dX5_way_7) hw rfl rfl (fun _ => (Nat.le_of_ble_eq_true rfl)) (fun _ => rfl) rfl rfl (fun _ H locs hw => ?_)
  refine lv_if_eq (tgt := 17) hx hb dX5_way_10 (by decide) (fun k10 => ?_) (fun k10 => ?_)
  · have h := itt k10 h
    exact J17 _ h _ _ _ hw (lv_sub hl [0] rfl)
  · have h := itf k10 h
    refine lv_iload_n hx hb dX5_way_13 rfl (lv_at hl 3 rfl) ?_
    refine lv_if_ge (tgt := 24) hx hb dX5_way_14 (by decide) (fun k14 => ?_) (fun k14 => ?_)
    · have h := itt k14 h
      refine lv_aload_n hx hb dX5_way_24 rfl (lv_at hl 0 rfl) ?_
      refine RO_g_now X hw 0 rfl kf_X5_12 dX5_way_25 ?_
      refine lv_iload_n hx hb dX5_way_28 rfl (lv_at hl 1 rfl) ?_
      obtain ⟨r29, h29, h⟩ := bnd h
      refine g_calli0 (isC := [1]) (gn := fun _ => [wRO g ad (adN 0) aK aD aS aT (adL 0) (adE 0) ro, wEV g adN nw, wLW g adL lw, wSE g adE se]) (g_runVN (isC := [1]) (rest := []) (As := [.int p1]) X hw (c_X0_onOf l (ad := adN) h29) rfl kM_X0_onOf ki_X0_onOf ks_X0_onOf km_X5_122 ⟨(Nat.le_of_ble_eq_true rfl), (Nat.le_of_ble_eq_true rfl)⟩ ⟨(Nat.le_of_ble_eq_true rfl), (Nat.le_of_ble_eq_true rfl)⟩ rfl rfl ⟨_, _, _, _, rfl, rfl, rfl, rfl⟩ rfl hl.1 rfl (Nat.le_of_ble_eq_true rfl) dX5_way_29) hw rfl rfl (fun _ => (Nat.le_of_ble_eq_true rfl)) (fun _ => rfl) rfl rfl (fun _ H locs hw => ?_)
      refine lv_istore (lv' := [(4, .int r29), (0, .ref (ad 0)), (1, .int p1), (2, .int p2), (3, .int p3)]) hx hb dX5_way_32 hl (by decide) rfl (fun ls hl => ?_)
      refine lv_iload_n hx hb dX5_way_34 rfl (lv_at hl 4 rfl) ?_
      refine lv_aload_n hx hb dX5_way_35 rfl (lv_at hl 1 rfl) ?_
      refine lv_iload_n hx hb dX5_way_36 rfl (lv_at hl 2 rfl) ?_
      refine lv_iload hx hb dX5_way_37 (lv_at hl 0 rfl) ?_
      refine lv_iload_n hx hb dX5_way_39 rfl (lv_at hl 3 rfl) ?_
      obtain ⟨r40, h40, h⟩ := bnd h
      refine g_calli0 (isC := [0, 1, 2, 3]) (gn := fun _ => [wRO g ad (adN 0) aK aD aS aT (adL 0) (adE 0) ro, wEV g adN nw, wLW g adL r40.2.1, wSE g adE r40.2.2]) (g_runV (isC := [0, 1, 2, 3]) (rest := [.int p3]) (As := [.int p1, .int r29, .int p2]) X hw (c_X5_leadTo l (ad := ad) (adN := adN) (adL := adL) (adE := adE) (aK := aK) (aD := aD) (aS := aS) (aT := aT) h40) rfl kM_X5_leadTo ki_X5_leadTo ks_X5_leadTo km_X5_140 ⟨(Nat.le_of_ble_eq_true rfl), (Nat.le_of_ble_eq_true rfl)⟩ ⟨(Nat.le_of_ble_eq_true rfl), (Nat.le_of_ble_eq_true rfl)⟩ rfl rfl ⟨_, _, _, _, rfl, rfl, rfl, rfl⟩ rfl hl.1 rfl (Nat.le_of_ble_eq_true rfl) dX5_way_40) hw rfl rfl (fun _ => (Nat.le_of_ble_eq_true rfl)) (fun _ => rfl) rfl rfl (fun _ H locs hw => ?_)
      refine lv_icmp_lt (tgt := 53) hx hb dX5_way_43 (by decide) (fun k43 => ?_) (fun k43 => ?_)
      · have h := itt k43 h
        refine lv_iconst (v := 0) hx hb dX5_way_53 (by decide) ?_
        refine lv_istore (lv' := [(5, .int (0 : Int32)), (4, .int r29), (0, .ref (ad 0)), (1, .int p1), (2, .int p2), (3, .int p3)]) hx hb dX5_way_54 hl (by decide) rfl (fun ls hl => ?_)
        exact L56 N _ h _ _ _ hw (lv_sub hl [2, 5, 1, 0] rfl)
      · have h := itf k43 h
        refine lv_aload_n hx hb dX5_way_46 rfl (lv_at hl 1 rfl) ?_
        refine lv_bipush (v := -5) hx hb dX5_way_47 (by decide) ?_
        obtain ⟨r49, h49, h⟩ := bnd h
        refine g_calli0 (isC := [0]) (gn := fun _ => [wRO g ad (adN 0) aK aD aS aT (adL 0) (adE 0) r49.2, wEV g adN nw, wLW g adL r40.2.1, wSE g adE r40.2.2]) (g_runV (isC := [0]) (rest := []) (As := [.int (-5 : Int32)]) X hw (c_X5_refuse l (ad := ad) (aN := (adN 0)) (aK := aK) (aD := aD) (aS := aS) (aT := aT) (aL := (adL 0)) (aE := (adE 0)) h49) rfl kM_X5_refuse ki_X5_refuse ks_X5_refuse km_X5_62 ⟨(Nat.le_of_ble_eq_true rfl), (Nat.le_of_ble_eq_true rfl)⟩ ⟨(Nat.le_of_ble_eq_true rfl), (Nat.le_of_ble_eq_true rfl)⟩ rfl rfl ⟨_, _, _, _, rfl, rfl, rfl, rfl⟩ rfl hl.1 rfl (Nat.le_of_ble_eq_true rfl) dX5_way_49) hw rfl rfl (fun _ => (Nat.le_of_ble_eq_true rfl)) (fun _ => rfl) rfl rfl (fun _ H locs hw => ?_)
        have h := Option.some.inj h
        subst h
        exact hret () dX5_way_52 rfl hw
    · have h := itf k14 h
      exact J17 _ h _ _ _ hw (lv_sub hl [0] rfl)
theorem kM_X5_between : kM yX5_between cX5_between 4 (some FieldType.int) 3 := ⟨kc_X5_between, kn_RingsOff, by decide +kernel⟩
abbrev R_X5_between : Room := { frames := 8, cells := 0, slots := 0, locals := 171 }
set_option maxHeartbeats 4000000 in
set_option maxRecDepth 100000 in
theorem c_X5_between (l : Launch) {ad : Nat → Nat} {adN : Nat → Nat} {adL : Nat → Nat} {adE : Nat → Nat} {aK : Nat} {aD : Nat} {aS : Nat} {aT : Nat} {N : Nat} {ro : RO} {nw : EV} {lw : LW} {se : SE} {p1 : Int32} {p2 : Int32} {p3 : Int32} {out : Int32 × RO × LW × SE} (h : M_X5_between N ro nw lw se p1 p2 p3 = some out) : gM l yX5_between cX5_between 4 (some FieldType.int) R_X5_between (fun _ => [.ref (ad 0), .int p1, .int p2, .int p3]) (fun g => [wRO g ad (adN 0) aK aD aS aT (adL 0) (adE 0) ro, wEV g adN nw, wLW g adL lw, wSE g adE se]) (gQi (fun (_ : Unit) => out.1) (fun g (_ : Unit) => [wRO g ad (adN 0) aK aD aS aT (adL 0) (adE 0) out.2.1, wEV g adN nw, wLW g adL out.2.2.1, wSE g adE out.2.2.2])) := by
  refine gM.ofi (by decide +kernel) (fun _ => Nat.le_of_ble_eq_true rfl) (fun g p e s m args below meth c A ls Q X hret hw hl => ?_)
  have hx := X.1.1
  have hb := X.1.2.1
  have hl : lv_has ls 4 [(0, .ref (ad 0)), (1, .int p1), (2, .int p2), (3, .int p3)] := hl
  have J26 : ∀ (z26 : RO × LW × SE), M_X5_between_j26 N nw p1 p2 p3 z26 = some out → ∀ (H : Heap) (locs : List Loc) (ls : Array Slot), gW g A s.heap [wRO g ad (adN 0) aK aD aS aT (adL 0) (adE 0) z26.1, wEV g adN nw, wLW g adL z26.2.1, wSE g adE z26.2.2] H locs → lv_has ls 4 [(0, .ref (ad 0))] → W p l e R_X5_between s m args below meth c H locs 0 0 Q (F0 m 26 ls []) := by
    intro z26 h H locs ls hw hl
    unfold M_X5_between_j26 at h
    refine lv_aload_n hx hb dX5_between_26 rfl (lv_at hl 0 rfl) ?_
    refine lv_bipush (v := -2) hx hb dX5_between_27 (by decide) ?_
    obtain ⟨r29, h29, h⟩ := bnd h
    refine g_calli0 (isC := [0]) (gn := fun _ => [wRO g ad (adN 0) aK aD aS aT (adL 0) (adE 0) r29.2, wEV g adN nw, wLW g adL z26.2.1, wSE g adE z26.2.2]) (g_runV (isC := [0]) (rest := []) (As := [.int (-2 : Int32)]) X hw (c_X5_refuse l (ad := ad) (aN := (adN 0)) (aK := aK) (aD := aD) (aS := aS) (aT := aT) (aL := (adL 0)) (aE := (adE 0)) h29) rfl kM_X5_refuse ki_X5_refuse ks_X5_refuse km_X5_62 ⟨(Nat.le_of_ble_eq_true rfl), (Nat.le_of_ble_eq_true rfl)⟩ ⟨(Nat.le_of_ble_eq_true rfl), (Nat.le_of_ble_eq_true rfl)⟩ rfl rfl ⟨_, _, _, _, rfl, rfl, rfl, rfl⟩ rfl hl.1 rfl (Nat.le_of_ble_eq_true rfl) dX5_between_29) hw rfl rfl (fun _ => (Nat.le_of_ble_eq_true rfl)) (fun _ => rfl) rfl rfl (fun _ H locs hw => ?_)
    have h := Option.some.inj h
    subst h
    exact hret () dX5_between_32 rfl hw
  unfold M_X5_between at h
  refine lv_aload_n hx hb dX5_between_0 rfl (lv_at hl 0 rfl) ?_
  refine RO_g_now X hw 0 rfl kf_X5_12 dX5_between_1 ?_
  refine lv_iload_n hx hb dX5_between_4 rfl (lv_at hl 1 rfl) ?_
  refine lv_iload_n hx hb dX5_between_5 rfl (lv_at hl 2 rfl) ?_
  refine lv_i2l (v := p2.toInt64) hx hb dX5_between_6 rfl ?_
  obtain ⟨r7, h7, h⟩ := bnd h
  refine g_calli0 (isC := [1]) (gn := fun _ => [wRO g ad (adN 0) aK aD aS aT (adL 0) (adE 0) ro, wEV g adN nw, wLW g adL lw, wSE g adE se]) (g_runVN (isC := [1]) (rest := []) (As := [.int p1, .long p2.toInt64]) X hw (c_X0_hasSet l (ad := adN) h7) rfl kM_X0_hasSet ki_X0_hasSet ks_X0_hasSet km_X5_164 ⟨(Nat.le_of_ble_eq_true rfl), (Nat.le_of_ble_eq_true rfl)⟩ ⟨(Nat.le_of_ble_eq_true rfl), (Nat.le_of_ble_eq_true rfl)⟩ rfl rfl ⟨_, _, _, _, rfl, rfl, rfl, rfl⟩ rfl hl.1 rfl (Nat.le_of_ble_eq_true rfl) dX5_between_7) hw rfl rfl (fun _ => (Nat.le_of_ble_eq_true rfl)) (fun _ => rfl) rfl rfl (fun _ H locs hw => ?_)
  refine lv_if_eq (tgt := 26) hx hb dX5_between_10 (by decide) (fun k10 => ?_) (fun k10 => ?_)
  · have h := itt k10 h
    exact J26 _ h _ _ _ hw (lv_sub hl [0] rfl)
  · have h := itf k10 h
    refine lv_aload_n hx hb dX5_between_13 rfl (lv_at hl 0 rfl) ?_
    refine RO_g_now X hw 0 rfl kf_X5_12 dX5_between_14 ?_
    refine lv_iload_n hx hb dX5_between_17 rfl (lv_at hl 1 rfl) ?_
    refine lv_iload_n hx hb dX5_between_18 rfl (lv_at hl 3 rfl) ?_
    refine lv_i2l (v := p3.toInt64) hx hb dX5_between_19 rfl ?_
    obtain ⟨r20, h20, h⟩ := bnd h
    refine g_calli0 (isC := [1]) (gn := fun _ => [wRO g ad (adN 0) aK aD aS aT (adL 0) (adE 0) ro, wEV g adN nw, wLW g adL lw, wSE g adE se]) (g_runVN (isC := [1]) (rest := []) (As := [.int p1, .long p3.toInt64]) X hw (c_X0_hasSet l (ad := adN) h20) rfl kM_X0_hasSet ki_X0_hasSet ks_X0_hasSet km_X5_164 ⟨(Nat.le_of_ble_eq_true rfl), (Nat.le_of_ble_eq_true rfl)⟩ ⟨(Nat.le_of_ble_eq_true rfl), (Nat.le_of_ble_eq_true rfl)⟩ rfl rfl ⟨_, _, _, _, rfl, rfl, rfl, rfl⟩ rfl hl.1 rfl (Nat.le_of_ble_eq_true rfl) dX5_between_20) hw rfl rfl (fun _ => (Nat.le_of_ble_eq_true rfl)) (fun _ => rfl) rfl rfl (fun _ H locs hw => ?_)
    refine lv_if_ne (tgt := 33) hx hb dX5_between_23 (by decide) (fun k23 => ?_) (fun k23 => ?_)
    · have h := itt k23 h
      refine lv_aload_n hx hb dX5_between_33 rfl (lv_at hl 0 rfl) ?_
      refine lv_iload_n hx hb dX5_between_34 rfl (lv_at hl 1 rfl) ?_
      refine lv_iload_n hx hb dX5_between_35 rfl (lv_at hl 2 rfl) ?_
      refine lv_iload_n hx hb dX5_between_36 rfl (lv_at hl 3 rfl) ?_
      obtain ⟨r37, h37, h⟩ := bnd h
      refine g_calli0 (isC := [0, 1, 2, 3]) (gn := fun _ => [wRO g ad (adN 0) aK aD aS aT (adL 0) (adE 0) ro, wEV g adN nw, wLW g adL r37.2.1, wSE g adE r37.2.2]) (g_runV (isC := [0, 1, 2, 3]) (rest := []) (As := [.int p1, .int p2, .int p3]) X hw (c_X5_leadTo l (ad := ad) (adN := adN) (adL := adL) (adE := adE) (aK := aK) (aD := aD) (aS := aS) (aT := aT) h37) rfl kM_X5_leadTo ki_X5_leadTo ks_X5_leadTo km_X5_140 ⟨(Nat.le_of_ble_eq_true rfl), (Nat.le_of_ble_eq_true rfl)⟩ ⟨(Nat.le_of_ble_eq_true rfl), (Nat.le_of_ble_eq_true rfl)⟩ rfl rfl ⟨_, _, _, _, rfl, rfl, rfl, rfl⟩ rfl hl.1 rfl (Nat.le_of_ble_eq_true rfl) dX5_between_37) hw rfl rfl (fun _ => (Nat.le_of_ble_eq_true rfl)) (fun _ => rfl) rfl rfl (fun _ H locs hw => ?_)
      have h := Option.some.inj h
      subst h
      exact hret () dX5_between_40 rfl hw
    · have h := itf (fun z => z k23) h
      exact J26 _ h _ _ _ hw (lv_sub hl [0] rfl)
theorem kM_X5_reach : kM yX5_reach cX5_reach 2 (some FieldType.int) 1 := ⟨kc_X5_reach, kn_RingsOff, by decide +kernel⟩
abbrev R_X5_reach : Room := { frames := 8, cells := 0, slots := 0, locals := 169 }
set_option maxHeartbeats 4000000 in
set_option maxRecDepth 100000 in
theorem c_X5_reach (l : Launch) {ad : Nat → Nat} {adN : Nat → Nat} {adL : Nat → Nat} {adE : Nat → Nat} {aK : Nat} {aD : Nat} {aS : Nat} {aT : Nat} {N : Nat} {ro : RO} {nw : EV} {lw : LW} {se : SE} {p1 : Int32} {out : Int32 × RO × LW × SE} (h : M_X5_reach N ro nw lw se p1 = some out) : gM l yX5_reach cX5_reach 2 (some FieldType.int) R_X5_reach (fun _ => [.ref (ad 0), .int p1]) (fun g => [wRO g ad (adN 0) aK aD aS aT (adL 0) (adE 0) ro, wEV g adN nw, wLW g adL lw, wSE g adE se]) (gQi (fun (_ : Unit) => out.1) (fun g (_ : Unit) => [wRO g ad (adN 0) aK aD aS aT (adL 0) (adE 0) out.2.1, wEV g adN nw, wLW g adL out.2.2.1, wSE g adE out.2.2.2])) := by
  refine gM.ofi (by decide +kernel) (fun _ => Nat.le_of_ble_eq_true rfl) (fun g p e s m args below meth c A ls Q X hret hw hl => ?_)
  have hx := X.1.1
  have hb := X.1.2.1
  have hl : lv_has ls 2 [(0, .ref (ad 0)), (1, .int p1)] := hl
  unfold M_X5_reach at h
  refine lv_aload_n hx hb dX5_reach_0 rfl (lv_at hl 0 rfl) ?_
  refine RO_g_now X hw 0 rfl kf_X5_12 dX5_reach_1 ?_
  refine lv_iload_n hx hb dX5_reach_4 rfl (lv_at hl 1 rfl) ?_
  obtain ⟨r5, h5, h⟩ := bnd h
  refine g_calli0 (isC := [1]) (gn := fun _ => [wRO g ad (adN 0) aK aD aS aT (adL 0) (adE 0) ro, wEV g adN nw, wLW g adL lw, wSE g adE se]) (g_runVN (isC := [1]) (rest := []) (As := [.int p1]) X hw (c_X0_hasBar l (ad := adN) h5) rfl kM_X0_hasBar ki_X0_hasBar ks_X0_hasBar km_X5_99 ⟨(Nat.le_of_ble_eq_true rfl), (Nat.le_of_ble_eq_true rfl)⟩ ⟨(Nat.le_of_ble_eq_true rfl), (Nat.le_of_ble_eq_true rfl)⟩ rfl rfl ⟨_, _, _, _, rfl, rfl, rfl, rfl⟩ rfl hl.1 rfl (Nat.le_of_ble_eq_true rfl) dX5_reach_5) hw rfl rfl (fun _ => (Nat.le_of_ble_eq_true rfl)) (fun _ => rfl) rfl rfl (fun _ H locs hw => ?_)
  refine lv_if_ne (tgt := 18) hx hb dX5_reach_8 (by decide) (fun k8 => ?_) (fun k8 => ?_)
  · have h := itt k8 h
    refine lv_aload_n hx hb dX5_reach_18 rfl (lv_at hl 0 rfl) ?_
    refine lv_iload_n hx hb dX5_reach_19 rfl (lv_at hl 1 rfl) ?_
    obtain ⟨r20, h20, h⟩ := bnd h
    refine g_callv0 (isC := [0, 1, 2, 3]) (gn := fun _ => [wRO g ad (adN 0) aK aD aS aT (adL 0) (adE 0) ro, wEV g adN nw, wLW g adL r20.1, wSE g adE r20.2]) (g_runV (isC := [0, 1, 2, 3]) (rest := []) (As := [.int p1]) X hw (c_X5_spreadFromNow l (ad := ad) (adN := adN) (adL := adL) (adE := adE) (aK := aK) (aD := aD) (aS := aS) (aT := aT) h20) rfl kM_X5_spreadFromNow ki_X5_spreadFromNow ks_X5_spreadFromNow km_X5_237 ⟨(Nat.le_of_ble_eq_true rfl), (Nat.le_of_ble_eq_true rfl)⟩ ⟨(Nat.le_of_ble_eq_true rfl), (Nat.le_of_ble_eq_true rfl)⟩ rfl rfl ⟨_, _, _, _, rfl, rfl, rfl, rfl⟩ rfl hl.1 rfl (Nat.le_of_ble_eq_true rfl) dX5_reach_20) hw rfl rfl (fun _ => (Nat.le_of_ble_eq_true rfl)) (fun _ => rfl) rfl rfl (fun _ H locs hw => ?_)
    refine lv_aload_n hx hb dX5_reach_23 rfl (lv_at hl 0 rfl) ?_
    refine RO_g_search X hw 0 rfl kf_X5_46 dX5_reach_24 ?_
    refine SE_gn_found X hw 3 rfl kf_X5_240 dX5_reach_27 ?_
    have h := Option.some.inj h
    subst h
    exact hret () dX5_reach_30 rfl hw
  · have h := itf (fun z => z k8) h
    refine lv_aload_n hx hb dX5_reach_11 rfl (lv_at hl 0 rfl) ?_
    refine lv_bipush (v := -2) hx hb dX5_reach_12 (by decide) ?_
    obtain ⟨r14, h14, h⟩ := bnd h
    refine g_calli0 (isC := [0]) (gn := fun _ => [wRO g ad (adN 0) aK aD aS aT (adL 0) (adE 0) r14.2, wEV g adN nw, wLW g adL lw, wSE g adE se]) (g_runV (isC := [0]) (rest := []) (As := [.int (-2 : Int32)]) X hw (c_X5_refuse l (ad := ad) (aN := (adN 0)) (aK := aK) (aD := aD) (aS := aS) (aT := aT) (aL := (adL 0)) (aE := (adE 0)) h14) rfl kM_X5_refuse ki_X5_refuse ks_X5_refuse km_X5_62 ⟨(Nat.le_of_ble_eq_true rfl), (Nat.le_of_ble_eq_true rfl)⟩ ⟨(Nat.le_of_ble_eq_true rfl), (Nat.le_of_ble_eq_true rfl)⟩ rfl rfl ⟨_, _, _, _, rfl, rfl, rfl, rfl⟩ rfl hl.1 rfl (Nat.le_of_ble_eq_true rfl) dX5_reach_14) hw rfl rfl (fun _ => (Nat.le_of_ble_eq_true rfl)) (fun _ => rfl) rfl rfl (fun _ H locs hw => ?_)
    have h := Option.some.inj h
    subst h
    exact hret () dX5_reach_17 rfl hw
theorem kM_X5_farthest : kM yX5_farthest cX5_farthest 4 (some FieldType.int) 2 := ⟨kc_X5_farthest, kn_RingsOff, by decide +kernel⟩
abbrev R_X5_farthest : Room := { frames := 8, cells := 0, slots := 0, locals := 169 }
set_option maxHeartbeats 4000000 in
set_option maxRecDepth 100000 in
theorem c_X5_farthest (l : Launch) {ad : Nat → Nat} {adN : Nat → Nat} {adL : Nat → Nat} {adE : Nat → Nat} {aK : Nat} {aD : Nat} {aS : Nat} {aT : Nat} {N : Nat} {ro : RO} {nw : EV} {lw : LW} {se : SE} {p1 : Int32} {p2 : Int32} {out : Int32 × RO × LW × SE} (h : M_X5_farthest N ro nw lw se p1 p2 = some out) : gM l yX5_farthest cX5_farthest 4 (some FieldType.int) R_X5_farthest (fun _ => [.ref (ad 0), .int p1, .int p2]) (fun g => [wRO g ad (adN 0) aK aD aS aT (adL 0) (adE 0) ro, wEV g adN nw, wLW g adL lw, wSE g adE se]) (gQi (fun (_ : Unit) => out.1) (fun g (_ : Unit) => [wRO g ad (adN 0) aK aD aS aT (adL 0) (adE 0) out.2.1, wEV g adN nw, wLW g adL out.2.2.1, wSE g adE out.2.2.2])) := by
  refine gM.ofi (by decide +kernel) (fun _ => Nat.le_of_ble_eq_true rfl) (fun g p e s m args below meth c A ls Q X hret hw hl => ?_)
  have hx := X.1.1
  have hb := X.1.2.1
  have hl : lv_has ls 4 [(0, .ref (ad 0)), (1, .int p1), (2, .int p2)] := hl
  have J20 : ∀ (z20 : RO × LW × SE), M_X5_farthest_j20 N nw p1 p2 z20 = some out → ∀ (H : Heap) (locs : List Loc) (ls : Array Slot), gW g A s.heap [wRO g ad (adN 0) aK aD aS aT (adL 0) (adE 0) z20.1, wEV g adN nw, wLW g adL z20.2.1, wSE g adE z20.2.2] H locs → lv_has ls 4 [(0, .ref (ad 0))] → W p l e R_X5_farthest s m args below meth c H locs 0 0 Q (F0 m 20 ls []) := by
    intro z20 h H locs ls hw hl
    unfold M_X5_farthest_j20 at h
    refine lv_aload_n hx hb dX5_farthest_20 rfl (lv_at hl 0 rfl) ?_
    refine lv_bipush (v := -2) hx hb dX5_farthest_21 (by decide) ?_
    obtain ⟨r23, h23, h⟩ := bnd h
    refine g_calli0 (isC := [0]) (gn := fun _ => [wRO g ad (adN 0) aK aD aS aT (adL 0) (adE 0) r23.2, wEV g adN nw, wLW g adL z20.2.1, wSE g adE z20.2.2]) (g_runV (isC := [0]) (rest := []) (As := [.int (-2 : Int32)]) X hw (c_X5_refuse l (ad := ad) (aN := (adN 0)) (aK := aK) (aD := aD) (aS := aS) (aT := aT) (aL := (adL 0)) (aE := (adE 0)) h23) rfl kM_X5_refuse ki_X5_refuse ks_X5_refuse km_X5_62 ⟨(Nat.le_of_ble_eq_true rfl), (Nat.le_of_ble_eq_true rfl)⟩ ⟨(Nat.le_of_ble_eq_true rfl), (Nat.le_of_ble_eq_true rfl)⟩ rfl rfl ⟨_, _, _, _, rfl, rfl, rfl, rfl⟩ rfl hl.1 rfl (Nat.le_of_ble_eq_true rfl) dX5_farthest_23) hw rfl rfl (fun _ => (Nat.le_of_ble_eq_true rfl)) (fun _ => rfl) rfl rfl (fun _ H locs hw => ?_)
    have h := Option.some.inj h
    subst h
    exact hret () dX5_farthest_26 rfl hw
  unfold M_X5_farthest at h
  refine lv_aload_n hx hb dX5_farthest_0 rfl (lv_at hl 0 rfl) ?_
  refine RO_g_now X hw 0 rfl kf_X5_12 dX5_farthest_1 ?_
  refine lv_iload_n hx hb dX5_farthest_4 rfl (lv_at hl 1 rfl) ?_
  obtain ⟨r5, h5, h⟩ := bnd h
  refine g_calli0 (isC := [1]) (gn := fun _ => [wRO g ad (adN 0) aK aD aS aT (adL 0) (adE 0) ro, wEV g adN nw, wLW g adL lw, wSE g adE se]) (g_runVN (isC := [1]) (rest := []) (As := [.int p1]) X hw (c_X0_hasBar l (ad := adN) h5) rfl kM_X0_hasBar ki_X0_hasBar ks_X0_hasBar km_X5_99 ⟨(Nat.le_of_ble_eq_true rfl), (Nat.le_of_ble_eq_true rfl)⟩ ⟨(Nat.le_of_ble_eq_true rfl), (Nat.le_of_ble_eq_true rfl)⟩ rfl rfl ⟨_, _, _, _, rfl, rfl, rfl, rfl⟩ rfl hl.1 rfl (Nat.le_of_ble_eq_true rfl) dX5_farthest_5) hw rfl rfl (fun _ => (Nat.le_of_ble_eq_true rfl)) (fun _ => rfl) rfl rfl (fun _ H locs hw => ?_)
  refine lv_if_eq (tgt := 20) hx hb dX5_farthest_8 (by decide) (fun k8 => ?_) (fun k8 => ?_)
  · have h := itt k8 h
    exact J20 _ h _ _ _ hw (lv_sub hl [0] rfl)
  · have h := itf k8 h
    refine lv_iload_n hx hb dX5_farthest_11 rfl (lv_at hl 2 rfl) ?_
    refine lv_if_lt (tgt := 20) hx hb dX5_farthest_12 (by decide) (fun k12 => ?_) (fun k12 => ?_)
    · have h := itt k12 h
      exact J20 _ h _ _ _ hw (lv_sub hl [0] rfl)
    · have h := itf k12 h
      refine lv_iload_n hx hb dX5_farthest_15 rfl (lv_at hl 2 rfl) ?_
      refine lv_iconst (v := 1) hx hb dX5_farthest_16 (by decide) ?_
      refine lv_icmp_le (tgt := 27) hx hb dX5_farthest_17 (by decide) (fun k17 => ?_) (fun k17 => ?_)
      · have h := itt k17 h
        refine lv_aload_n hx hb dX5_farthest_27 rfl (lv_at hl 0 rfl) ?_
        refine lv_iload_n hx hb dX5_farthest_28 rfl (lv_at hl 1 rfl) ?_
        obtain ⟨r29, h29, h⟩ := bnd h
        refine g_callv0 (isC := [0, 1, 2, 3]) (gn := fun _ => [wRO g ad (adN 0) aK aD aS aT (adL 0) (adE 0) ro, wEV g adN nw, wLW g adL r29.1, wSE g adE r29.2]) (g_runV (isC := [0, 1, 2, 3]) (rest := []) (As := [.int p1]) X hw (c_X5_spreadFromNow l (ad := ad) (adN := adN) (adL := adL) (adE := adE) (aK := aK) (aD := aD) (aS := aS) (aT := aT) h29) rfl kM_X5_spreadFromNow ki_X5_spreadFromNow ks_X5_spreadFromNow km_X5_237 ⟨(Nat.le_of_ble_eq_true rfl), (Nat.le_of_ble_eq_true rfl)⟩ ⟨(Nat.le_of_ble_eq_true rfl), (Nat.le_of_ble_eq_true rfl)⟩ rfl rfl ⟨_, _, _, _, rfl, rfl, rfl, rfl⟩ rfl hl.1 rfl (Nat.le_of_ble_eq_true rfl) dX5_farthest_29) hw rfl rfl (fun _ => (Nat.le_of_ble_eq_true rfl)) (fun _ => rfl) rfl rfl (fun _ H locs hw => ?_)
        refine lv_aload_n hx hb dX5_farthest_32 rfl (lv_at hl 0 rfl) ?_
        refine RO_g_search X hw 0 rfl kf_X5_46 dX5_farthest_33 ?_
        obtain ⟨r36, h36, h⟩ := bnd h
        refine g_calli0 (isC := [3]) (gn := fun _ => [wRO g ad (adN 0) aK aD aS aT (adL 0) (adE 0) ro, wEV g adN nw, wLW g adL r29.1, wSE g adE r29.2]) (g_runVN (isC := [3]) (rest := []) (As := []) X hw (c_X2_farthestSet l (ad := adE) h36) rfl kM_X2_farthestSet ki_X2_farthestSet ks_X2_farthestSet km_X5_243 ⟨(Nat.le_of_ble_eq_true rfl), (Nat.le_of_ble_eq_true rfl)⟩ ⟨(Nat.le_of_ble_eq_true rfl), (Nat.le_of_ble_eq_true rfl)⟩ rfl rfl ⟨_, _, _, _, rfl, rfl, rfl, rfl⟩ rfl hl.1 rfl (Nat.le_of_ble_eq_true rfl) dX5_farthest_36) hw rfl rfl (fun _ => (Nat.le_of_ble_eq_true rfl)) (fun _ => rfl) rfl rfl (fun _ H locs hw => ?_)
        refine lv_istore_n (lv' := [(3, .int r36), (0, .ref (ad 0)), (1, .int p1), (2, .int p2)]) hx hb dX5_farthest_39 rfl hl (by decide) rfl (fun ls hl => ?_)
        refine lv_iload_n hx hb dX5_farthest_40 rfl (lv_at hl 3 rfl) ?_
        refine lv_if_ne (tgt := 48) hx hb dX5_farthest_41 (by decide) (fun k41 => ?_) (fun k41 => ?_)
        · have h := itt k41 h
          refine lv_aload_n hx hb dX5_farthest_48 rfl (lv_at hl 1 rfl) ?_
          refine RO_g_search X hw 0 rfl kf_X5_46 dX5_farthest_49 ?_
          refine lv_iload_n hx hb dX5_farthest_52 rfl (lv_at hl 0 rfl) ?_
          obtain ⟨r53, h53, h⟩ := bnd h
          refine g_calli0 (isC := [3]) (gn := fun _ => [wRO g ad (adN 0) aK aD aS aT (adL 0) (adE 0) ro, wEV g adN nw, wLW g adL r29.1, wSE g adE r29.2]) (g_runVN (isC := [3]) (rest := []) (As := [.int r36]) X hw (c_X2_farOf l (ad := adE) h53) rfl kM_X2_farOf ki_X2_farOf ks_X2_farOf km_X5_247 ⟨(Nat.le_of_ble_eq_true rfl), (Nat.le_of_ble_eq_true rfl)⟩ ⟨(Nat.le_of_ble_eq_true rfl), (Nat.le_of_ble_eq_true rfl)⟩ rfl rfl ⟨_, _, _, _, rfl, rfl, rfl, rfl⟩ rfl hl.1 rfl (Nat.le_of_ble_eq_true rfl) dX5_farthest_53) hw rfl rfl (fun _ => (Nat.le_of_ble_eq_true rfl)) (fun _ => rfl) rfl rfl (fun _ H locs hw => ?_)
          have h := Option.some.inj h
          subst h
          exact hret () dX5_farthest_56 rfl hw
        · have h := itf (fun z => z k41) h
          refine lv_iload_n hx hb dX5_farthest_44 rfl (lv_at hl 0 rfl) ?_
          refine lv_goto (tgt := 56) hx hb dX5_farthest_45 (by decide) ?_
          have h := Option.some.inj h
          subst h
          exact hret () dX5_farthest_56 rfl hw
      · have h := itf k17 h
        exact J20 _ h _ _ _ hw (lv_sub hl [0] rfl)
theorem kM_X5_shape : kM yX5_shape cX5_shape 2 (some FieldType.int) 1 := ⟨kc_X5_shape, kn_RingsOff, by decide +kernel⟩
abbrev R_X5_shape : Room := { frames := 8, cells := 0, slots := 0, locals := 169 }
set_option maxHeartbeats 4000000 in
set_option maxRecDepth 100000 in
theorem c_X5_shape (l : Launch) {ad : Nat → Nat} {adN : Nat → Nat} {adL : Nat → Nat} {adE : Nat → Nat} {aK : Nat} {aD : Nat} {aS : Nat} {aT : Nat} {N : Nat} {ro : RO} {nw : EV} {lw : LW} {se : SE} {p1 : Int32} {out : Int32 × RO × LW × SE} (h : M_X5_shape N ro nw lw se p1 = some out) : gM l yX5_shape cX5_shape 2 (some FieldType.int) R_X5_shape (fun _ => [.ref (ad 0), .int p1]) (fun g => [wRO g ad (adN 0) aK aD aS aT (adL 0) (adE 0) ro, wEV g adN nw, wLW g adL lw, wSE g adE se]) (gQi (fun (_ : Unit) => out.1) (fun g (_ : Unit) => [wRO g ad (adN 0) aK aD aS aT (adL 0) (adE 0) out.2.1, wEV g adN nw, wLW g adL out.2.2.1, wSE g adE out.2.2.2])) := by
  refine gM.ofi (by decide +kernel) (fun _ => Nat.le_of_ble_eq_true rfl) (fun g p e s m args below meth c A ls Q X hret hw hl => ?_)
  have hx := X.1.1
  have hb := X.1.2.1
  have hl : lv_has ls 2 [(0, .ref (ad 0)), (1, .int p1)] := hl
  unfold M_X5_shape at h
  refine lv_aload_n hx hb dX5_shape_0 rfl (lv_at hl 0 rfl) ?_
  refine RO_g_now X hw 0 rfl kf_X5_12 dX5_shape_1 ?_
  refine lv_iload_n hx hb dX5_shape_4 rfl (lv_at hl 1 rfl) ?_
  obtain ⟨r5, h5, h⟩ := bnd h
  refine g_calli0 (isC := [1]) (gn := fun _ => [wRO g ad (adN 0) aK aD aS aT (adL 0) (adE 0) ro, wEV g adN nw, wLW g adL lw, wSE g adE se]) (g_runVN (isC := [1]) (rest := []) (As := [.int p1]) X hw (c_X0_hasBar l (ad := adN) h5) rfl kM_X0_hasBar ki_X0_hasBar ks_X0_hasBar km_X5_99 ⟨(Nat.le_of_ble_eq_true rfl), (Nat.le_of_ble_eq_true rfl)⟩ ⟨(Nat.le_of_ble_eq_true rfl), (Nat.le_of_ble_eq_true rfl)⟩ rfl rfl ⟨_, _, _, _, rfl, rfl, rfl, rfl⟩ rfl hl.1 rfl (Nat.le_of_ble_eq_true rfl) dX5_shape_5) hw rfl rfl (fun _ => (Nat.le_of_ble_eq_true rfl)) (fun _ => rfl) rfl rfl (fun _ H locs hw => ?_)
  refine lv_if_ne (tgt := 18) hx hb dX5_shape_8 (by decide) (fun k8 => ?_) (fun k8 => ?_)
  · have h := itt k8 h
    refine lv_aload_n hx hb dX5_shape_18 rfl (lv_at hl 0 rfl) ?_
    refine lv_iload_n hx hb dX5_shape_19 rfl (lv_at hl 1 rfl) ?_
    obtain ⟨r20, h20, h⟩ := bnd h
    refine g_callv0 (isC := [0, 1, 2, 3]) (gn := fun _ => [wRO g ad (adN 0) aK aD aS aT (adL 0) (adE 0) ro, wEV g adN nw, wLW g adL r20.1, wSE g adE r20.2]) (g_runV (isC := [0, 1, 2, 3]) (rest := []) (As := [.int p1]) X hw (c_X5_spreadFromNow l (ad := ad) (adN := adN) (adL := adL) (adE := adE) (aK := aK) (aD := aD) (aS := aS) (aT := aT) h20) rfl kM_X5_spreadFromNow ki_X5_spreadFromNow ks_X5_spreadFromNow km_X5_237 ⟨(Nat.le_of_ble_eq_true rfl), (Nat.le_of_ble_eq_true rfl)⟩ ⟨(Nat.le_of_ble_eq_true rfl), (Nat.le_of_ble_eq_true rfl)⟩ rfl rfl ⟨_, _, _, _, rfl, rfl, rfl, rfl⟩ rfl hl.1 rfl (Nat.le_of_ble_eq_true rfl) dX5_shape_20) hw rfl rfl (fun _ => (Nat.le_of_ble_eq_true rfl)) (fun _ => rfl) rfl rfl (fun _ H locs hw => ?_)
    refine lv_aload_n hx hb dX5_shape_23 rfl (lv_at hl 0 rfl) ?_
    refine RO_g_search X hw 0 rfl kf_X5_46 dX5_shape_24 ?_
    obtain ⟨r27, h27, h⟩ := bnd h
    refine g_calli0 (isC := [3]) (gn := fun _ => [wRO g ad (adN 0) aK aD aS aT (adL 0) (adE 0) ro, wEV g adN nw, wLW g adL r20.1, wSE g adE r20.2]) (g_runVN (isC := [3]) (rest := []) (As := []) X hw (c_X2_shapeOfFound l (ad := adE) h27) rfl kM_X2_shapeOfFound ki_X2_shapeOfFound ks_X2_shapeOfFound km_X5_250 ⟨(Nat.le_of_ble_eq_true rfl), (Nat.le_of_ble_eq_true rfl)⟩ ⟨(Nat.le_of_ble_eq_true rfl), (Nat.le_of_ble_eq_true rfl)⟩ rfl rfl ⟨_, _, _, _, rfl, rfl, rfl, rfl⟩ rfl hl.1 rfl (Nat.le_of_ble_eq_true rfl) dX5_shape_27) hw rfl rfl (fun _ => (Nat.le_of_ble_eq_true rfl)) (fun _ => rfl) rfl rfl (fun _ H locs hw => ?_)
    have h := Option.some.inj h
    subst h
    exact hret () dX5_shape_30 rfl hw
  · have h := itf (fun z => z k8) h
    refine lv_aload_n hx hb dX5_shape_11 rfl (lv_at hl 0 rfl) ?_
    refine lv_bipush (v := -2) hx hb dX5_shape_12 (by decide) ?_
    obtain ⟨r14, h14, h⟩ := bnd h
    refine g_calli0 (isC := [0]) (gn := fun _ => [wRO g ad (adN 0) aK aD aS aT (adL 0) (adE 0) r14.2, wEV g adN nw, wLW g adL lw, wSE g adE se]) (g_runV (isC := [0]) (rest := []) (As := [.int (-2 : Int32)]) X hw (c_X5_refuse l (ad := ad) (aN := (adN 0)) (aK := aK) (aD := aD) (aS := aS) (aT := aT) (aL := (adL 0)) (aE := (adE 0)) h14) rfl kM_X5_refuse ki_X5_refuse ks_X5_refuse km_X5_62 ⟨(Nat.le_of_ble_eq_true rfl), (Nat.le_of_ble_eq_true rfl)⟩ ⟨(Nat.le_of_ble_eq_true rfl), (Nat.le_of_ble_eq_true rfl)⟩ rfl rfl ⟨_, _, _, _, rfl, rfl, rfl, rfl⟩ rfl hl.1 rfl (Nat.le_of_ble_eq_true rfl) dX5_shape_14) hw rfl rfl (fun _ => (Nat.le_of_ble_eq_true rfl)) (fun _ => rfl) rfl rfl (fun _ H locs hw => ?_)
    have h := Option.some.inj h
    subst h
    exact hret () dX5_shape_17 rfl hw
theorem kM_X5_parts : kM yX5_parts cX5_parts 2 (some FieldType.int) 1 := ⟨kc_X5_parts, kn_RingsOff, by decide +kernel⟩
abbrev R_X5_parts : Room := { frames := 7, cells := 0, slots := 0, locals := 148 }
set_option maxHeartbeats 4000000 in
set_option maxRecDepth 100000 in
theorem c_X5_parts (l : Launch) {ad : Nat → Nat} {adN : Nat → Nat} {adL : Nat → Nat} {adE : Nat → Nat} {aK : Nat} {aD : Nat} {aS : Nat} {aT : Nat} {N : Nat} {ro : RO} {nw : EV} {lw : LW} {se : SE} {p1 : Int32} {out : Int32 × RO × LW × SE} (h : M_X5_parts N ro nw lw se p1 = some out) : gM l yX5_parts cX5_parts 2 (some FieldType.int) R_X5_parts (fun _ => [.ref (ad 0), .int p1]) (fun g => [wRO g ad (adN 0) aK aD aS aT (adL 0) (adE 0) ro, wEV g adN nw, wLW g adL lw, wSE g adE se]) (gQi (fun (_ : Unit) => out.1) (fun g (_ : Unit) => [wRO g ad (adN 0) aK aD aS aT (adL 0) (adE 0) out.2.1, wEV g adN nw, wLW g adL out.2.2.1, wSE g adE out.2.2.2])) := by
  refine gM.ofi (by decide +kernel) (fun _ => Nat.le_of_ble_eq_true rfl) (fun g p e s m args below meth c A ls Q X hret hw hl => ?_)
  have hx := X.1.1
  have hb := X.1.2.1
  have hl : lv_has ls 2 [(0, .ref (ad 0)), (1, .int p1)] := hl
  unfold M_X5_parts at h
  refine lv_aload_n hx hb dX5_parts_0 rfl (lv_at hl 0 rfl) ?_
  refine RO_g_now X hw 0 rfl kf_X5_12 dX5_parts_1 ?_
  refine lv_iload_n hx hb dX5_parts_4 rfl (lv_at hl 1 rfl) ?_
  obtain ⟨r5, h5, h⟩ := bnd h
  refine g_calli0 (isC := [1]) (gn := fun _ => [wRO g ad (adN 0) aK aD aS aT (adL 0) (adE 0) ro, wEV g adN nw, wLW g adL lw, wSE g adE se]) (g_runVN (isC := [1]) (rest := []) (As := [.int p1]) X hw (c_X0_hasBar l (ad := adN) h5) rfl kM_X0_hasBar ki_X0_hasBar ks_X0_hasBar km_X5_99 ⟨(Nat.le_of_ble_eq_true rfl), (Nat.le_of_ble_eq_true rfl)⟩ ⟨(Nat.le_of_ble_eq_true rfl), (Nat.le_of_ble_eq_true rfl)⟩ rfl rfl ⟨_, _, _, _, rfl, rfl, rfl, rfl⟩ rfl hl.1 rfl (Nat.le_of_ble_eq_true rfl) dX5_parts_5) hw rfl rfl (fun _ => (Nat.le_of_ble_eq_true rfl)) (fun _ => rfl) rfl rfl (fun _ H locs hw => ?_)
  refine lv_if_ne (tgt := 18) hx hb dX5_parts_8 (by decide) (fun k8 => ?_) (fun k8 => ?_)
  · have h := itt k8 h
    refine lv_aload_n hx hb dX5_parts_18 rfl (lv_at hl 0 rfl) ?_
    refine lv_iload_n hx hb dX5_parts_19 rfl (lv_at hl 1 rfl) ?_
    obtain ⟨r20, h20, h⟩ := bnd h
    refine g_callv0 (isC := [0, 1, 2, 3]) (gn := fun _ => [wRO g ad (adN 0) aK aD aS aT (adL 0) (adE 0) ro, wEV g adN nw, wLW g adL r20.1, wSE g adE r20.2]) (g_runV (isC := [0, 1, 2, 3]) (rest := []) (As := [.int p1]) X hw (c_X5_study l (ad := ad) (adN := adN) (adL := adL) (adE := adE) (aK := aK) (aD := aD) (aS := aS) (aT := aT) h20) rfl kM_X5_study ki_X5_study ks_X5_study km_X5_253 ⟨(Nat.le_of_ble_eq_true rfl), (Nat.le_of_ble_eq_true rfl)⟩ ⟨(Nat.le_of_ble_eq_true rfl), (Nat.le_of_ble_eq_true rfl)⟩ rfl rfl ⟨_, _, _, _, rfl, rfl, rfl, rfl⟩ rfl hl.1 rfl (Nat.le_of_ble_eq_true rfl) dX5_parts_20) hw rfl rfl (fun _ => (Nat.le_of_ble_eq_true rfl)) (fun _ => rfl) rfl rfl (fun _ H locs hw => ?_)
    refine lv_aload_n hx hb dX5_parts_23 rfl (lv_at hl 0 rfl) ?_
    refine RO_g_search X hw 0 rfl kf_X5_46 dX5_parts_24 ?_
    obtain ⟨r27, h27, h⟩ := bnd h
    refine g_calli0 (isC := [3]) (gn := fun _ => [wRO g ad (adN 0) aK aD aS aT (adL 0) (adE 0) ro, wEV g adN nw, wLW g adL r20.1, wSE g adE r27.2]) (g_runVN (isC := [3]) (rest := []) (As := []) X hw (c_X2_countParts l (ad := adE) h27) rfl kM_X2_countParts ki_X2_countParts ks_X2_countParts km_X5_256 ⟨(Nat.le_of_ble_eq_true rfl), (Nat.le_of_ble_eq_true rfl)⟩ ⟨(Nat.le_of_ble_eq_true rfl), (Nat.le_of_ble_eq_true rfl)⟩ rfl rfl ⟨_, _, _, _, rfl, rfl, rfl, rfl⟩ rfl hl.1 rfl (Nat.le_of_ble_eq_true rfl) dX5_parts_27) hw rfl rfl (fun _ => (Nat.le_of_ble_eq_true rfl)) (fun _ => rfl) rfl rfl (fun _ H locs hw => ?_)
    have h := Option.some.inj h
    subst h
    exact hret () dX5_parts_30 rfl hw
  · have h := itf (fun z => z k8) h
    refine lv_aload_n hx hb dX5_parts_11 rfl (lv_at hl 0 rfl) ?_
    refine lv_bipush (v := -2) hx hb dX5_parts_12 (by decide) ?_
    obtain ⟨r14, h14, h⟩ := bnd h
    refine g_calli0 (isC := [0]) (gn := fun _ => [wRO g ad (adN 0) aK aD aS aT (adL 0) (adE 0) r14.2, wEV g adN nw, wLW g adL lw, wSE g adE se]) (g_runV (isC := [0]) (rest := []) (As := [.int (-2 : Int32)]) X hw (c_X5_refuse l (ad := ad) (aN := (adN 0)) (aK := aK) (aD := aD) (aS := aS) (aT := aT) (aL := (adL 0)) (aE := (adE 0)) h14) rfl kM_X5_refuse ki_X5_refuse ks_X5_refuse km_X5_62 ⟨(Nat.le_of_ble_eq_true rfl), (Nat.le_of_ble_eq_true rfl)⟩ ⟨(Nat.le_of_ble_eq_true rfl), (Nat.le_of_ble_eq_true rfl)⟩ rfl rfl ⟨_, _, _, _, rfl, rfl, rfl, rfl⟩ rfl hl.1 rfl (Nat.le_of_ble_eq_true rfl) dX5_parts_14) hw rfl rfl (fun _ => (Nat.le_of_ble_eq_true rfl)) (fun _ => rfl) rfl rfl (fun _ H locs hw => ?_)
    have h := Option.some.inj h
    subst h
    exact hret () dX5_parts_17 rfl hw
theorem kM_X5_longest : kM yX5_longest cX5_longest 2 (some FieldType.int) 1 := ⟨kc_X5_longest, kn_RingsOff, by decide +kernel⟩
abbrev R_X5_longest : Room := { frames := 7, cells := 0, slots := 0, locals := 148 }
set_option maxHeartbeats 4000000 in
set_option maxRecDepth 100000 in
theorem c_X5_longest (l : Launch) {ad : Nat → Nat} {adN : Nat → Nat} {adL : Nat → Nat} {adE : Nat → Nat} {aK : Nat} {aD : Nat} {aS : Nat} {aT : Nat} {N : Nat} {ro : RO} {nw : EV} {lw : LW} {se : SE} {p1 : Int32} {out : Int32 × RO × LW × SE} (h : M_X5_longest N ro nw lw se p1 = some out) : gM l yX5_longest cX5_longest 2 (some FieldType.int) R_X5_longest (fun _ => [.ref (ad 0), .int p1]) (fun g => [wRO g ad (adN 0) aK aD aS aT (adL 0) (adE 0) ro, wEV g adN nw, wLW g adL lw, wSE g adE se]) (gQi (fun (_ : Unit) => out.1) (fun g (_ : Unit) => [wRO g ad (adN 0) aK aD aS aT (adL 0) (adE 0) out.2.1, wEV g adN nw, wLW g adL out.2.2.1, wSE g adE out.2.2.2])) := by
  refine gM.ofi (by decide +kernel) (fun _ => Nat.le_of_ble_eq_true rfl) (fun g p e s m args below meth c A ls Q X hret hw hl => ?_)
  have hx := X.1.1
  have hb := X.1.2.1
  have hl : lv_has ls 2 [(0, .ref (ad 0)), (1, .int p1)] := hl
  unfold M_X5_longest at h
  refine lv_aload_n hx hb dX5_longest_0 rfl (lv_at hl 0 rfl) ?_
  refine RO_g_now X hw 0 rfl kf_X5_12 dX5_longest_1 ?_
  refine lv_iload_n hx hb dX5_longest_4 rfl (lv_at hl 1 rfl) ?_
  obtain ⟨r5, h5, h⟩ := bnd h
  refine g_calli0 (isC := [1]) (gn := fun _ => [wRO g ad (adN 0) aK aD aS aT (adL 0) (adE 0) ro, wEV g adN nw, wLW g adL lw, wSE g adE se]) (g_runVN (isC := [1]) (rest := []) (As := [.int p1]) X hw (c_X0_hasBar l (ad := adN) h5) rfl kM_X0_hasBar ki_X0_hasBar ks_X0_hasBar km_X5_99 ⟨(Nat.le_of_ble_eq_true rfl), (Nat.le_of_ble_eq_true rfl)⟩ ⟨(Nat.le_of_ble_eq_true rfl), (Nat.le_of_ble_eq_true rfl)⟩ rfl rfl ⟨_, _, _, _, rfl, rfl, rfl, rfl⟩ rfl hl.1 rfl (Nat.le_of_ble_eq_true rfl) dX5_longest_5) hw rfl rfl (fun _ => (Nat.le_of_ble_eq_true rfl)) (fun _ => rfl) rfl rfl (fun _ H locs hw => ?_)
  refine lv_if_ne (tgt := 18) hx hb dX5_longest_8 (by decide) (fun k8 => ?_) (fun k8 => ?_)
  · have h := itt k8 h
    refine lv_aload_n hx hb dX5_longest_18 rfl (lv_at hl 0 rfl) ?_
    refine RO_g_now X hw 0 rfl kf_X5_12 dX5_longest_19 ?_
    refine lv_iload_n hx hb dX5_longest_22 rfl (lv_at hl 1 rfl) ?_
    obtain ⟨r23, h23, h⟩ := bnd h
    refine g_calli0 (isC := [1]) (gn := fun _ => [wRO g ad (adN 0) aK aD aS aT (adL 0) (adE 0) ro, wEV g adN nw, wLW g adL lw, wSE g adE se]) (g_runVN (isC := [1]) (rest := []) (As := [.int p1]) X hw (c_X0_sizeOf l (ad := adN) h23) rfl kM_X0_sizeOf ki_X0_sizeOf ks_X0_sizeOf km_X5_129 ⟨(Nat.le_of_ble_eq_true rfl), (Nat.le_of_ble_eq_true rfl)⟩ ⟨(Nat.le_of_ble_eq_true rfl), (Nat.le_of_ble_eq_true rfl)⟩ rfl rfl ⟨_, _, _, _, rfl, rfl, rfl, rfl⟩ rfl hl.1 rfl (Nat.le_of_ble_eq_true rfl) dX5_longest_23) hw rfl rfl (fun _ => (Nat.le_of_ble_eq_true rfl)) (fun _ => rfl) rfl rfl (fun _ H locs hw => ?_)
    refine lv_bipush (v := 6) hx hb dX5_longest_26 (by decide) ?_
    refine lv_icmp_le (tgt := 38) hx hb dX5_longest_28 (by decide) (fun k28 => ?_) (fun k28 => ?_)
    · have h := itt k28 h
      refine lv_aload_n hx hb dX5_longest_38 rfl (lv_at hl 0 rfl) ?_
      refine lv_iload_n hx hb dX5_longest_39 rfl (lv_at hl 1 rfl) ?_
      obtain ⟨r40, h40, h⟩ := bnd h
      refine g_callv0 (isC := [0, 1, 2, 3]) (gn := fun _ => [wRO g ad (adN 0) aK aD aS aT (adL 0) (adE 0) ro, wEV g adN nw, wLW g adL r40.1, wSE g adE r40.2]) (g_runV (isC := [0, 1, 2, 3]) (rest := []) (As := [.int p1]) X hw (c_X5_study l (ad := ad) (adN := adN) (adL := adL) (adE := adE) (aK := aK) (aD := aD) (aS := aS) (aT := aT) h40) rfl kM_X5_study ki_X5_study ks_X5_study km_X5_253 ⟨(Nat.le_of_ble_eq_true rfl), (Nat.le_of_ble_eq_true rfl)⟩ ⟨(Nat.le_of_ble_eq_true rfl), (Nat.le_of_ble_eq_true rfl)⟩ rfl rfl ⟨_, _, _, _, rfl, rfl, rfl, rfl⟩ rfl hl.1 rfl (Nat.le_of_ble_eq_true rfl) dX5_longest_40) hw rfl rfl (fun _ => (Nat.le_of_ble_eq_true rfl)) (fun _ => rfl) rfl rfl (fun _ H locs hw => ?_)
      refine lv_aload_n hx hb dX5_longest_43 rfl (lv_at hl 0 rfl) ?_
      refine RO_g_search X hw 0 rfl kf_X5_46 dX5_longest_44 ?_
      obtain ⟨r47, h47, h⟩ := bnd h
      refine g_calli0 (isC := [3]) (gn := fun _ => [wRO g ad (adN 0) aK aD aS aT (adL 0) (adE 0) ro, wEV g adN nw, wLW g adL r40.1, wSE g adE r47.2]) (g_runVN (isC := [3]) (rest := []) (As := []) X hw (c_X2_greatestFewest l (ad := adE) h47) rfl kM_X2_greatestFewest ki_X2_greatestFewest ks_X2_greatestFewest km_X5_259 ⟨(Nat.le_of_ble_eq_true rfl), (Nat.le_of_ble_eq_true rfl)⟩ ⟨(Nat.le_of_ble_eq_true rfl), (Nat.le_of_ble_eq_true rfl)⟩ rfl rfl ⟨_, _, _, _, rfl, rfl, rfl, rfl⟩ rfl hl.1 rfl (Nat.le_of_ble_eq_true rfl) dX5_longest_47) hw rfl rfl (fun _ => (Nat.le_of_ble_eq_true rfl)) (fun _ => rfl) rfl rfl (fun _ H locs hw => ?_)
      have h := Option.some.inj h
      subst h
      exact hret () dX5_longest_50 rfl hw
    · have h := itf k28 h
      refine lv_aload_n hx hb dX5_longest_31 rfl (lv_at hl 0 rfl) ?_
      refine lv_bipush (v := -5) hx hb dX5_longest_32 (by decide) ?_
      obtain ⟨r34, h34, h⟩ := bnd h
      refine g_calli0 (isC := [0]) (gn := fun _ => [wRO g ad (adN 0) aK aD aS aT (adL 0) (adE 0) r34.2, wEV g adN nw, wLW g adL lw, wSE g adE se]) (g_runV (isC := [0]) (rest := []) (As := [.int (-5 : Int32)]) X hw (c_X5_refuse l (ad := ad) (aN := (adN 0)) (aK := aK) (aD := aD) (aS := aS) (aT := aT) (aL := (adL 0)) (aE := (adE 0)) h34) rfl kM_X5_refuse ki_X5_refuse ks_X5_refuse km_X5_62 ⟨(Nat.le_of_ble_eq_true rfl), (Nat.le_of_ble_eq_true rfl)⟩ ⟨(Nat.le_of_ble_eq_true rfl), (Nat.le_of_ble_eq_true rfl)⟩ rfl rfl ⟨_, _, _, _, rfl, rfl, rfl, rfl⟩ rfl hl.1 rfl (Nat.le_of_ble_eq_true rfl) dX5_longest_34) hw rfl rfl (fun _ => (Nat.le_of_ble_eq_true rfl)) (fun _ => rfl) rfl rfl (fun _ H locs hw => ?_)
      have h := Option.some.inj h
      subst h
      exact hret () dX5_longest_37 rfl hw
  · have h := itf (fun z => z k8) h
    refine lv_aload_n hx hb dX5_longest_11 rfl (lv_at hl 0 rfl) ?_
    refine lv_bipush (v := -2) hx hb dX5_longest_12 (by decide) ?_
    obtain ⟨r14, h14, h⟩ := bnd h
    refine g_calli0 (isC := [0]) (gn := fun _ => [wRO g ad (adN 0) aK aD aS aT (adL 0) (adE 0) r14.2, wEV g adN nw, wLW g adL lw, wSE g adE se]) (g_runV (isC := [0]) (rest := []) (As := [.int (-2 : Int32)]) X hw (c_X5_refuse l (ad := ad) (aN := (adN 0)) (aK := aK) (aD := aD) (aS := aS) (aT := aT) (aL := (adL 0)) (aE := (adE 0)) h14) rfl kM_X5_refuse ki_X5_refuse ks_X5_refuse km_X5_62 ⟨(Nat.le_of_ble_eq_true rfl), (Nat.le_of_ble_eq_true rfl)⟩ ⟨(Nat.le_of_ble_eq_true rfl), (Nat.le_of_ble_eq_true rfl)⟩ rfl rfl ⟨_, _, _, _, rfl, rfl, rfl, rfl⟩ rfl hl.1 rfl (Nat.le_of_ble_eq_true rfl) dX5_longest_14) hw rfl rfl (fun _ => (Nat.le_of_ble_eq_true rfl)) (fun _ => rfl) rfl rfl (fun _ H locs hw => ?_)
    have h := Option.some.inj h
    subst h
    exact hret () dX5_longest_17 rfl hw
theorem kM_X5_movable : kM yX5_movable cX5_movable 2 (some FieldType.int) 1 := ⟨kc_X5_movable, kn_RingsOff, by decide +kernel⟩
abbrev R_X5_movable : Room := { frames := 8, cells := 0, slots := 0, locals := 169 }
set_option maxHeartbeats 4000000 in
set_option maxRecDepth 100000 in
theorem c_X5_movable (l : Launch) {ad : Nat → Nat} {adN : Nat → Nat} {adL : Nat → Nat} {adE : Nat → Nat} {aK : Nat} {aD : Nat} {aS : Nat} {aT : Nat} {N : Nat} {ro : RO} {nw : EV} {lw : LW} {se : SE} {p1 : Int32} {out : Int32 × RO × LW × SE} (h : M_X5_movable N ro nw lw se p1 = some out) : gM l yX5_movable cX5_movable 2 (some FieldType.int) R_X5_movable (fun _ => [.ref (ad 0), .int p1]) (fun g => [wRO g ad (adN 0) aK aD aS aT (adL 0) (adE 0) ro, wEV g adN nw, wLW g adL lw, wSE g adE se]) (gQi (fun (_ : Unit) => out.1) (fun g (_ : Unit) => [wRO g ad (adN 0) aK aD aS aT (adL 0) (adE 0) out.2.1, wEV g adN nw, wLW g adL out.2.2.1, wSE g adE out.2.2.2])) := by
  refine gM.ofi (by decide +kernel) (fun _ => Nat.le_of_ble_eq_true rfl) (fun g p e s m args below meth c A ls Q X hret hw hl => ?_)
  have hx := X.1.1
  have hb := X.1.2.1
  have hl : lv_has ls 2 [(0, .ref (ad 0)), (1, .int p1)] := hl
  unfold M_X5_movable at h
  refine lv_aload_n hx hb dX5_movable_0 rfl (lv_at hl 0 rfl) ?_
  refine RO_g_now X hw 0 rfl kf_X5_12 dX5_movable_1 ?_
  refine lv_iload_n hx hb dX5_movable_4 rfl (lv_at hl 1 rfl) ?_
  obtain ⟨r5, h5, h⟩ := bnd h
  refine g_calli0 (isC := [1]) (gn := fun _ => [wRO g ad (adN 0) aK aD aS aT (adL 0) (adE 0) ro, wEV g adN nw, wLW g adL lw, wSE g adE se]) (g_runVN (isC := [1]) (rest := []) (As := [.int p1]) X hw (c_X0_hasBar l (ad := adN) h5) rfl kM_X0_hasBar ki_X0_hasBar ks_X0_hasBar km_X5_99 ⟨(Nat.le_of_ble_eq_true rfl), (Nat.le_of_ble_eq_true rfl)⟩ ⟨(Nat.le_of_ble_eq_true rfl), (Nat.le_of_ble_eq_true rfl)⟩ rfl rfl ⟨_, _, _, _, rfl, rfl, rfl, rfl⟩ rfl hl.1 rfl (Nat.le_of_ble_eq_true rfl) dX5_movable_5) hw rfl rfl (fun _ => (Nat.le_of_ble_eq_true rfl)) (fun _ => rfl) rfl rfl (fun _ H locs hw => ?_)
  refine lv_if_ne (tgt := 18) hx hb dX5_movable_8 (by decide) (fun k8 => ?_) (fun k8 => ?_)
  · have h := itt k8 h
    refine lv_aload_n hx hb dX5_movable_18 rfl (lv_at hl 0 rfl) ?_
    refine lv_iload_n hx hb dX5_movable_19 rfl (lv_at hl 1 rfl) ?_
    obtain ⟨r20, h20, h⟩ := bnd h
    refine g_callv0 (isC := [0, 1, 2, 3]) (gn := fun _ => [wRO g ad (adN 0) aK aD aS aT (adL 0) (adE 0) ro, wEV g adN nw, wLW g adL r20.1, wSE g adE r20.2]) (g_runV (isC := [0, 1, 2, 3]) (rest := []) (As := [.int p1]) X hw (c_X5_spreadFromNow l (ad := ad) (adN := adN) (adL := adL) (adE := adE) (aK := aK) (aD := aD) (aS := aS) (aT := aT) h20) rfl kM_X5_spreadFromNow ki_X5_spreadFromNow ks_X5_spreadFromNow km_X5_237 ⟨(Nat.le_of_ble_eq_true rfl), (Nat.le_of_ble_eq_true rfl)⟩ ⟨(Nat.le_of_ble_eq_true rfl), (Nat.le_of_ble_eq_true rfl)⟩ rfl rfl ⟨_, _, _, _, rfl, rfl, rfl, rfl⟩ rfl hl.1 rfl (Nat.le_of_ble_eq_true rfl) dX5_movable_20) hw rfl rfl (fun _ => (Nat.le_of_ble_eq_true rfl)) (fun _ => rfl) rfl rfl (fun _ H locs hw => ?_)
    refine lv_aload_n hx hb dX5_movable_23 rfl (lv_at hl 0 rfl) ?_
    refine RO_g_search X hw 0 rfl kf_X5_46 dX5_movable_24 ?_
    obtain ⟨r27, h27, h⟩ := bnd h
    refine g_calli0 (isC := [3]) (gn := fun _ => [wRO g ad (adN 0) aK aD aS aT (adL 0) (adE 0) ro, wEV g adN nw, wLW g adL r20.1, wSE g adE r20.2]) (g_runVN (isC := [3]) (rest := []) (As := []) X hw (c_X2_movableRings l (ad := adE) h27) rfl kM_X2_movableRings ki_X2_movableRings ks_X2_movableRings km_X5_275 ⟨(Nat.le_of_ble_eq_true rfl), (Nat.le_of_ble_eq_true rfl)⟩ ⟨(Nat.le_of_ble_eq_true rfl), (Nat.le_of_ble_eq_true rfl)⟩ rfl rfl ⟨_, _, _, _, rfl, rfl, rfl, rfl⟩ rfl hl.1 rfl (Nat.le_of_ble_eq_true rfl) dX5_movable_27) hw rfl rfl (fun _ => (Nat.le_of_ble_eq_true rfl)) (fun _ => rfl) rfl rfl (fun _ H locs hw => ?_)
    have h := Option.some.inj h
    subst h
    exact hret () dX5_movable_30 rfl hw
  · have h := itf (fun z => z k8) h
    refine lv_aload_n hx hb dX5_movable_11 rfl (lv_at hl 0 rfl) ?_
    refine lv_bipush (v := -2) hx hb dX5_movable_12 (by decide) ?_
    obtain ⟨r14, h14, h⟩ := bnd h
    refine g_calli0 (isC := [0]) (gn := fun _ => [wRO g ad (adN 0) aK aD aS aT (adL 0) (adE 0) r14.2, wEV g adN nw, wLW g adL lw, wSE g adE se]) (g_runV (isC := [0]) (rest := []) (As := [.int (-2 : Int32)]) X hw (c_X5_refuse l (ad := ad) (aN := (adN 0)) (aK := aK) (aD := aD) (aS := aS) (aT := aT) (aL := (adL 0)) (aE := (adE 0)) h14) rfl kM_X5_refuse ki_X5_refuse ks_X5_refuse km_X5_62 ⟨(Nat.le_of_ble_eq_true rfl), (Nat.le_of_ble_eq_true rfl)⟩ ⟨(Nat.le_of_ble_eq_true rfl), (Nat.le_of_ble_eq_true rfl)⟩ rfl rfl ⟨_, _, _, _, rfl, rfl, rfl, rfl⟩ rfl hl.1 rfl (Nat.le_of_ble_eq_true rfl) dX5_movable_14) hw rfl rfl (fun _ => (Nat.le_of_ble_eq_true rfl)) (fun _ => rfl) rfl rfl (fun _ H locs hw => ?_)
    have h := Option.some.inj h
    subst h
    exact hret () dX5_movable_17 rfl hw
theorem kM_X5_ends : kM yX5_ends cX5_ends 2 (some FieldType.int) 1 := ⟨kc_X5_ends, kn_RingsOff, by decide +kernel⟩
abbrev R_X5_ends : Room := { frames := 8, cells := 0, slots := 0, locals := 169 }
set_option maxHeartbeats 4000000 in
set_option maxRecDepth 100000 in
theorem c_X5_ends (l : Launch) {ad : Nat → Nat} {adN : Nat → Nat} {adL : Nat → Nat} {adE : Nat → Nat} {aK : Nat} {aD : Nat} {aS : Nat} {aT : Nat} {N : Nat} {ro : RO} {nw : EV} {lw : LW} {se : SE} {p1 : Int32} {out : Int32 × RO × LW × SE} (h : M_X5_ends N ro nw lw se p1 = some out) : gM l yX5_ends cX5_ends 2 (some FieldType.int) R_X5_ends (fun _ => [.ref (ad 0), .int p1]) (fun g => [wRO g ad (adN 0) aK aD aS aT (adL 0) (adE 0) ro, wEV g adN nw, wLW g adL lw, wSE g adE se]) (gQi (fun (_ : Unit) => out.1) (fun g (_ : Unit) => [wRO g ad (adN 0) aK aD aS aT (adL 0) (adE 0) out.2.1, wEV g adN nw, wLW g adL out.2.2.1, wSE g adE out.2.2.2])) := by
  refine gM.ofi (by decide +kernel) (fun _ => Nat.le_of_ble_eq_true rfl) (fun g p e s m args below meth c A ls Q X hret hw hl => ?_)
  have hx := X.1.1
  have hb := X.1.2.1
  have hl : lv_has ls 2 [(0, .ref (ad 0)), (1, .int p1)] := hl
  unfold M_X5_ends at h
  refine lv_aload_n hx hb dX5_ends_0 rfl (lv_at hl 0 rfl) ?_
  refine RO_g_now X hw 0 rfl kf_X5_12 dX5_ends_1 ?_
  refine lv_iload_n hx hb dX5_ends_4 rfl (lv_at hl 1 rfl) ?_
  obtain ⟨r5, h5, h⟩ := bnd h
  refine g_calli0 (isC := [1]) (gn := fun _ => [wRO g ad (adN 0) aK aD aS aT (adL 0) (adE 0) ro, wEV g adN nw, wLW g adL lw, wSE g adE se]) (g_runVN (isC := [1]) (rest := []) (As := [.int p1]) X hw (c_X0_hasBar l (ad := adN) h5) rfl kM_X0_hasBar ki_X0_hasBar ks_X0_hasBar km_X5_99 ⟨(Nat.le_of_ble_eq_true rfl), (Nat.le_of_ble_eq_true rfl)⟩ ⟨(Nat.le_of_ble_eq_true rfl), (Nat.le_of_ble_eq_true rfl)⟩ rfl rfl ⟨_, _, _, _, rfl, rfl, rfl, rfl⟩ rfl hl.1 rfl (Nat.le_of_ble_eq_true rfl) dX5_ends_5) hw rfl rfl (fun _ => (Nat.le_of_ble_eq_true rfl)) (fun _ => rfl) rfl rfl (fun _ H locs hw => ?_)
  refine lv_if_ne (tgt := 18) hx hb dX5_ends_8 (by decide) (fun k8 => ?_) (fun k8 => ?_)
  · have h := itt k8 h
    refine lv_aload_n hx hb dX5_ends_18 rfl (lv_at hl 0 rfl) ?_
    refine lv_iload_n hx hb dX5_ends_19 rfl (lv_at hl 1 rfl) ?_
    obtain ⟨r20, h20, h⟩ := bnd h
    refine g_callv0 (isC := [0, 1, 2, 3]) (gn := fun _ => [wRO g ad (adN 0) aK aD aS aT (adL 0) (adE 0) ro, wEV g adN nw, wLW g adL r20.1, wSE g adE r20.2]) (g_runV (isC := [0, 1, 2, 3]) (rest := []) (As := [.int p1]) X hw (c_X5_spreadFromNow l (ad := ad) (adN := adN) (adL := adL) (adE := adE) (aK := aK) (aD := aD) (aS := aS) (aT := aT) h20) rfl kM_X5_spreadFromNow ki_X5_spreadFromNow ks_X5_spreadFromNow km_X5_237 ⟨(Nat.le_of_ble_eq_true rfl), (Nat.le_of_ble_eq_true rfl)⟩ ⟨(Nat.le_of_ble_eq_true rfl), (Nat.le_of_ble_eq_true rfl)⟩ rfl rfl ⟨_, _, _, _, rfl, rfl, rfl, rfl⟩ rfl hl.1 rfl (Nat.le_of_ble_eq_true rfl) dX5_ends_20) hw rfl rfl (fun _ => (Nat.le_of_ble_eq_true rfl)) (fun _ => rfl) rfl rfl (fun _ H locs hw => ?_)
    refine lv_aload_n hx hb dX5_ends_23 rfl (lv_at hl 0 rfl) ?_
    refine RO_g_search X hw 0 rfl kf_X5_46 dX5_ends_24 ?_
    obtain ⟨r27, h27, h⟩ := bnd h
    refine g_calli0 (isC := [3]) (gn := fun _ => [wRO g ad (adN 0) aK aD aS aT (adL 0) (adE 0) ro, wEV g adN nw, wLW g adL r20.1, wSE g adE r20.2]) (g_runVN (isC := [3]) (rest := []) (As := []) X hw (c_X2_countEnds l (ad := adE) h27) rfl kM_X2_countEnds ki_X2_countEnds ks_X2_countEnds km_X5_278 ⟨(Nat.le_of_ble_eq_true rfl), (Nat.le_of_ble_eq_true rfl)⟩ ⟨(Nat.le_of_ble_eq_true rfl), (Nat.le_of_ble_eq_true rfl)⟩ rfl rfl ⟨_, _, _, _, rfl, rfl, rfl, rfl⟩ rfl hl.1 rfl (Nat.le_of_ble_eq_true rfl) dX5_ends_27) hw rfl rfl (fun _ => (Nat.le_of_ble_eq_true rfl)) (fun _ => rfl) rfl rfl (fun _ H locs hw => ?_)
    have h := Option.some.inj h
    subst h
    exact hret () dX5_ends_30 rfl hw
  · have h := itf (fun z => z k8) h
    refine lv_aload_n hx hb dX5_ends_11 rfl (lv_at hl 0 rfl) ?_
    refine lv_bipush (v := -2) hx hb dX5_ends_12 (by decide) ?_
    obtain ⟨r14, h14, h⟩ := bnd h
    refine g_calli0 (isC := [0]) (gn := fun _ => [wRO g ad (adN 0) aK aD aS aT (adL 0) (adE 0) r14.2, wEV g adN nw, wLW g adL lw, wSE g adE se]) (g_runV (isC := [0]) (rest := []) (As := [.int (-2 : Int32)]) X hw (c_X5_refuse l (ad := ad) (aN := (adN 0)) (aK := aK) (aD := aD) (aS := aS) (aT := aT) (aL := (adL 0)) (aE := (adE 0)) h14) rfl kM_X5_refuse ki_X5_refuse ks_X5_refuse km_X5_62 ⟨(Nat.le_of_ble_eq_true rfl), (Nat.le_of_ble_eq_true rfl)⟩ ⟨(Nat.le_of_ble_eq_true rfl), (Nat.le_of_ble_eq_true rfl)⟩ rfl rfl ⟨_, _, _, _, rfl, rfl, rfl, rfl⟩ rfl hl.1 rfl (Nat.le_of_ble_eq_true rfl) dX5_ends_14) hw rfl rfl (fun _ => (Nat.le_of_ble_eq_true rfl)) (fun _ => rfl) rfl rfl (fun _ H locs hw => ?_)
    have h := Option.some.inj h
    subst h
    exact hret () dX5_ends_17 rfl hw
theorem kM_X5_first : kM yX5_first cX5_first 3 (some FieldType.int) 2 := ⟨kc_X5_first, kn_RingsOff, by decide +kernel⟩
abbrev R_X5_first : Room := { frames := 8, cells := 0, slots := 0, locals := 169 }
set_option maxHeartbeats 4000000 in
set_option maxRecDepth 100000 in
theorem c_X5_first (l : Launch) {ad : Nat → Nat} {adN : Nat → Nat} {adL : Nat → Nat} {adE : Nat → Nat} {aK : Nat} {aD : Nat} {aS : Nat} {aT : Nat} {N : Nat} {ro : RO} {nw : EV} {lw : LW} {se : SE} {p1 : Int32} {p2 : Int32} {out : Int32 × RO × LW × SE} (h : M_X5_first N ro nw lw se p1 p2 = some out) : gM l yX5_first cX5_first 3 (some FieldType.int) R_X5_first (fun _ => [.ref (ad 0), .int p1, .int p2]) (fun g => [wRO g ad (adN 0) aK aD aS aT (adL 0) (adE 0) ro, wEV g adN nw, wLW g adL lw, wSE g adE se]) (gQi (fun (_ : Unit) => out.1) (fun g (_ : Unit) => [wRO g ad (adN 0) aK aD aS aT (adL 0) (adE 0) out.2.1, wEV g adN nw, wLW g adL out.2.2.1, wSE g adE out.2.2.2])) := by
  refine gM.ofi (by decide +kernel) (fun _ => Nat.le_of_ble_eq_true rfl) (fun g p e s m args below meth c A ls Q X hret hw hl => ?_)
  have hx := X.1.1
  have hb := X.1.2.1
  have hl : lv_has ls 3 [(0, .ref (ad 0)), (1, .int p1), (2, .int p2)] := hl
  unfold M_X5_first at h
  refine lv_aload_n hx hb dX5_first_0 rfl (lv_at hl 0 rfl) ?_
  refine RO_g_now X hw 0 rfl kf_X5_12 dX5_first_1 ?_
  refine lv_iload_n hx hb dX5_first_4 rfl (lv_at hl 1 rfl) ?_
  refine lv_iload_n hx hb dX5_first_5 rfl (lv_at hl 2 rfl) ?_
  obtain ⟨r6, h6, h⟩ := bnd h
  refine g_calli0 (isC := [1]) (gn := fun _ => [wRO g ad (adN 0) aK aD aS aT (adL 0) (adE 0) ro, wEV g adN nw, wLW g adL lw, wSE g adE se]) (g_runVN (isC := [1]) (rest := []) (As := [.int p1, .int p2]) X hw (c_X0_hasRing l (ad := adN) h6) rfl kM_X0_hasRing ki_X0_hasRing ks_X0_hasRing km_X5_177 ⟨(Nat.le_of_ble_eq_true rfl), (Nat.le_of_ble_eq_true rfl)⟩ ⟨(Nat.le_of_ble_eq_true rfl), (Nat.le_of_ble_eq_true rfl)⟩ rfl rfl ⟨_, _, _, _, rfl, rfl, rfl, rfl⟩ rfl hl.1 rfl (Nat.le_of_ble_eq_true rfl) dX5_first_6) hw rfl rfl (fun _ => (Nat.le_of_ble_eq_true rfl)) (fun _ => rfl) rfl rfl (fun _ H locs hw => ?_)
  refine lv_if_ne (tgt := 19) hx hb dX5_first_9 (by decide) (fun k9 => ?_) (fun k9 => ?_)
  · have h := itt k9 h
    refine lv_aload_n hx hb dX5_first_19 rfl (lv_at hl 0 rfl) ?_
    refine lv_iload_n hx hb dX5_first_20 rfl (lv_at hl 1 rfl) ?_
    obtain ⟨r21, h21, h⟩ := bnd h
    refine g_callv0 (isC := [0, 1, 2, 3]) (gn := fun _ => [wRO g ad (adN 0) aK aD aS aT (adL 0) (adE 0) ro, wEV g adN nw, wLW g adL r21.1, wSE g adE r21.2]) (g_runV (isC := [0, 1, 2, 3]) (rest := []) (As := [.int p1]) X hw (c_X5_spreadFromNow l (ad := ad) (adN := adN) (adL := adL) (adE := adE) (aK := aK) (aD := aD) (aS := aS) (aT := aT) h21) rfl kM_X5_spreadFromNow ki_X5_spreadFromNow ks_X5_spreadFromNow km_X5_237 ⟨(Nat.le_of_ble_eq_true rfl), (Nat.le_of_ble_eq_true rfl)⟩ ⟨(Nat.le_of_ble_eq_true rfl), (Nat.le_of_ble_eq_true rfl)⟩ rfl rfl ⟨_, _, _, _, rfl, rfl, rfl, rfl⟩ rfl hl.1 rfl (Nat.le_of_ble_eq_true rfl) dX5_first_21) hw rfl rfl (fun _ => (Nat.le_of_ble_eq_true rfl)) (fun _ => rfl) rfl rfl (fun _ H locs hw => ?_)
    refine lv_aload_n hx hb dX5_first_24 rfl (lv_at hl 0 rfl) ?_
    refine RO_g_search X hw 0 rfl kf_X5_46 dX5_first_25 ?_
    refine lv_iload_n hx hb dX5_first_28 rfl (lv_at hl 2 rfl) ?_
    obtain ⟨r29, h29, h⟩ := bnd h
    refine g_calli0 (isC := [3]) (gn := fun _ => [wRO g ad (adN 0) aK aD aS aT (adL 0) (adE 0) ro, wEV g adN nw, wLW g adL r21.1, wSE g adE r21.2]) (g_runVN (isC := [3]) (rest := []) (As := [.int p2]) X hw (c_X2_soonestMoveOf l (ad := adE) h29) rfl kM_X2_soonestMoveOf ki_X2_soonestMoveOf ks_X2_soonestMoveOf km_X5_281 ⟨(Nat.le_of_ble_eq_true rfl), (Nat.le_of_ble_eq_true rfl)⟩ ⟨(Nat.le_of_ble_eq_true rfl), (Nat.le_of_ble_eq_true rfl)⟩ rfl rfl ⟨_, _, _, _, rfl, rfl, rfl, rfl⟩ rfl hl.1 rfl (Nat.le_of_ble_eq_true rfl) dX5_first_29) hw rfl rfl (fun _ => (Nat.le_of_ble_eq_true rfl)) (fun _ => rfl) rfl rfl (fun _ H locs hw => ?_)
    have h := Option.some.inj h
    subst h
    exact hret () dX5_first_32 rfl hw
  · have h := itf (fun z => z k9) h
    refine lv_aload_n hx hb dX5_first_12 rfl (lv_at hl 0 rfl) ?_
    refine lv_bipush (v := -2) hx hb dX5_first_13 (by decide) ?_
    obtain ⟨r15, h15, h⟩ := bnd h
    refine g_calli0 (isC := [0]) (gn := fun _ => [wRO g ad (adN 0) aK aD aS aT (adL 0) (adE 0) r15.2, wEV g adN nw, wLW g adL lw, wSE g adE se]) (g_runV (isC := [0]) (rest := []) (As := [.int (-2 : Int32)]) X hw (c_X5_refuse l (ad := ad) (aN := (adN 0)) (aK := aK) (aD := aD) (aS := aS) (aT := aT) (aL := (adL 0)) (aE := (adE 0)) h15) rfl kM_X5_refuse ki_X5_refuse ks_X5_refuse km_X5_62 ⟨(Nat.le_of_ble_eq_true rfl), (Nat.le_of_ble_eq_true rfl)⟩ ⟨(Nat.le_of_ble_eq_true rfl), (Nat.le_of_ble_eq_true rfl)⟩ rfl rfl ⟨_, _, _, _, rfl, rfl, rfl, rfl⟩ rfl hl.1 rfl (Nat.le_of_ble_eq_true rfl) dX5_first_15) hw rfl rfl (fun _ => (Nat.le_of_ble_eq_true rfl)) (fun _ => rfl) rfl rfl (fun _ H locs hw => ?_)
    have h := Option.some.inj h
    subst h
    exact hret () dX5_first_18 rfl hw
theorem kM_X5_time : kM yX5_time cX5_time 8 (some FieldType.int) 2 := ⟨kc_X5_time, kn_RingsOff, by decide +kernel⟩
abbrev R_X5_time : Room := { frames := 8, cells := 0, slots := 0, locals := 171 }
set_option maxHeartbeats 4000000 in
set_option maxRecDepth 100000 in
theorem c_X5_time (l : Launch) {ad : Nat → Nat} {adN : Nat → Nat} {adL : Nat → Nat} {adE : Nat → Nat} {aK : Nat} {aD : Nat} {aS : Nat} {aT : Nat} {N : Nat} {ro : RO} {nw : EV} {lw : LW} {se : SE} {p1 : Int32} {p2 : Int32} {out : Int32 × RO × LW × SE} (h : M_X5_time N ro nw lw se p1 p2 = some out) : gM l yX5_time cX5_time 8 (some FieldType.int) R_X5_time (fun _ => [.ref (ad 0), .int p1, .int p2]) (fun g => [wRO g ad (adN 0) aK aD aS aT (adL 0) (adE 0) ro, wEV g adN nw, wLW g adL lw, wSE g adE se]) (gQi (fun (_ : Unit) => out.1) (fun g (_ : Unit) => [wRO g ad (adN 0) aK aD aS aT (adL 0) (adE 0) out.2.1, wEV g adN nw, wLW g adL out.2.2.1, wSE g adE out.2.2.2])) := by
  refine gM.ofi (by decide +kernel) (fun _ => Nat.le_of_ble_eq_true rfl) (fun g p e s m args below meth c A ls Q X hret hw hl => ?_)
  have hx := X.1.1
  have hb := X.1.2.1
  have hl : lv_has ls 8 [(0, .ref (ad 0)), (1, .int p1), (2, .int p2)] := hl
  have L52 : ∀ (n : Nat) (z52 : RO × LW × SE × Int32 × Int32 × Int32 × Int32), lp (M_X5_time_l52 N nw p1 p2) n z52 = some out → ∀ (H : Heap) (locs : List Loc) (ls : Array Slot), gW g A s.heap [wRO g ad (adN 0) aK aD aS aT (adL 0) (adE 0) z52.1, wEV g adN nw, wLW g adL z52.2.1, wSE g adE z52.2.2.1] H locs → lv_has ls 8 [(0, .ref (ad 0)), (3, .int z52.2.2.2.1), (4, .int z52.2.2.2.2.1), (5, .int z52.2.2.2.2.2.1), (6, .int z52.2.2.2.2.2.2)] → W p l e R_X5_time s m args below meth c H locs 0 0 Q (F0 m 52 ls []) := by
    refine lp_ind ?_
    intro rec52 ih52
    intro z52 h H locs ls hw hl
    unfold M_X5_time_l52 at h
    refine lv_iload hx hb dX5_time_52 (lv_at hl 4 rfl) ?_
    refine lv_iload hx hb dX5_time_54 (lv_at hl 2 rfl) ?_
    refine lv_icmp_ge (tgt := 97) hx hb dX5_time_56 (by decide) (fun k56 => ?_) (fun k56 => ?_)
    · have h := itt k56 h
      refine lv_iload hx hb dX5_time_97 (lv_at hl 3 rfl) ?_
      have h := Option.some.inj h
      subst h
      exact hret () dX5_time_99 rfl hw
    · have h := itf k56 h
      refine lv_aload_n hx hb dX5_time_59 rfl (lv_at hl 0 rfl) ?_
      refine RO_g_search X hw 0 rfl kf_X5_46 dX5_time_60 ?_
      refine lv_iload_n hx hb dX5_time_63 rfl (lv_at hl 1 rfl) ?_
      obtain ⟨r64, h64, h⟩ := bnd h
      refine g_calli0 (isC := [3]) (gn := fun _ => [wRO g ad (adN 0) aK aD aS aT (adL 0) (adE 0) z52.1, wEV g adN nw, wLW g adL z52.2.1, wSE g adE z52.2.2.1]) (g_runVN (isC := [3]) (rest := []) (As := [.int z52.2.2.2.1]) X hw (c_X2_nextMove l (ad := adE) h64) rfl kM_X2_nextMove ki_X2_nextMove ks_X2_nextMove km_X5_229 ⟨(Nat.le_of_ble_eq_true rfl), (Nat.le_of_ble_eq_true rfl)⟩ ⟨(Nat.le_of_ble_eq_true rfl), (Nat.le_of_ble_eq_true rfl)⟩ rfl rfl ⟨_, _, _, _, rfl, rfl, rfl, rfl⟩ rfl hl.1 rfl (Nat.le_of_ble_eq_true rfl) dX5_time_64) hw rfl rfl (fun _ => (Nat.le_of_ble_eq_true rfl)) (fun _ => rfl) rfl rfl (fun _ H locs hw => ?_)
      refine lv_istore (lv' := [(7, .int r64), (0, .ref (ad 0)), (3, .int z52.2.2.2.1), (4, .int z52.2.2.2.2.1), (5, .int z52.2.2.2.2.2.1), (6, .int z52.2.2.2.2.2.2)]) hx hb dX5_time_67 hl (by decide) rfl (fun ls hl => ?_)
      refine lv_iload hx hb dX5_time_69 (lv_at hl 4 rfl) ?_
      refine lv_aload_n hx hb dX5_time_71 rfl (lv_at hl 1 rfl) ?_
      refine RO_g_now X hw 0 rfl kf_X5_12 dX5_time_72 ?_
      refine lv_iload hx hb dX5_time_75 (lv_at hl 0 rfl) ?_
      obtain ⟨r77, h77, h⟩ := bnd h
      refine g_calli0 (isC := [1]) (gn := fun _ => [wRO g ad (adN 0) aK aD aS aT (adL 0) (adE 0) z52.1, wEV g adN nw, wLW g adL z52.2.1, wSE g adE z52.2.2.1]) (g_runVN (isC := [1]) (rest := [.int z52.2.2.2.2.2.1]) (As := [.int r64]) X hw (c_X0_minutesOfMove l (ad := adN) h77) rfl kM_X0_minutesOfMove ki_X0_minutesOfMove ks_X0_minutesOfMove km_X5_287 ⟨(Nat.le_of_ble_eq_true rfl), (Nat.le_of_ble_eq_true rfl)⟩ ⟨(Nat.le_of_ble_eq_true rfl), (Nat.le_of_ble_eq_true rfl)⟩ rfl rfl ⟨_, _, _, _, rfl, rfl, rfl, rfl⟩ rfl hl.1 rfl (Nat.le_of_ble_eq_true rfl) dX5_time_77) hw rfl rfl (fun _ => (Nat.le_of_ble_eq_true rfl)) (fun _ => rfl) rfl rfl (fun _ H locs hw => ?_)
      refine lv_iadd hx hb dX5_time_80 ?_
      refine lv_istore (lv' := [(5, .int (z52.2.2.2.2.2.1 + r77)), (7, .int r64), (0, .ref (ad 0)), (3, .int z52.2.2.2.1), (4, .int z52.2.2.2.2.1), (6, .int z52.2.2.2.2.2.2)]) hx hb dX5_time_81 hl (by decide) rfl (fun ls hl => ?_)
      refine lv_iload_n hx hb dX5_time_83 rfl (lv_at hl 3 rfl) ?_
      refine lv_iload hx hb dX5_time_84 (lv_at hl 1 rfl) ?_
      obtain ⟨r86, h86, h⟩ := bnd h
      refine g_calli0 (isC := []) (gn := fun _ => [wRO g ad (adN 0) aK aD aS aT (adL 0) (adE 0) z52.1, wEV g adN nw, wLW g adL z52.2.1, wSE g adE z52.2.2.1]) (g_runS (isC := []) (rest := [.int z52.2.2.2.1]) (As := [.int r64]) X hw (c_X5_ringsOf l h86) rfl kM_X5_ringsOf kt_X5_ringsOf km_X5_232 ⟨(Nat.le_of_ble_eq_true rfl), (Nat.le_of_ble_eq_true rfl)⟩ ⟨(Nat.le_of_ble_eq_true rfl), (Nat.le_of_ble_eq_true rfl)⟩ rfl rfl rfl hl.1 rfl (Nat.le_of_ble_eq_true rfl) dX5_time_86) hw rfl rfl (fun _ => (Nat.le_of_ble_eq_true rfl)) (fun _ => rfl) rfl rfl (fun _ H locs hw => ?_)
      refine lv_ixor hx hb dX5_time_89 ?_
      refine lv_istore_n (lv' := [(3, .int (z52.2.2.2.1 ^^^ r86)), (5, .int (z52.2.2.2.2.2.1 + r77)), (7, .int r64), (0, .ref (ad 0)), (4, .int z52.2.2.2.2.1), (6, .int z52.2.2.2.2.2.2)]) hx hb dX5_time_90 rfl hl (by decide) rfl (fun ls hl => ?_)
      refine lv_iinc (v := (z52.2.2.2.2.2.2 + 1)) (lv' := [(6, .int (z52.2.2.2.2.2.2 + 1)), (3, .int (z52.2.2.2.1 ^^^ r86)), (5, .int (z52.2.2.2.2.2.1 + r77)), (7, .int r64), (0, .ref (ad 0)), (4, .int z52.2.2.2.2.1)]) hx hb dX5_time_91 hl (k := 5) rfl rfl (by decide) rfl (fun ls hl => ?_)
      refine lv_goto (tgt := 52) hx hb dX5_time_94 (by decide) ?_
      exact ih52 _ h _ _ _ hw (lv_sub hl [4, 1, 5, 2, 0] rfl)
  unfold M_X5_time at h
  refine lv_aload_n hx hb dX5_time_0 rfl (lv_at hl 0 rfl) ?_
  refine RO_g_now X hw 0 rfl kf_X5_12 dX5_time_1 ?_
  refine lv_iload_n hx hb dX5_time_4 rfl (lv_at hl 1 rfl) ?_
  refine lv_iload_n hx hb dX5_time_5 rfl (lv_at hl 2 rfl) ?_
  refine lv_i2l (v := p2.toInt64) hx hb dX5_time_6 rfl ?_
  obtain ⟨r7, h7, h⟩ := bnd h
  refine g_calli0 (isC := [1]) (gn := fun _ => [wRO g ad (adN 0) aK aD aS aT (adL 0) (adE 0) ro, wEV g adN nw, wLW g adL lw, wSE g adE se]) (g_runVN (isC := [1]) (rest := []) (As := [.int p1, .long p2.toInt64]) X hw (c_X0_hasSet l (ad := adN) h7) rfl kM_X0_hasSet ki_X0_hasSet ks_X0_hasSet km_X5_164 ⟨(Nat.le_of_ble_eq_true rfl), (Nat.le_of_ble_eq_true rfl)⟩ ⟨(Nat.le_of_ble_eq_true rfl), (Nat.le_of_ble_eq_true rfl)⟩ rfl rfl ⟨_, _, _, _, rfl, rfl, rfl, rfl⟩ rfl hl.1 rfl (Nat.le_of_ble_eq_true rfl) dX5_time_7) hw rfl rfl (fun _ => (Nat.le_of_ble_eq_true rfl)) (fun _ => rfl) rfl rfl (fun _ H locs hw => ?_)
  refine lv_if_ne (tgt := 20) hx hb dX5_time_10 (by decide) (fun k10 => ?_) (fun k10 => ?_)
  · have h := itt k10 h
    refine lv_aload_n hx hb dX5_time_20 rfl (lv_at hl 0 rfl) ?_
    refine RO_g_now X hw 0 rfl kf_X5_12 dX5_time_21 ?_
    refine lv_iload_n hx hb dX5_time_24 rfl (lv_at hl 1 rfl) ?_
    obtain ⟨r25, h25, h⟩ := bnd h
    refine g_calli0 (isC := [1]) (gn := fun _ => [wRO g ad (adN 0) aK aD aS aT (adL 0) (adE 0) ro, wEV g adN nw, wLW g adL lw, wSE g adE se]) (g_runVN (isC := [1]) (rest := []) (As := [.int p1]) X hw (c_X0_onOf l (ad := adN) h25) rfl kM_X0_onOf ki_X0_onOf ks_X0_onOf km_X5_122 ⟨(Nat.le_of_ble_eq_true rfl), (Nat.le_of_ble_eq_true rfl)⟩ ⟨(Nat.le_of_ble_eq_true rfl), (Nat.le_of_ble_eq_true rfl)⟩ rfl rfl ⟨_, _, _, _, rfl, rfl, rfl, rfl⟩ rfl hl.1 rfl (Nat.le_of_ble_eq_true rfl) dX5_time_25) hw rfl rfl (fun _ => (Nat.le_of_ble_eq_true rfl)) (fun _ => rfl) rfl rfl (fun _ H locs hw => ?_)
    refine lv_istore_n (lv' := [(3, .int r25), (0, .ref (ad 0)), (1, .int p1), (2, .int p2)]) hx hb dX5_time_28 rfl hl (by decide) rfl (fun ls hl => ?_)
    refine lv_aload_n hx hb dX5_time_29 rfl (lv_at hl 1 rfl) ?_
    refine lv_iload_n hx hb dX5_time_30 rfl (lv_at hl 2 rfl) ?_
    refine lv_iload_n hx hb dX5_time_31 rfl (lv_at hl 0 rfl) ?_
    refine lv_iload_n hx hb dX5_time_32 rfl (lv_at hl 3 rfl) ?_
    obtain ⟨r33, h33, h⟩ := bnd h
    refine g_calli0 (isC := [0, 1, 2, 3]) (gn := fun _ => [wRO g ad (adN 0) aK aD aS aT (adL 0) (adE 0) ro, wEV g adN nw, wLW g adL r33.2.1, wSE g adE r33.2.2]) (g_runV (isC := [0, 1, 2, 3]) (rest := []) (As := [.int p1, .int r25, .int p2]) X hw (c_X5_leadTo l (ad := ad) (adN := adN) (adL := adL) (adE := adE) (aK := aK) (aD := aD) (aS := aS) (aT := aT) h33) rfl kM_X5_leadTo ki_X5_leadTo ks_X5_leadTo km_X5_140 ⟨(Nat.le_of_ble_eq_true rfl), (Nat.le_of_ble_eq_true rfl)⟩ ⟨(Nat.le_of_ble_eq_true rfl), (Nat.le_of_ble_eq_true rfl)⟩ rfl rfl ⟨_, _, _, _, rfl, rfl, rfl, rfl⟩ rfl hl.1 rfl (Nat.le_of_ble_eq_true rfl) dX5_time_33) hw rfl rfl (fun _ => (Nat.le_of_ble_eq_true rfl)) (fun _ => rfl) rfl rfl (fun _ H locs hw => ?_)
    refine lv_istore (lv' := [(4, .int r33.1), (3, .int r25), (0, .ref (ad 0)), (1, .int p1), (2, .int p2)]) hx hb dX5_time_36 hl (by decide) rfl (fun ls hl => ?_)
    refine lv_iload hx hb dX5_time_38 (lv_at hl 0 rfl) ?_
    refine lv_iconst (v := -1) hx hb dX5_time_40 (by decide) ?_
    refine lv_icmp_ne (tgt := 46) hx hb dX5_time_41 (by decide) (fun k41 => ?_) (fun k41 => ?_)
    · have h := itt k41 h
      refine lv_iconst (v := 0) hx hb dX5_time_46 (by decide) ?_
      refine lv_istore (lv' := [(5, .int (0 : Int32)), (4, .int r33.1), (3, .int r25), (0, .ref (ad 0)), (1, .int p1), (2, .int p2)]) hx hb dX5_time_47 hl (by decide) rfl (fun ls hl => ?_)
      refine lv_iconst (v := 0) hx hb dX5_time_49 (by decide) ?_
      refine lv_istore (lv' := [(6, .int (0 : Int32)), (5, .int (0 : Int32)), (4, .int r33.1), (3, .int r25), (0, .ref (ad 0)), (1, .int p1), (2, .int p2)]) hx hb dX5_time_50 hl (by decide) rfl (fun ls hl => ?_)
      exact L52 N _ h _ _ _ hw (lv_sub hl [4, 3, 2, 1, 0] rfl)
    · have h := itf (fun z => z k41) h
      refine lv_iconst (v := -1) hx hb dX5_time_44 (by decide) ?_
      have h := Option.some.inj h
      subst h
      exact hret () dX5_time_45 rfl hw
  · have h := itf (fun z => z k10) h
    refine lv_aload_n hx hb dX5_time_13 rfl (lv_at hl 0 rfl) ?_
    refine lv_bipush (v := -2) hx hb dX5_time_14 (by decide) ?_
    obtain ⟨r16, h16, h⟩ := bnd h
    refine g_calli0 (isC := [0]) (gn := fun _ => [wRO g ad (adN 0) aK aD aS aT (adL 0) (adE 0) r16.2, wEV g adN nw, wLW g adL lw, wSE g adE se]) (g_runV (isC := [0]) (rest := []) (As := [.int (-2 : Int32)]) X hw (c_X5_refuse l (ad := ad) (aN := (adN 0)) (aK := aK) (aD := aD) (aS := aS) (aT := aT) (aL := (adL 0)) (aE := (adE 0)) h16) rfl kM_X5_refuse ki_X5_refuse ks_X5_refuse km_X5_62 ⟨(Nat.le_of_ble_eq_true rfl), (Nat.le_of_ble_eq_true rfl)⟩ ⟨(Nat.le_of_ble_eq_true rfl), (Nat.le_of_ble_eq_true rfl)⟩ rfl rfl ⟨_, _, _, _, rfl, rfl, rfl, rfl⟩ rfl hl.1 rfl (Nat.le_of_ble_eq_true rfl) dX5_time_16) hw rfl rfl (fun _ => (Nat.le_of_ble_eq_true rfl)) (fun _ => rfl) rfl rfl (fun _ H locs hw => ?_)
    have h := Option.some.inj h
    subst h
    exact hret () dX5_time_19 rfl hw
theorem kM_X5_bell : kM yX5_bell cX5_bell 10 (some FieldType.int) 3 := ⟨kc_X5_bell, kn_RingsOff, by decide +kernel⟩
abbrev R_X5_bell : Room := { frames := 8, cells := 0, slots := 0, locals := 171 }
set_option maxHeartbeats 4000000 in
set_option maxRecDepth 100000 in
theorem c_X5_bell (l : Launch) {ad : Nat → Nat} {adN : Nat → Nat} {adL : Nat → Nat} {adE : Nat → Nat} {aK : Nat} {aD : Nat} {aS : Nat} {aT : Nat} {N : Nat} {ro : RO} {nw : EV} {lw : LW} {se : SE} {p1 : Int32} {p2 : Int32} {p3 : Int32} {out : Int32 × RO × LW × SE} (h : M_X5_bell N ro nw lw se p1 p2 p3 = some out) : gM l yX5_bell cX5_bell 10 (some FieldType.int) R_X5_bell (fun _ => [.ref (ad 0), .int p1, .int p2, .int p3]) (fun g => [wRO g ad (adN 0) aK aD aS aT (adL 0) (adE 0) ro, wEV g adN nw, wLW g adL lw, wSE g adE se]) (gQi (fun (_ : Unit) => out.1) (fun g (_ : Unit) => [wRO g ad (adN 0) aK aD aS aT (adL 0) (adE 0) out.2.1, wEV g adN nw, wLW g adL out.2.2.1, wSE g adE out.2.2.2])) := by
  refine gM.ofi (by decide +kernel) (fun _ => Nat.le_of_ble_eq_true rfl) (fun g p e s m args below meth c A ls Q X hret hw hl => ?_)
  have hx := X.1.1
  have hb := X.1.2.1
  have hl : lv_has ls 10 [(0, .ref (ad 0)), (1, .int p1), (2, .int p2), (3, .int p3)] := hl
  have L53 : ∀ (n : Nat) (z53 : RO × LW × SE × Int32 × Int32 × Int32 × Int32 × Int32), lp (M_X5_bell_l53 N nw p1 p2 p3) n z53 = some out → ∀ (H : Heap) (locs : List Loc) (ls : Array Slot), gW g A s.heap [wRO g ad (adN 0) aK aD aS aT (adL 0) (adE 0) z53.1, wEV g adN nw, wLW g adL z53.2.1, wSE g adE z53.2.2.1] H locs → lv_has ls 10 [(0, .ref (ad 0)), (2, .int p2), (3, .int p3), (4, .int z53.2.2.2.1), (5, .int z53.2.2.2.2.1), (6, .int z53.2.2.2.2.2.1), (7, .int z53.2.2.2.2.2.2.1), (8, .int z53.2.2.2.2.2.2.2)] → W p l e R_X5_bell s m args below meth c H locs 0 0 Q (F0 m 53 ls []) := by
    refine lp_ind ?_
    intro rec53 ih53
    intro z53 h H locs ls hw hl
    unfold M_X5_bell_l53 at h
    refine lv_iload hx hb dX5_bell_53 (lv_at hl 7 rfl) ?_
    refine lv_iload hx hb dX5_bell_55 (lv_at hl 4 rfl) ?_
    refine lv_icmp_ge (tgt := 128) hx hb dX5_bell_57 (by decide) (fun k57 => ?_) (fun k57 => ?_)
    · have h := itt k57 h
      refine lv_iconst (v := -1) hx hb dX5_bell_128 (by decide) ?_
      have h := Option.some.inj h
      subst h
      exact hret () dX5_bell_129 rfl hw
    · have h := itf k57 h
      refine lv_aload_n hx hb dX5_bell_60 rfl (lv_at hl 0 rfl) ?_
      refine RO_g_search X hw 0 rfl kf_X5_46 dX5_bell_61 ?_
      refine lv_iload hx hb dX5_bell_64 (lv_at hl 3 rfl) ?_
      obtain ⟨r66, h66, h⟩ := bnd h
      refine g_calli0 (isC := [3]) (gn := fun _ => [wRO g ad (adN 0) aK aD aS aT (adL 0) (adE 0) z53.1, wEV g adN nw, wLW g adL z53.2.1, wSE g adE z53.2.2.1]) (g_runVN (isC := [3]) (rest := []) (As := [.int z53.2.2.2.1]) X hw (c_X2_nextMove l (ad := adE) h66) rfl kM_X2_nextMove ki_X2_nextMove ks_X2_nextMove km_X5_229 ⟨(Nat.le_of_ble_eq_true rfl), (Nat.le_of_ble_eq_true rfl)⟩ ⟨(Nat.le_of_ble_eq_true rfl), (Nat.le_of_ble_eq_true rfl)⟩ rfl rfl ⟨_, _, _, _, rfl, rfl, rfl, rfl⟩ rfl hl.1 rfl (Nat.le_of_ble_eq_true rfl) dX5_bell_66) hw rfl rfl (fun _ => (Nat.le_of_ble_eq_true rfl)) (fun _ => rfl) rfl rfl (fun _ H locs hw => ?_)
      obtain ⟨r69, h69, h⟩ := bnd h
      refine g_calli0 (isC := []) (gn := fun _ => [wRO g ad (adN 0) aK aD aS aT (adL 0) (adE 0) z53.1, wEV g adN nw, wLW g adL z53.2.1, wSE g adE z53.2.2.1]) (g_runS (isC := []) (rest := []) (As := [.int r66]) X hw (c_X5_ringsOf l h69) rfl kM_X5_ringsOf kt_X5_ringsOf km_X5_232 ⟨(Nat.le_of_ble_eq_true rfl), (Nat.le_of_ble_eq_true rfl)⟩ ⟨(Nat.le_of_ble_eq_true rfl), (Nat.le_of_ble_eq_true rfl)⟩ rfl rfl rfl hl.1 rfl (Nat.le_of_ble_eq_true rfl) dX5_bell_69) hw rfl rfl (fun _ => (Nat.le_of_ble_eq_true rfl)) (fun _ => rfl) rfl rfl (fun _ H locs hw => ?_)
      refine lv_istore (lv' := [(9, .int r69), (0, .ref (ad 0)), (2, .int p2), (3, .int p3), (4, .int z53.2.2.2.1), (5, .int z53.2.2.2.2.1), (6, .int z53.2.2.2.2.2.1), (7, .int z53.2.2.2.2.2.2.1), (8, .int z53.2.2.2.2.2.2.2)]) hx hb dX5_bell_72 hl (by decide) rfl (fun ls hl => ?_)
      refine lv_iload hx hb dX5_bell_74 (lv_at hl 7 rfl) ?_
      refine lv_aload_n hx hb dX5_bell_76 rfl (lv_at hl 1 rfl) ?_
      refine RO_g_now X hw 0 rfl kf_X5_12 dX5_bell_77 ?_
      refine lv_aload_n hx hb dX5_bell_80 rfl (lv_at hl 1 rfl) ?_
      refine RO_g_search X hw 0 rfl kf_X5_46 dX5_bell_81 ?_
      refine lv_iload hx hb dX5_bell_84 (lv_at hl 4 rfl) ?_
      obtain ⟨r86, h86, h⟩ := bnd h
      refine g_calli0 (isC := [3]) (gn := fun _ => [wRO g ad (adN 0) aK aD aS aT (adL 0) (adE 0) z53.1, wEV g adN nw, wLW g adL z53.2.1, wSE g adE z53.2.2.1]) (g_runVN (isC := [3]) (rest := [.ref (adN 0), .int z53.2.2.2.2.2.2.1]) (As := [.int z53.2.2.2.1]) X hw (c_X2_nextMove l (ad := adE) h86) rfl kM_X2_nextMove ki_X2_nextMove ks_X2_nextMove km_X5_229 ⟨(Nat.le_of_ble_eq_true rfl), (Nat.le_of_ble_eq_true rfl)⟩ ⟨(Nat.le_of_ble_eq_true rfl), (Nat.le_of_ble_eq_true rfl)⟩ rfl rfl ⟨_, _, _, _, rfl, rfl, rfl, rfl⟩ rfl hl.1 rfl (Nat.le_of_ble_eq_true rfl) dX5_bell_86) hw rfl rfl (fun _ => (Nat.le_of_ble_eq_true rfl)) (fun _ => rfl) rfl rfl (fun _ H locs hw => ?_)
      obtain ⟨r89, h89, h⟩ := bnd h
      refine g_calli0 (isC := [1]) (gn := fun _ => [wRO g ad (adN 0) aK aD aS aT (adL 0) (adE 0) z53.1, wEV g adN nw, wLW g adL z53.2.1, wSE g adE z53.2.2.1]) (g_runVN (isC := [1]) (rest := [.int z53.2.2.2.2.2.2.1]) (As := [.int r86]) X hw (c_X0_minutesOfMove l (ad := adN) h89) rfl kM_X0_minutesOfMove ki_X0_minutesOfMove ks_X0_minutesOfMove km_X5_287 ⟨(Nat.le_of_ble_eq_true rfl), (Nat.le_of_ble_eq_true rfl)⟩ ⟨(Nat.le_of_ble_eq_true rfl), (Nat.le_of_ble_eq_true rfl)⟩ rfl rfl ⟨_, _, _, _, rfl, rfl, rfl, rfl⟩ rfl hl.1 rfl (Nat.le_of_ble_eq_true rfl) dX5_bell_89) hw rfl rfl (fun _ => (Nat.le_of_ble_eq_true rfl)) (fun _ => rfl) rfl rfl (fun _ H locs hw => ?_)
      refine lv_iadd hx hb dX5_bell_92 ?_
      refine lv_istore (lv' := [(7, .int (z53.2.2.2.2.2.2.1 + r89)), (9, .int r69), (0, .ref (ad 0)), (2, .int p2), (3, .int p3), (4, .int z53.2.2.2.1), (5, .int z53.2.2.2.2.1), (6, .int z53.2.2.2.2.2.1), (8, .int z53.2.2.2.2.2.2.2)]) hx hb dX5_bell_93 hl (by decide) rfl (fun ls hl => ?_)
      refine lv_iload hx hb dX5_bell_95 (lv_at hl 7 rfl) ?_
      refine lv_iload hx hb dX5_bell_97 (lv_at hl 1 rfl) ?_
      refine lv_iload_n hx hb dX5_bell_99 rfl (lv_at hl 3 rfl) ?_
      refine lv_ishr hx hb dX5_bell_100 ?_
      refine lv_iconst (v := 1) hx hb dX5_bell_101 (by decide) ?_
      refine lv_iand hx hb dX5_bell_102 ?_
      refine lv_iadd hx hb dX5_bell_103 ?_
      refine lv_istore (lv' := [(6, .int (z53.2.2.2.2.2.1 + ((r69 >>> (p2 &&& 31)) &&& (1 : Int32)))), (7, .int (z53.2.2.2.2.2.2.1 + r89)), (9, .int r69), (0, .ref (ad 0)), (2, .int p2), (3, .int p3), (4, .int z53.2.2.2.1), (5, .int z53.2.2.2.2.1), (8, .int z53.2.2.2.2.2.2.2)]) hx hb dX5_bell_104 hl (by decide) rfl (fun ls hl => ?_)
      refine lv_iload hx hb dX5_bell_106 (lv_at hl 0 rfl) ?_
      refine lv_iload_n hx hb dX5_bell_108 rfl (lv_at hl 5 rfl) ?_
      refine lv_icmp_ne (tgt := 115) hx hb dX5_bell_109 (by decide) (fun k109 => ?_) (fun k109 => ?_)
      · have h := itt k109 h
        refine lv_iload hx hb dX5_bell_115 (lv_at hl 6 rfl) ?_
        refine lv_iload hx hb dX5_bell_117 (lv_at hl 2 rfl) ?_
        refine lv_ixor hx hb dX5_bell_119 ?_
        refine lv_istore (lv' := [(4, .int (z53.2.2.2.1 ^^^ r69)), (6, .int (z53.2.2.2.2.2.1 + ((r69 >>> (p2 &&& 31)) &&& (1 : Int32)))), (7, .int (z53.2.2.2.2.2.2.1 + r89)), (9, .int r69), (0, .ref (ad 0)), (2, .int p2), (3, .int p3), (5, .int z53.2.2.2.2.1), (8, .int z53.2.2.2.2.2.2.2)]) hx hb dX5_bell_120 hl (by decide) rfl (fun ls hl => ?_)
        refine lv_iinc (v := (z53.2.2.2.2.2.2.2 + 1)) (lv' := [(8, .int (z53.2.2.2.2.2.2.2 + 1)), (4, .int (z53.2.2.2.1 ^^^ r69)), (6, .int (z53.2.2.2.2.2.1 + ((r69 >>> (p2 &&& 31)) &&& (1 : Int32)))), (7, .int (z53.2.2.2.2.2.2.1 + r89)), (9, .int r69), (0, .ref (ad 0)), (2, .int p2), (3, .int p3), (5, .int z53.2.2.2.2.1)]) hx hb dX5_bell_122 hl (k := 8) rfl rfl (by decide) rfl (fun ls hl => ?_)
        refine lv_goto (tgt := 53) hx hb dX5_bell_125 (by decide) ?_
        exact ih53 _ h _ _ _ hw (lv_sub hl [5, 6, 7, 1, 8, 2, 3, 0] rfl)
      · have h := itf (fun z => z k109) h
        refine lv_iload hx hb dX5_bell_112 (lv_at hl 1 rfl) ?_
        have h := Option.some.inj h
        subst h
        exact hret () dX5_bell_114 rfl hw
  have J17 : ∀ (z17 : RO × LW × SE), M_X5_bell_j17 N nw p1 p2 p3 z17 = some out → ∀ (H : Heap) (locs : List Loc) (ls : Array Slot), gW g A s.heap [wRO g ad (adN 0) aK aD aS aT (adL 0) (adE 0) z17.1, wEV g adN nw, wLW g adL z17.2.1, wSE g adE z17.2.2] H locs → lv_has ls 10 [(0, .ref (ad 0))] → W p l e R_X5_bell s m args below meth c H locs 0 0 Q (F0 m 17 ls []) := by
    intro z17 h H locs ls hw hl
    unfold M_X5_bell_j17 at h
    refine lv_aload_n hx hb dX5_bell_17 rfl (lv_at hl 0 rfl) ?_
    refine lv_bipush (v := -2) hx hb dX5_bell_18 (by decide) ?_
    obtain ⟨r20, h20, h⟩ := bnd h
    refine g_calli0 (isC := [0]) (gn := fun _ => [wRO g ad (adN 0) aK aD aS aT (adL 0) (adE 0) r20.2, wEV g adN nw, wLW g adL z17.2.1, wSE g adE z17.2.2]) (g_runV (isC := [0]) (rest := []) (As := [.int (-2 : Int32)]) X hw (c_X5_refuse l (ad := ad) (aN := (adN 0)) (aK := aK) (aD := aD) (aS := aS) (aT := aT) (aL := (adL 0)) (aE := (adE 0)) h20) rfl kM_X5_refuse ki_X5_refuse ks_X5_refuse km_X5_62 ⟨(Nat.le_of_ble_eq_true rfl), (Nat.le_of_ble_eq_true rfl)⟩ ⟨(Nat.le_of_ble_eq_true rfl), (Nat.le_of_ble_eq_true rfl)⟩ rfl rfl ⟨_, _, _, _, rfl, rfl, rfl, rfl⟩ rfl hl.1 rfl (Nat.le_of_ble_eq_true rfl) dX5_bell_20) hw rfl rfl (fun _ => (Nat.le_of_ble_eq_true rfl)) (fun _ => rfl) rfl rfl (fun _ H locs hw => ?_)
    have h := Option.some.inj h
    subst h
    exact hret () dX5_bell_23 rfl hw
  unfold M_X5_bell at h
  refine lv_aload_n hx hb dX5_bell_0 rfl (lv_at hl 0 rfl) ?_
  refine RO_g_now X hw 0 rfl kf_X5_12 dX5_bell_1 ?_
  refine lv_iload_n hx hb dX5_bell_4 rfl (lv_at hl 1 rfl) ?_
  refine lv_iload_n hx hb dX5_bell_5 rfl (lv_at hl 2 rfl) ?_
  obtain ⟨r6, h6, h⟩ := bnd h
  refine g_calli0 (isC := [1]) (gn := fun _ => [wRO g ad (adN 0) aK aD aS aT (adL 0) (adE 0) ro, wEV g adN nw, wLW g adL lw, wSE g adE se]) (g_runVN (isC := [1]) (rest := []) (As := [.int p1, .int p2]) X hw (c_X0_hasRing l (ad := adN) h6) rfl kM_X0_hasRing ki_X0_hasRing ks_X0_hasRing km_X5_177 ⟨(Nat.le_of_ble_eq_true rfl), (Nat.le_of_ble_eq_true rfl)⟩ ⟨(Nat.le_of_ble_eq_true rfl), (Nat.le_of_ble_eq_true rfl)⟩ rfl rfl ⟨_, _, _, _, rfl, rfl, rfl, rfl⟩ rfl hl.1 rfl (Nat.le_of_ble_eq_true rfl) dX5_bell_6) hw rfl rfl (fun _ => (Nat.le_of_ble_eq_true rfl)) (fun _ => rfl) rfl rfl (fun _ H locs hw => ?_)
  refine lv_if_eq (tgt := 17) hx hb dX5_bell_9 (by decide) (fun k9 => ?_) (fun k9 => ?_)
  · have h := itt k9 h
    exact J17 _ h _ _ _ hw (lv_sub hl [0] rfl)
  · have h := itf k9 h
    refine lv_iload_n hx hb dX5_bell_12 rfl (lv_at hl 3 rfl) ?_
    refine lv_iconst (v := 1) hx hb dX5_bell_13 (by decide) ?_
    refine lv_icmp_ge (tgt := 24) hx hb dX5_bell_14 (by decide) (fun k14 => ?_) (fun k14 => ?_)
    · have h := itt k14 h
      refine lv_aload_n hx hb dX5_bell_24 rfl (lv_at hl 0 rfl) ?_
      refine RO_g_now X hw 0 rfl kf_X5_12 dX5_bell_25 ?_
      refine lv_iload_n hx hb dX5_bell_28 rfl (lv_at hl 1 rfl) ?_
      obtain ⟨r29, h29, h⟩ := bnd h
      refine g_calli0 (isC := [1]) (gn := fun _ => [wRO g ad (adN 0) aK aD aS aT (adL 0) (adE 0) ro, wEV g adN nw, wLW g adL lw, wSE g adE se]) (g_runVN (isC := [1]) (rest := []) (As := [.int p1]) X hw (c_X0_onOf l (ad := adN) h29) rfl kM_X0_onOf ki_X0_onOf ks_X0_onOf km_X5_122 ⟨(Nat.le_of_ble_eq_true rfl), (Nat.le_of_ble_eq_true rfl)⟩ ⟨(Nat.le_of_ble_eq_true rfl), (Nat.le_of_ble_eq_true rfl)⟩ rfl rfl ⟨_, _, _, _, rfl, rfl, rfl, rfl⟩ rfl hl.1 rfl (Nat.le_of_ble_eq_true rfl) dX5_bell_29) hw rfl rfl (fun _ => (Nat.le_of_ble_eq_true rfl)) (fun _ => rfl) rfl rfl (fun _ H locs hw => ?_)
      refine lv_istore (lv' := [(4, .int r29), (0, .ref (ad 0)), (1, .int p1), (2, .int p2), (3, .int p3)]) hx hb dX5_bell_32 hl (by decide) rfl (fun ls hl => ?_)
      refine lv_aload_n hx hb dX5_bell_34 rfl (lv_at hl 1 rfl) ?_
      refine lv_iload_n hx hb dX5_bell_35 rfl (lv_at hl 2 rfl) ?_
      refine lv_iload hx hb dX5_bell_36 (lv_at hl 0 rfl) ?_
      refine lv_iconst (v := 0) hx hb dX5_bell_38 (by decide) ?_
      obtain ⟨r39, h39, h⟩ := bnd h
      refine g_calli0 (isC := [0, 1, 2, 3]) (gn := fun _ => [wRO g ad (adN 0) aK aD aS aT (adL 0) (adE 0) ro, wEV g adN nw, wLW g adL r39.2.1, wSE g adE r39.2.2]) (g_runV (isC := [0, 1, 2, 3]) (rest := []) (As := [.int p1, .int r29, .int (0 : Int32)]) X hw (c_X5_leadTo l (ad := ad) (adN := adN) (adL := adL) (adE := adE) (aK := aK) (aD := aD) (aS := aS) (aT := aT) h39) rfl kM_X5_leadTo ki_X5_leadTo ks_X5_leadTo km_X5_140 ⟨(Nat.le_of_ble_eq_true rfl), (Nat.le_of_ble_eq_true rfl)⟩ ⟨(Nat.le_of_ble_eq_true rfl), (Nat.le_of_ble_eq_true rfl)⟩ rfl rfl ⟨_, _, _, _, rfl, rfl, rfl, rfl⟩ rfl hl.1 rfl (Nat.le_of_ble_eq_true rfl) dX5_bell_39) hw rfl rfl (fun _ => (Nat.le_of_ble_eq_true rfl)) (fun _ => rfl) rfl rfl (fun _ H locs hw => ?_)
      refine lv_istore (lv' := [(5, .int r39.1), (4, .int r29), (0, .ref (ad 0)), (1, .int p1), (2, .int p2), (3, .int p3)]) hx hb dX5_bell_42 hl (by decide) rfl (fun ls hl => ?_)
      refine lv_iconst (v := 0) hx hb dX5_bell_44 (by decide) ?_
      refine lv_istore (lv' := [(6, .int (0 : Int32)), (5, .int r39.1), (4, .int r29), (0, .ref (ad 0)), (1, .int p1), (2, .int p2), (3, .int p3)]) hx hb dX5_bell_45 hl (by decide) rfl (fun ls hl => ?_)
      refine lv_iconst (v := 0) hx hb dX5_bell_47 (by decide) ?_
      refine lv_istore (lv' := [(7, .int (0 : Int32)), (6, .int (0 : Int32)), (5, .int r39.1), (4, .int r29), (0, .ref (ad 0)), (1, .int p1), (2, .int p2), (3, .int p3)]) hx hb dX5_bell_48 hl (by decide) rfl (fun ls hl => ?_)
      refine lv_iconst (v := 0) hx hb dX5_bell_50 (by decide) ?_
      refine lv_istore (lv' := [(8, .int (0 : Int32)), (7, .int (0 : Int32)), (6, .int (0 : Int32)), (5, .int r39.1), (4, .int r29), (0, .ref (ad 0)), (1, .int p1), (2, .int p2), (3, .int p3)]) hx hb dX5_bell_51 hl (by decide) rfl (fun ls hl => ?_)
      exact L53 N _ h _ _ _ hw (lv_sub hl [5, 7, 8, 4, 3, 2, 1, 0] rfl)
    · have h := itf k14 h
      exact J17 _ h _ _ _ hw (lv_sub hl [0] rfl)
theorem kM_X5_pictures : kM yX5_pictures cX5_pictures 8 (some FieldType.int) 3 := ⟨kc_X5_pictures, kn_RingsOff, by decide +kernel⟩
abbrev R_X5_pictures : Room := { frames := 7, cells := 0, slots := 0, locals := 148 }
set_option maxHeartbeats 4000000 in
set_option maxRecDepth 100000 in
theorem c_X5_pictures (l : Launch) {ad : Nat → Nat} {adN : Nat → Nat} {adS : Nat → Nat} {adL : Nat → Nat} {adE : Nat → Nat} {aK : Nat} {aD : Nat} {aT : Nat} {N : Nat} {ro : RO} {nw : EV} {sh : SH} {lw : LW} {se : SE} {p1 : Int32} {p2 : Int32} {p3 : Int32} {out : Int32 × RO × LW × SE} (h : M_X5_pictures N ro nw sh lw se p1 p2 p3 = some out) : gM l yX5_pictures cX5_pictures 8 (some FieldType.int) R_X5_pictures (fun _ => [.ref (ad 0), .int p1, .int p2, .int p3]) (fun g => [wRO g ad (adN 0) aK aD (adS 0) aT (adL 0) (adE 0) ro, wEV g adN nw, wSH g adS sh, wLW g adL lw, wSE g adE se]) (gQi (fun (_ : Unit) => out.1) (fun g (_ : Unit) => [wRO g ad (adN 0) aK aD (adS 0) aT (adL 0) (adE 0) out.2.1, wEV g adN nw, wSH g adS sh, wLW g adL out.2.2.1, wSE g adE out.2.2.2])) := by
  refine gM.ofi (by decide +kernel) (fun _ => Nat.le_of_ble_eq_true rfl) (fun g p e s m args below meth c A ls Q X hret hw hl => ?_)
  have hx := X.1.1
  have hb := X.1.2.1
  have hl : lv_has ls 8 [(0, .ref (ad 0)), (1, .int p1), (2, .int p2), (3, .int p3)] := hl
  have L32 : ∀ (n : Nat) (z32 : RO × LW × SE × Int32 × Int32), lp (M_X5_pictures_l32 N nw sh p1 p2 p3) n z32 = some out → ∀ (H : Heap) (locs : List Loc) (ls : Array Slot), gW g A s.heap [wRO g ad (adN 0) aK aD (adS 0) aT (adL 0) (adE 0) z32.1, wEV g adN nw, wSH g adS sh, wLW g adL z32.2.1, wSE g adE z32.2.2.1] H locs → lv_has ls 8 [(0, .ref (ad 0)), (1, .int p1), (2, .int p2), (3, .int p3), (5, .int z32.2.2.2.1), (6, .int z32.2.2.2.2)] → W p l e R_X5_pictures s m args below meth c H locs 0 0 Q (F0 m 32 ls []) := by
    refine lp_ind ?_
    intro rec32 ih32
    intro z32 h H locs ls hw hl
    unfold M_X5_pictures_l32 at h
    refine lv_iload hx hb dX5_pictures_32 (lv_at hl 5 rfl) ?_
    refine lv_iload_n hx hb dX5_pictures_34 rfl (lv_at hl 2 rfl) ?_
    refine lv_icmp_ge (tgt := 69) hx hb dX5_pictures_35 (by decide) (fun k35 => ?_) (fun k35 => ?_)
    · have h := itt k35 h
      refine lv_iload hx hb dX5_pictures_69 (lv_at hl 4 rfl) ?_
      have h := Option.some.inj h
      subst h
      exact hret () dX5_pictures_71 rfl hw
    · have h := itf k35 h
      refine lv_aload_n hx hb dX5_pictures_38 rfl (lv_at hl 0 rfl) ?_
      refine lv_iload_n hx hb dX5_pictures_39 rfl (lv_at hl 1 rfl) ?_
      refine lv_iload hx hb dX5_pictures_40 (lv_at hl 5 rfl) ?_
      refine lv_iload_n hx hb dX5_pictures_42 rfl (lv_at hl 3 rfl) ?_
      obtain ⟨r43, h43, h⟩ := bnd h
      refine g_calli0 (isC := [0, 1, 2, 4]) (gn := fun _ => [wRO g ad (adN 0) aK aD (adS 0) aT (adL 0) (adE 0) z32.1, wEV g adN nw, wSH g adS sh, wLW g adL z32.2.1, wSE g adE r43.2]) (g_runV (isC := [0, 1, 2, 4]) (rest := []) (As := [.int p1, .int z32.2.2.2.2, .int p3]) X hw (c_X5_stepsToPicture l (ad := ad) (adN := adN) (adS := adS) (adE := adE) (aK := aK) (aD := aD) (aT := aT) (aL := (adL 0)) h43) rfl kM_X5_stepsToPicture ki_X5_stepsToPicture ks_X5_stepsToPicture km_X5_297 ⟨(Nat.le_of_ble_eq_true rfl), (Nat.le_of_ble_eq_true rfl)⟩ ⟨(Nat.le_of_ble_eq_true rfl), (Nat.le_of_ble_eq_true rfl)⟩ rfl rfl ⟨_, _, _, _, rfl, rfl, rfl, rfl⟩ rfl hl.1 rfl (Nat.le_of_ble_eq_true rfl) dX5_pictures_43) hw rfl rfl (fun _ => (Nat.le_of_ble_eq_true rfl)) (fun _ => rfl) rfl rfl (fun _ H locs hw => ?_)
      refine lv_istore (lv' := [(7, .int r43.1), (0, .ref (ad 0)), (1, .int p1), (2, .int p2), (3, .int p3), (5, .int z32.2.2.2.1), (6, .int z32.2.2.2.2)]) hx hb dX5_pictures_46 hl (by decide) rfl (fun ls hl => ?_)
      refine lv_iload hx hb dX5_pictures_48 (lv_at hl 0 rfl) ?_
      refine lv_iconst (v := -1) hx hb dX5_pictures_50 (by decide) ?_
      refine lv_icmp_ne (tgt := 56) hx hb dX5_pictures_51 (by decide) (fun k51 => ?_) (fun k51 => ?_)
      · have h := itt k51 h
        refine lv_iload hx hb dX5_pictures_56 (lv_at hl 5 rfl) ?_
        refine lv_iload hx hb dX5_pictures_58 (lv_at hl 0 rfl) ?_
        refine lv_iadd hx hb dX5_pictures_60 ?_
        refine lv_istore (lv' := [(5, .int (z32.2.2.2.1 + r43.1)), (7, .int r43.1), (0, .ref (ad 0)), (1, .int p1), (2, .int p2), (3, .int p3), (6, .int z32.2.2.2.2)]) hx hb dX5_pictures_61 hl (by decide) rfl (fun ls hl => ?_)
        refine lv_iinc (v := (z32.2.2.2.2 + 1)) (lv' := [(6, .int (z32.2.2.2.2 + 1)), (5, .int (z32.2.2.2.1 + r43.1)), (7, .int r43.1), (0, .ref (ad 0)), (1, .int p1), (2, .int p2), (3, .int p3)]) hx hb dX5_pictures_63 hl (k := 6) rfl rfl (by decide) rfl (fun ls hl => ?_)
        refine lv_goto (tgt := 32) hx hb dX5_pictures_66 (by decide) ?_
        exact ih32 _ h _ _ _ hw (lv_sub hl [3, 4, 5, 6, 1, 0] rfl)
      · have h := itf (fun z => z k51) h
        refine lv_iconst (v := -1) hx hb dX5_pictures_54 (by decide) ?_
        have h := Option.some.inj h
        subst h
        exact hret () dX5_pictures_55 rfl hw
  unfold M_X5_pictures at h
  refine lv_aload_n hx hb dX5_pictures_0 rfl (lv_at hl 0 rfl) ?_
  refine lv_iload_n hx hb dX5_pictures_1 rfl (lv_at hl 1 rfl) ?_
  refine lv_iload_n hx hb dX5_pictures_2 rfl (lv_at hl 2 rfl) ?_
  refine lv_iload_n hx hb dX5_pictures_3 rfl (lv_at hl 3 rfl) ?_
  obtain ⟨r4, h4, h⟩ := bnd h
  refine g_calli0 (isC := [0, 1, 2]) (gn := fun _ => [wRO g ad (adN 0) aK aD (adS 0) aT (adL 0) (adE 0) ro, wEV g adN nw, wSH g adS sh, wLW g adL lw, wSE g adE se]) (g_runV (isC := [0, 1, 2]) (rest := []) (As := [.int p1, .int p2, .int p3]) X hw (c_X5_whyNoPictures l (ad := ad) (adN := adN) (adS := adS) (aK := aK) (aD := aD) (aT := aT) (aL := (adL 0)) (aE := (adE 0)) h4) rfl kM_X5_whyNoPictures ki_X5_whyNoPictures ks_X5_whyNoPictures km_X5_294 ⟨(Nat.le_of_ble_eq_true rfl), (Nat.le_of_ble_eq_true rfl)⟩ ⟨(Nat.le_of_ble_eq_true rfl), (Nat.le_of_ble_eq_true rfl)⟩ rfl rfl ⟨_, _, _, _, rfl, rfl, rfl, rfl⟩ rfl hl.1 rfl (Nat.le_of_ble_eq_true rfl) dX5_pictures_4) hw rfl rfl (fun _ => (Nat.le_of_ble_eq_true rfl)) (fun _ => rfl) rfl rfl (fun _ H locs hw => ?_)
  refine lv_istore (lv' := [(4, .int r4), (0, .ref (ad 0)), (1, .int p1), (2, .int p2), (3, .int p3)]) hx hb dX5_pictures_7 hl (by decide) rfl (fun ls hl => ?_)
  refine lv_iload hx hb dX5_pictures_9 (lv_at hl 0 rfl) ?_
  refine lv_if_eq (tgt := 21) hx hb dX5_pictures_11 (by decide) (fun k11 => ?_) (fun k11 => ?_)
  · have h := itt k11 h
    refine lv_aload_n hx hb dX5_pictures_21 rfl (lv_at hl 1 rfl) ?_
    refine lv_iload_n hx hb dX5_pictures_22 rfl (lv_at hl 4 rfl) ?_
    obtain ⟨r23, h23, h⟩ := bnd h
    refine g_callv0 (isC := [0, 1, 3, 4]) (gn := fun _ => [wRO g ad (adN 0) aK aD (adS 0) aT (adL 0) (adE 0) ro, wEV g adN nw, wSH g adS sh, wLW g adL r23.1, wSE g adE r23.2]) (g_runV (isC := [0, 1, 3, 4]) (rest := []) (As := [.int p3]) X hw (c_X5_study l (ad := ad) (adN := adN) (adL := adL) (adE := adE) (aK := aK) (aD := aD) (aS := (adS 0)) (aT := aT) h23) rfl kM_X5_study ki_X5_study ks_X5_study km_X5_253 ⟨(Nat.le_of_ble_eq_true rfl), (Nat.le_of_ble_eq_true rfl)⟩ ⟨(Nat.le_of_ble_eq_true rfl), (Nat.le_of_ble_eq_true rfl)⟩ rfl rfl ⟨_, _, _, _, rfl, rfl, rfl, rfl⟩ rfl hl.1 rfl (Nat.le_of_ble_eq_true rfl) dX5_pictures_23) hw rfl rfl (fun _ => (Nat.le_of_ble_eq_true rfl)) (fun _ => rfl) rfl rfl (fun _ H locs hw => ?_)
    refine lv_iconst (v := 0) hx hb dX5_pictures_26 (by decide) ?_
    refine lv_istore (lv' := [(5, .int (0 : Int32)), (4, .int r4), (0, .ref (ad 0)), (1, .int p1), (2, .int p2), (3, .int p3)]) hx hb dX5_pictures_27 hl (by decide) rfl (fun ls hl => ?_)
    refine lv_iconst (v := 0) hx hb dX5_pictures_29 (by decide) ?_
    refine lv_istore (lv' := [(6, .int (0 : Int32)), (5, .int (0 : Int32)), (4, .int r4), (0, .ref (ad 0)), (1, .int p1), (2, .int p2), (3, .int p3)]) hx hb dX5_pictures_30 hl (by decide) rfl (fun ls hl => ?_)
    exact L32 N _ h _ _ _ hw (lv_sub hl [3, 4, 5, 6, 1, 0] rfl)
  · have h := itf k11 h
    refine lv_aload_n hx hb dX5_pictures_14 rfl (lv_at hl 1 rfl) ?_
    refine lv_iload hx hb dX5_pictures_15 (lv_at hl 0 rfl) ?_
    obtain ⟨r17, h17, h⟩ := bnd h
    refine g_calli0 (isC := [0]) (gn := fun _ => [wRO g ad (adN 0) aK aD (adS 0) aT (adL 0) (adE 0) r17.2, wEV g adN nw, wSH g adS sh, wLW g adL lw, wSE g adE se]) (g_runV (isC := [0]) (rest := []) (As := [.int r4]) X hw (c_X5_refuse l (ad := ad) (aN := (adN 0)) (aK := aK) (aD := aD) (aS := (adS 0)) (aT := aT) (aL := (adL 0)) (aE := (adE 0)) h17) rfl kM_X5_refuse ki_X5_refuse ks_X5_refuse km_X5_62 ⟨(Nat.le_of_ble_eq_true rfl), (Nat.le_of_ble_eq_true rfl)⟩ ⟨(Nat.le_of_ble_eq_true rfl), (Nat.le_of_ble_eq_true rfl)⟩ rfl rfl ⟨_, _, _, _, rfl, rfl, rfl, rfl⟩ rfl hl.1 rfl (Nat.le_of_ble_eq_true rfl) dX5_pictures_17) hw rfl rfl (fun _ => (Nat.le_of_ble_eq_true rfl)) (fun _ => rfl) rfl rfl (fun _ H locs hw => ?_)
    have h := Option.some.inj h
    subst h
    exact hret () dX5_pictures_20 rfl hw
theorem kM_X5_broken : kM yX5_broken cX5_broken 5 (some FieldType.int) 3 := ⟨kc_X5_broken, kn_RingsOff, by decide +kernel⟩
abbrev R_X5_broken : Room := { frames := 8, cells := 0, slots := 0, locals := 172 }
set_option maxHeartbeats 4000000 in
set_option maxRecDepth 100000 in
theorem c_X5_broken (l : Launch) {ad : Nat → Nat} {adN : Nat → Nat} {adS : Nat → Nat} {adL : Nat → Nat} {adE : Nat → Nat} {aK : Nat} {aD : Nat} {aT : Nat} {N : Nat} {ro : RO} {nw : EV} {sh : SH} {lw : LW} {se : SE} {p1 : Int32} {p2 : Int32} {p3 : Int32} {out : Int32 × RO × LW × SE} (h : M_X5_broken N ro nw sh lw se p1 p2 p3 = some out) : gM l yX5_broken cX5_broken 5 (some FieldType.int) R_X5_broken (fun _ => [.ref (ad 0), .int p1, .int p2, .int p3]) (fun g => [wRO g ad (adN 0) aK aD (adS 0) aT (adL 0) (adE 0) ro, wEV g adN nw, wSH g adS sh, wLW g adL lw, wSE g adE se]) (gQi (fun (_ : Unit) => out.1) (fun g (_ : Unit) => [wRO g ad (adN 0) aK aD (adS 0) aT (adL 0) (adE 0) out.2.1, wEV g adN nw, wSH g adS sh, wLW g adL out.2.2.1, wSE g adE out.2.2.2])) := by
  refine gM.ofi (by decide +kernel) (fun _ => Nat.le_of_ble_eq_true rfl) (fun g p e s m args below meth c A ls Q X hret hw hl => ?_)
  have hx := X.1.1
  have hb := X.1.2.1
  have hl : lv_has ls 5 [(0, .ref (ad 0)), (1, .int p1), (2, .int p2), (3, .int p3)] := hl
  unfold M_X5_broken at h
  refine lv_aload_n hx hb dX5_broken_0 rfl (lv_at hl 0 rfl) ?_
  refine lv_iload_n hx hb dX5_broken_1 rfl (lv_at hl 1 rfl) ?_
  refine lv_iload_n hx hb dX5_broken_2 rfl (lv_at hl 2 rfl) ?_
  refine lv_iload_n hx hb dX5_broken_3 rfl (lv_at hl 3 rfl) ?_
  obtain ⟨r4, h4, h⟩ := bnd h
  refine g_calli0 (isC := [0, 1, 2]) (gn := fun _ => [wRO g ad (adN 0) aK aD (adS 0) aT (adL 0) (adE 0) ro, wEV g adN nw, wSH g adS sh, wLW g adL lw, wSE g adE se]) (g_runV (isC := [0, 1, 2]) (rest := []) (As := [.int p1, .int p2, .int p3]) X hw (c_X5_whyNoPictures l (ad := ad) (adN := adN) (adS := adS) (aK := aK) (aD := aD) (aT := aT) (aL := (adL 0)) (aE := (adE 0)) h4) rfl kM_X5_whyNoPictures ki_X5_whyNoPictures ks_X5_whyNoPictures km_X5_294 ⟨(Nat.le_of_ble_eq_true rfl), (Nat.le_of_ble_eq_true rfl)⟩ ⟨(Nat.le_of_ble_eq_true rfl), (Nat.le_of_ble_eq_true rfl)⟩ rfl rfl ⟨_, _, _, _, rfl, rfl, rfl, rfl⟩ rfl hl.1 rfl (Nat.le_of_ble_eq_true rfl) dX5_broken_4) hw rfl rfl (fun _ => (Nat.le_of_ble_eq_true rfl)) (fun _ => rfl) rfl rfl (fun _ H locs hw => ?_)
  refine lv_istore (lv' := [(4, .int r4), (0, .ref (ad 0)), (1, .int p1), (2, .int p2), (3, .int p3)]) hx hb dX5_broken_7 hl (by decide) rfl (fun ls hl => ?_)
  refine lv_iload hx hb dX5_broken_9 (lv_at hl 0 rfl) ?_
  refine lv_if_eq (tgt := 23) hx hb dX5_broken_11 (by decide) (fun k11 => ?_) (fun k11 => ?_)
  · have h := itt k11 h
    refine lv_aload_n hx hb dX5_broken_23 rfl (lv_at hl 1 rfl) ?_
    refine lv_iload_n hx hb dX5_broken_24 rfl (lv_at hl 2 rfl) ?_
    refine lv_iload_n hx hb dX5_broken_25 rfl (lv_at hl 3 rfl) ?_
    refine lv_iload_n hx hb dX5_broken_26 rfl (lv_at hl 4 rfl) ?_
    obtain ⟨r27, h27, h⟩ := bnd h
    refine g_calli0 (isC := [0, 1, 2, 3, 4]) (gn := fun _ => [wRO g ad (adN 0) aK aD (adS 0) aT (adL 0) (adE 0) ro, wEV g adN nw, wSH g adS sh, wLW g adL r27.2.1, wSE g adE r27.2.2]) (g_runV (isC := [0, 1, 2, 3, 4]) (rest := []) (As := [.int p1, .int p2, .int p3]) X hw (c_X5_brokenPicture l (ad := ad) (adN := adN) (adS := adS) (adL := adL) (adE := adE) (aK := aK) (aD := aD) (aT := aT) h27) rfl kM_X5_brokenPicture ki_X5_brokenPicture ks_X5_brokenPicture km_X5_300 ⟨(Nat.le_of_ble_eq_true rfl), (Nat.le_of_ble_eq_true rfl)⟩ ⟨(Nat.le_of_ble_eq_true rfl), (Nat.le_of_ble_eq_true rfl)⟩ rfl rfl ⟨_, _, _, _, rfl, rfl, rfl, rfl⟩ rfl hl.1 rfl (Nat.le_of_ble_eq_true rfl) dX5_broken_27) hw rfl rfl (fun _ => (Nat.le_of_ble_eq_true rfl)) (fun _ => rfl) rfl rfl (fun _ H locs hw => ?_)
    have h := Option.some.inj h
    subst h
    exact hret () dX5_broken_30 rfl hw
  · have h := itf k11 h
    refine lv_aload_n hx hb dX5_broken_14 rfl (lv_at hl 1 rfl) ?_
    refine lv_iload hx hb dX5_broken_15 (lv_at hl 0 rfl) ?_
    obtain ⟨r17, h17, h⟩ := bnd h
    refine g_calli0 (isC := [0]) (gn := fun _ => [wRO g ad (adN 0) aK aD (adS 0) aT (adL 0) (adE 0) r17.2, wEV g adN nw, wSH g adS sh, wLW g adL lw, wSE g adE se]) (g_runV (isC := [0]) (rest := []) (As := [.int r4]) X hw (c_X5_refuse l (ad := ad) (aN := (adN 0)) (aK := aK) (aD := aD) (aS := (adS 0)) (aT := aT) (aL := (adL 0)) (aE := (adE 0)) h17) rfl kM_X5_refuse ki_X5_refuse ks_X5_refuse km_X5_62 ⟨(Nat.le_of_ble_eq_true rfl), (Nat.le_of_ble_eq_true rfl)⟩ ⟨(Nat.le_of_ble_eq_true rfl), (Nat.le_of_ble_eq_true rfl)⟩ rfl rfl ⟨_, _, _, _, rfl, rfl, rfl, rfl⟩ rfl hl.1 rfl (Nat.le_of_ble_eq_true rfl) dX5_broken_17) hw rfl rfl (fun _ => (Nat.le_of_ble_eq_true rfl)) (fun _ => rfl) rfl rfl (fun _ H locs hw => ?_)
    refine lv_goto (tgt := 30) hx hb dX5_broken_20 (by decide) ?_
    have h := Option.some.inj h
    subst h
    exact hret () dX5_broken_30 rfl hw
theorem kM_X5_once : kM yX5_once cX5_once 8 (some FieldType.int) 3 := ⟨kc_X5_once, kn_RingsOff, by decide +kernel⟩
abbrev R_X5_once : Room := { frames := 8, cells := 0, slots := 0, locals := 172 }
set_option maxHeartbeats 4000000 in
set_option maxRecDepth 100000 in
theorem c_X5_once (l : Launch) {ad : Nat → Nat} {adN : Nat → Nat} {adS : Nat → Nat} {adL : Nat → Nat} {adE : Nat → Nat} {aK : Nat} {aD : Nat} {aT : Nat} {N : Nat} {ro : RO} {nw : EV} {sh : SH} {lw : LW} {se : SE} {p1 : Int32} {p2 : Int32} {p3 : Int32} {out : Int32 × RO × LW × SE} (h : M_X5_once N ro nw sh lw se p1 p2 p3 = some out) : gM l yX5_once cX5_once 8 (some FieldType.int) R_X5_once (fun _ => [.ref (ad 0), .int p1, .int p2, .int p3]) (fun g => [wRO g ad (adN 0) aK aD (adS 0) aT (adL 0) (adE 0) ro, wEV g adN nw, wSH g adS sh, wLW g adL lw, wSE g adE se]) (gQi (fun (_ : Unit) => out.1) (fun g (_ : Unit) => [wRO g ad (adN 0) aK aD (adS 0) aT (adL 0) (adE 0) out.2.1, wEV g adN nw, wSH g adS sh, wLW g adL out.2.2.1, wSE g adE out.2.2.2])) := by
  refine gM.ofi (by decide +kernel) (fun _ => Nat.le_of_ble_eq_true rfl) (fun g p e s m args below meth c A ls Q X hret hw hl => ?_)
  have hx := X.1.1
  have hb := X.1.2.1
  have hl : lv_has ls 8 [(0, .ref (ad 0)), (1, .int p1), (2, .int p2), (3, .int p3)] := hl
  have L75 : ∀ (n : Nat) (z75 : RO × LW × SE × Int32 × Int32), lp (M_X5_once_l75 N nw sh p1 p2 p3) n z75 = some out → ∀ (H : Heap) (locs : List Loc) (ls : Array Slot), gW g A s.heap [wRO g ad (adN 0) aK aD (adS 0) aT (adL 0) (adE 0) z75.1, wEV g adN nw, wSH g adS sh, wLW g adL z75.2.1, wSE g adE z75.2.2.1] H locs → lv_has ls 8 [(0, .ref (ad 0)), (3, .int p3), (6, .int z75.2.2.2.1), (7, .int z75.2.2.2.2)] → W p l e R_X5_once s m args below meth c H locs 0 0 Q (F0 m 75 ls []) := by
    refine lp_ind ?_
    intro rec75 ih75
    intro z75 h H locs ls hw hl
    unfold M_X5_once_l75 at h
    refine lv_iload hx hb dX5_once_75 (lv_at hl 3 rfl) ?_
    refine lv_aload_n hx hb dX5_once_77 rfl (lv_at hl 0 rfl) ?_
    refine RO_g_now X hw 0 rfl kf_X5_12 dX5_once_78 ?_
    refine lv_iload_n hx hb dX5_once_81 rfl (lv_at hl 1 rfl) ?_
    obtain ⟨r82, h82, h⟩ := bnd h
    refine g_calli0 (isC := [1]) (gn := fun _ => [wRO g ad (adN 0) aK aD (adS 0) aT (adL 0) (adE 0) z75.1, wEV g adN nw, wSH g adS sh, wLW g adL z75.2.1, wSE g adE z75.2.2.1]) (g_runVN (isC := [1]) (rest := [.int z75.2.2.2.2]) (As := [.int p3]) X hw (c_X0_sizeOf l (ad := adN) h82) rfl kM_X0_sizeOf ki_X0_sizeOf ks_X0_sizeOf km_X5_129 ⟨(Nat.le_of_ble_eq_true rfl), (Nat.le_of_ble_eq_true rfl)⟩ ⟨(Nat.le_of_ble_eq_true rfl), (Nat.le_of_ble_eq_true rfl)⟩ rfl rfl ⟨_, _, _, _, rfl, rfl, rfl, rfl⟩ rfl hl.1 rfl (Nat.le_of_ble_eq_true rfl) dX5_once_82) hw rfl rfl (fun _ => (Nat.le_of_ble_eq_true rfl)) (fun _ => rfl) rfl rfl (fun _ H locs hw => ?_)
    refine lv_icmp_ge (tgt := 115) hx hb dX5_once_85 (by decide) (fun k85 => ?_) (fun k85 => ?_)
    · have h := itt k85 h
      refine lv_iconst (v := -1) hx hb dX5_once_115 (by decide) ?_
      have h := Option.some.inj h
      subst h
      exact hret () dX5_once_116 rfl hw
    · have h := itf k85 h
      refine lv_aload_n hx hb dX5_once_88 rfl (lv_at hl 0 rfl) ?_
      refine RO_g_search X hw 0 rfl kf_X5_46 dX5_once_89 ?_
      refine lv_iload hx hb dX5_once_92 (lv_at hl 2 rfl) ?_
      refine lv_iconst (v := 1) hx hb dX5_once_94 (by decide) ?_
      refine lv_iload hx hb dX5_once_95 (lv_at hl 3 rfl) ?_
      refine lv_ishl hx hb dX5_once_97 ?_
      refine lv_ixor hx hb dX5_once_98 ?_
      obtain ⟨r99, h99, h⟩ := bnd h
      refine g_calli0 (isC := [4]) (gn := fun _ => [wRO g ad (adN 0) aK aD (adS 0) aT (adL 0) (adE 0) z75.1, wEV g adN nw, wSH g adS sh, wLW g adL z75.2.1, wSE g adE z75.2.2.1]) (g_runVN (isC := [4]) (rest := []) (As := [.int (z75.2.2.2.1 ^^^ ((1 : Int32) <<< (z75.2.2.2.2 &&& 31)))]) X hw (c_X2_farOf l (ad := adE) h99) rfl kM_X2_farOf ki_X2_farOf ks_X2_farOf km_X5_247 ⟨(Nat.le_of_ble_eq_true rfl), (Nat.le_of_ble_eq_true rfl)⟩ ⟨(Nat.le_of_ble_eq_true rfl), (Nat.le_of_ble_eq_true rfl)⟩ rfl rfl ⟨_, _, _, _, rfl, rfl, rfl, rfl⟩ rfl hl.1 rfl (Nat.le_of_ble_eq_true rfl) dX5_once_99) hw rfl rfl (fun _ => (Nat.le_of_ble_eq_true rfl)) (fun _ => rfl) rfl rfl (fun _ H locs hw => ?_)
      refine lv_iconst (v := -1) hx hb dX5_once_102 (by decide) ?_
      refine lv_icmp_eq (tgt := 109) hx hb dX5_once_103 (by decide) (fun k103 => ?_) (fun k103 => ?_)
      · have h := itt k103 h
        refine lv_iinc (v := (z75.2.2.2.2 + 1)) (lv' := [(7, .int (z75.2.2.2.2 + 1)), (0, .ref (ad 0)), (3, .int p3), (6, .int z75.2.2.2.1)]) hx hb dX5_once_109 hl (k := 3) rfl rfl (by decide) rfl (fun ls hl => ?_)
        refine lv_goto (tgt := 75) hx hb dX5_once_112 (by decide) ?_
        exact ih75 _ h _ _ _ hw (lv_sub hl [1, 2, 3, 0] rfl)
      · have h := itf k103 h
        refine lv_iload hx hb dX5_once_106 (lv_at hl 3 rfl) ?_
        have h := Option.some.inj h
        subst h
        exact hret () dX5_once_108 rfl hw
  unfold M_X5_once at h
  refine lv_aload_n hx hb dX5_once_0 rfl (lv_at hl 0 rfl) ?_
  refine lv_iload_n hx hb dX5_once_1 rfl (lv_at hl 1 rfl) ?_
  refine lv_iload_n hx hb dX5_once_2 rfl (lv_at hl 2 rfl) ?_
  refine lv_iload_n hx hb dX5_once_3 rfl (lv_at hl 3 rfl) ?_
  obtain ⟨r4, h4, h⟩ := bnd h
  refine g_calli0 (isC := [0, 1, 2]) (gn := fun _ => [wRO g ad (adN 0) aK aD (adS 0) aT (adL 0) (adE 0) ro, wEV g adN nw, wSH g adS sh, wLW g adL lw, wSE g adE se]) (g_runV (isC := [0, 1, 2]) (rest := []) (As := [.int p1, .int p2, .int p3]) X hw (c_X5_whyNoPictures l (ad := ad) (adN := adN) (adS := adS) (aK := aK) (aD := aD) (aT := aT) (aL := (adL 0)) (aE := (adE 0)) h4) rfl kM_X5_whyNoPictures ki_X5_whyNoPictures ks_X5_whyNoPictures km_X5_294 ⟨(Nat.le_of_ble_eq_true rfl), (Nat.le_of_ble_eq_true rfl)⟩ ⟨(Nat.le_of_ble_eq_true rfl), (Nat.le_of_ble_eq_true rfl)⟩ rfl rfl ⟨_, _, _, _, rfl, rfl, rfl, rfl⟩ rfl hl.1 rfl (Nat.le_of_ble_eq_true rfl) dX5_once_4) hw rfl rfl (fun _ => (Nat.le_of_ble_eq_true rfl)) (fun _ => rfl) rfl rfl (fun _ H locs hw => ?_)
  refine lv_istore (lv' := [(4, .int r4), (0, .ref (ad 0)), (1, .int p1), (2, .int p2), (3, .int p3)]) hx hb dX5_once_7 hl (by decide) rfl (fun ls hl => ?_)
  refine lv_iload hx hb dX5_once_9 (lv_at hl 0 rfl) ?_
  refine lv_if_eq (tgt := 21) hx hb dX5_once_11 (by decide) (fun k11 => ?_) (fun k11 => ?_)
  · have h := itt k11 h
    refine lv_aload_n hx hb dX5_once_21 rfl (lv_at hl 1 rfl) ?_
    refine lv_iload_n hx hb dX5_once_22 rfl (lv_at hl 2 rfl) ?_
    refine lv_iload_n hx hb dX5_once_23 rfl (lv_at hl 3 rfl) ?_
    refine lv_iload_n hx hb dX5_once_24 rfl (lv_at hl 4 rfl) ?_
    obtain ⟨r25, h25, h⟩ := bnd h
    refine g_calli0 (isC := [0, 1, 2, 3, 4]) (gn := fun _ => [wRO g ad (adN 0) aK aD (adS 0) aT (adL 0) (adE 0) ro, wEV g adN nw, wSH g adS sh, wLW g adL r25.2.1, wSE g adE r25.2.2]) (g_runV (isC := [0, 1, 2, 3, 4]) (rest := []) (As := [.int p1, .int p2, .int p3]) X hw (c_X5_brokenPicture l (ad := ad) (adN := adN) (adS := adS) (adL := adL) (adE := adE) (aK := aK) (aD := aD) (aT := aT) h25) rfl kM_X5_brokenPicture ki_X5_brokenPicture ks_X5_brokenPicture km_X5_300 ⟨(Nat.le_of_ble_eq_true rfl), (Nat.le_of_ble_eq_true rfl)⟩ ⟨(Nat.le_of_ble_eq_true rfl), (Nat.le_of_ble_eq_true rfl)⟩ rfl rfl ⟨_, _, _, _, rfl, rfl, rfl, rfl⟩ rfl hl.1 rfl (Nat.le_of_ble_eq_true rfl) dX5_once_25) hw rfl rfl (fun _ => (Nat.le_of_ble_eq_true rfl)) (fun _ => rfl) rfl rfl (fun _ H locs hw => ?_)
    refine lv_istore (lv' := [(5, .int r25.1), (4, .int r4), (0, .ref (ad 0)), (1, .int p1), (2, .int p2), (3, .int p3)]) hx hb dX5_once_28 hl (by decide) rfl (fun ls hl => ?_)
    refine lv_iload hx hb dX5_once_30 (lv_at hl 0 rfl) ?_
    refine lv_iconst (v := -1) hx hb dX5_once_32 (by decide) ?_
    refine lv_icmp_ne (tgt := 43) hx hb dX5_once_33 (by decide) (fun k33 => ?_) (fun k33 => ?_)
    · have h := itt k33 h
      refine lv_aload_n hx hb dX5_once_43 rfl (lv_at hl 2 rfl) ?_
      refine lv_iload_n hx hb dX5_once_44 rfl (lv_at hl 3 rfl) ?_
      refine lv_iload hx hb dX5_once_45 (lv_at hl 0 rfl) ?_
      refine lv_iload_n hx hb dX5_once_47 rfl (lv_at hl 5 rfl) ?_
      obtain ⟨r48, h48, h⟩ := bnd h
      refine g_calli0 (isC := [0, 1, 2]) (gn := fun _ => [wRO g ad (adN 0) aK aD (adS 0) aT (adL 0) (adE 0) ro, wEV g adN nw, wSH g adS sh, wLW g adL r25.2.1, wSE g adE r25.2.2]) (g_runV (isC := [0, 1, 2]) (rest := []) (As := [.int p1, .int r25.1, .int p3]) X hw (c_X5_pictureAhead l (ad := ad) (adN := adN) (adS := adS) (aK := aK) (aD := aD) (aT := aT) (aL := (adL 0)) (aE := (adE 0)) h48) rfl kM_X5_pictureAhead ki_X5_pictureAhead ks_X5_pictureAhead km_X5_303 ⟨(Nat.le_of_ble_eq_true rfl), (Nat.le_of_ble_eq_true rfl)⟩ ⟨(Nat.le_of_ble_eq_true rfl), (Nat.le_of_ble_eq_true rfl)⟩ rfl rfl ⟨_, _, _, _, rfl, rfl, rfl, rfl⟩ rfl hl.1 rfl (Nat.le_of_ble_eq_true rfl) dX5_once_48) hw rfl rfl (fun _ => (Nat.le_of_ble_eq_true rfl)) (fun _ => rfl) rfl rfl (fun _ H locs hw => ?_)
      refine lv_istore (lv' := [(6, .int r48), (5, .int r25.1), (4, .int r4), (0, .ref (ad 0)), (1, .int p1), (2, .int p2), (3, .int p3)]) hx hb dX5_once_51 hl (by decide) rfl (fun ls hl => ?_)
      refine lv_aload_n hx hb dX5_once_53 rfl (lv_at hl 3 rfl) ?_
      refine RO_g_search X hw 0 rfl kf_X5_46 dX5_once_54 ?_
      refine lv_aload_n hx hb dX5_once_57 rfl (lv_at hl 3 rfl) ?_
      refine RO_g_shelves X hw 0 rfl kf_X5_25 dX5_once_58 ?_
      refine lv_iload_n hx hb dX5_once_61 rfl (lv_at hl 4 rfl) ?_
      refine lv_iload hx hb dX5_once_62 (lv_at hl 1 rfl) ?_
      obtain ⟨r64, h64, h⟩ := bnd h
      refine g_calll0 (isC := [2]) (gn := fun _ => [wRO g ad (adN 0) aK aD (adS 0) aT (adL 0) (adE 0) ro, wEV g adN nw, wSH g adS sh, wLW g adL r25.2.1, wSE g adE r25.2.2]) (g_runVN (isC := [2]) (rest := [.ref (adE 0)]) (As := [.int p1, .int r25.1]) X hw (c_X3_cell l (ad := adS) h64) rfl kM_X3_cell ki_X3_cell ks_X3_cell km_X5_92 ⟨(Nat.le_of_ble_eq_true rfl), (Nat.le_of_ble_eq_true rfl)⟩ ⟨(Nat.le_of_ble_eq_true rfl), (Nat.le_of_ble_eq_true rfl)⟩ rfl rfl ⟨_, _, _, _, rfl, rfl, rfl, rfl⟩ rfl hl.1 rfl (Nat.le_of_ble_eq_true rfl) dX5_once_64) hw rfl rfl (fun _ => (Nat.le_of_ble_eq_true rfl)) (fun _ => rfl) rfl rfl (fun _ H locs hw => ?_)
      refine lv_l2i (v := r64.toInt32) hx hb dX5_once_67 rfl ?_
      refine lv_iconst (v := 2) hx hb dX5_once_68 (by decide) ?_
      obtain ⟨r69, h69, h⟩ := bnd h
      refine g_callv0 (isC := [4]) (gn := fun _ => [wRO g ad (adN 0) aK aD (adS 0) aT (adL 0) (adE 0) ro, wEV g adN nw, wSH g adS sh, wLW g adL r25.2.1, wSE g adE r69]) (g_runVN (isC := [4]) (rest := []) (As := [.int r64.toInt32, .int (2 : Int32)]) X hw (c_X2_spreadAnew l (ad := adE) h69) rfl kM_X2_spreadAnew ki_X2_spreadAnew ks_X2_spreadAnew km_X5_306 ⟨(Nat.le_of_ble_eq_true rfl), (Nat.le_of_ble_eq_true rfl)⟩ ⟨(Nat.le_of_ble_eq_true rfl), (Nat.le_of_ble_eq_true rfl)⟩ rfl rfl ⟨_, _, _, _, rfl, rfl, rfl, rfl⟩ rfl hl.1 rfl (Nat.le_of_ble_eq_true rfl) dX5_once_69) hw rfl rfl (fun _ => (Nat.le_of_ble_eq_true rfl)) (fun _ => rfl) rfl rfl (fun _ H locs hw => ?_)
      refine lv_iconst (v := 0) hx hb dX5_once_72 (by decide) ?_
      refine lv_istore (lv' := [(7, .int (0 : Int32)), (6, .int r48), (5, .int r25.1), (4, .int r4), (0, .ref (ad 0)), (1, .int p1), (2, .int p2), (3, .int p3)]) hx hb dX5_once_73 hl (by decide) rfl (fun ls hl => ?_)
      exact L75 N _ h _ _ _ hw (lv_sub hl [4, 7, 1, 0] rfl)
    · have h := itf (fun z => z k33) h
      refine lv_aload_n hx hb dX5_once_36 rfl (lv_at hl 2 rfl) ?_
      refine lv_bipush (v := -5) hx hb dX5_once_37 (by decide) ?_
      obtain ⟨r39, h39, h⟩ := bnd h
      refine g_calli0 (isC := [0]) (gn := fun _ => [wRO g ad (adN 0) aK aD (adS 0) aT (adL 0) (adE 0) r39.2, wEV g adN nw, wSH g adS sh, wLW g adL r25.2.1, wSE g adE r25.2.2]) (g_runV (isC := [0]) (rest := []) (As := [.int (-5 : Int32)]) X hw (c_X5_refuse l (ad := ad) (aN := (adN 0)) (aK := aK) (aD := aD) (aS := (adS 0)) (aT := aT) (aL := (adL 0)) (aE := (adE 0)) h39) rfl kM_X5_refuse ki_X5_refuse ks_X5_refuse km_X5_62 ⟨(Nat.le_of_ble_eq_true rfl), (Nat.le_of_ble_eq_true rfl)⟩ ⟨(Nat.le_of_ble_eq_true rfl), (Nat.le_of_ble_eq_true rfl)⟩ rfl rfl ⟨_, _, _, _, rfl, rfl, rfl, rfl⟩ rfl hl.1 rfl (Nat.le_of_ble_eq_true rfl) dX5_once_39) hw rfl rfl (fun _ => (Nat.le_of_ble_eq_true rfl)) (fun _ => rfl) rfl rfl (fun _ H locs hw => ?_)
      have h := Option.some.inj h
      subst h
      exact hret () dX5_once_42 rfl hw
  · have h := itf k11 h
    refine lv_aload_n hx hb dX5_once_14 rfl (lv_at hl 1 rfl) ?_
    refine lv_iload hx hb dX5_once_15 (lv_at hl 0 rfl) ?_
    obtain ⟨r17, h17, h⟩ := bnd h
    refine g_calli0 (isC := [0]) (gn := fun _ => [wRO g ad (adN 0) aK aD (adS 0) aT (adL 0) (adE 0) r17.2, wEV g adN nw, wSH g adS sh, wLW g adL lw, wSE g adE se]) (g_runV (isC := [0]) (rest := []) (As := [.int r4]) X hw (c_X5_refuse l (ad := ad) (aN := (adN 0)) (aK := aK) (aD := aD) (aS := (adS 0)) (aT := aT) (aL := (adL 0)) (aE := (adE 0)) h17) rfl kM_X5_refuse ki_X5_refuse ks_X5_refuse km_X5_62 ⟨(Nat.le_of_ble_eq_true rfl), (Nat.le_of_ble_eq_true rfl)⟩ ⟨(Nat.le_of_ble_eq_true rfl), (Nat.le_of_ble_eq_true rfl)⟩ rfl rfl ⟨_, _, _, _, rfl, rfl, rfl, rfl⟩ rfl hl.1 rfl (Nat.le_of_ble_eq_true rfl) dX5_once_17) hw rfl rfl (fun _ => (Nat.le_of_ble_eq_true rfl)) (fun _ => rfl) rfl rfl (fun _ H locs hw => ?_)
    have h := Option.some.inj h
    subst h
    exact hret () dX5_once_20 rfl hw
theorem kM_X5_judge : kM yX5_judge cX5_judge 5 (some FieldType.int) 3 := ⟨kc_X5_judge, kn_RingsOff, by decide +kernel⟩
abbrev R_X5_judge : Room := { frames := 6, cells := 0, slots := 0, locals := 132 }
set_option maxHeartbeats 4000000 in
set_option maxRecDepth 100000 in
theorem c_X5_judge (l : Launch) {ad : Nat → Nat} {adN : Nat → Nat} {adS : Nat → Nat} {adL : Nat → Nat} {aK : Nat} {aD : Nat} {aT : Nat} {aE : Nat} {N : Nat} {ro : RO} {nw : EV} {sh : SH} {lw : LW} {p1 : Int32} {p2 : Int32} {p3 : Int32} {out : Int32 × RO × LW} (h : M_X5_judge N ro nw sh lw p1 p2 p3 = some out) : gM l yX5_judge cX5_judge 5 (some FieldType.int) R_X5_judge (fun _ => [.ref (ad 0), .int p1, .int p2, .int p3]) (fun g => [wRO g ad (adN 0) aK aD (adS 0) aT (adL 0) aE ro, wEV g adN nw, wSH g adS sh, wLW g adL lw]) (gQi (fun (_ : Unit) => out.1) (fun g (_ : Unit) => [wRO g ad (adN 0) aK aD (adS 0) aT (adL 0) aE out.2.1, wEV g adN nw, wSH g adS sh, wLW g adL out.2.2])) := by
  refine gM.ofi (by decide +kernel) (fun _ => Nat.le_of_ble_eq_true rfl) (fun g p e s m args below meth c A ls Q X hret hw hl => ?_)
  have hx := X.1.1
  have hb := X.1.2.1
  have hl : lv_has ls 5 [(0, .ref (ad 0)), (1, .int p1), (2, .int p2), (3, .int p3)] := hl
  unfold M_X5_judge at h
  refine lv_aload_n hx hb dX5_judge_0 rfl (lv_at hl 0 rfl) ?_
  refine lv_iload_n hx hb dX5_judge_1 rfl (lv_at hl 1 rfl) ?_
  refine lv_iload_n hx hb dX5_judge_2 rfl (lv_at hl 2 rfl) ?_
  refine lv_iload_n hx hb dX5_judge_3 rfl (lv_at hl 3 rfl) ?_
  obtain ⟨r4, h4, h⟩ := bnd h
  refine g_calli0 (isC := [0, 1, 2]) (gn := fun _ => [wRO g ad (adN 0) aK aD (adS 0) aT (adL 0) aE ro, wEV g adN nw, wSH g adS sh, wLW g adL lw]) (g_runV (isC := [0, 1, 2]) (rest := []) (As := [.int p1, .int p2, .int p3]) X hw (c_X5_whyNoMoves l (ad := ad) (adN := adN) (adS := adS) (aK := aK) (aD := aD) (aT := aT) (aL := (adL 0)) (aE := aE) h4) rfl kM_X5_whyNoMoves ki_X5_whyNoMoves ks_X5_whyNoMoves km_X5_309 ⟨(Nat.le_of_ble_eq_true rfl), (Nat.le_of_ble_eq_true rfl)⟩ ⟨(Nat.le_of_ble_eq_true rfl), (Nat.le_of_ble_eq_true rfl)⟩ rfl rfl ⟨_, _, _, _, rfl, rfl, rfl, rfl⟩ rfl hl.1 rfl (Nat.le_of_ble_eq_true rfl) dX5_judge_4) hw rfl rfl (fun _ => (Nat.le_of_ble_eq_true rfl)) (fun _ => rfl) rfl rfl (fun _ H locs hw => ?_)
  refine lv_istore (lv' := [(4, .int r4), (0, .ref (ad 0)), (1, .int p1), (2, .int p2), (3, .int p3)]) hx hb dX5_judge_7 hl (by decide) rfl (fun ls hl => ?_)
  refine lv_iload hx hb dX5_judge_9 (lv_at hl 0 rfl) ?_
  refine lv_if_eq (tgt := 23) hx hb dX5_judge_11 (by decide) (fun k11 => ?_) (fun k11 => ?_)
  · have h := itt k11 h
    refine lv_aload_n hx hb dX5_judge_23 rfl (lv_at hl 1 rfl) ?_
    refine lv_iload_n hx hb dX5_judge_24 rfl (lv_at hl 2 rfl) ?_
    refine lv_iload_n hx hb dX5_judge_25 rfl (lv_at hl 3 rfl) ?_
    refine lv_iload_n hx hb dX5_judge_26 rfl (lv_at hl 4 rfl) ?_
    obtain ⟨r27, h27, h⟩ := bnd h
    refine g_calli0 (isC := [0, 1, 2, 3]) (gn := fun _ => [wRO g ad (adN 0) aK aD (adS 0) aT (adL 0) aE ro, wEV g adN nw, wSH g adS sh, wLW g adL r27.2]) (g_runV (isC := [0, 1, 2, 3]) (rest := []) (As := [.int p1, .int p2, .int p3]) X hw (c_X5_judgedMove l (ad := ad) (adN := adN) (adS := adS) (adL := adL) (aK := aK) (aD := aD) (aT := aT) (aE := aE) h27) rfl kM_X5_judgedMove ki_X5_judgedMove ks_X5_judgedMove km_X5_312 ⟨(Nat.le_of_ble_eq_true rfl), (Nat.le_of_ble_eq_true rfl)⟩ ⟨(Nat.le_of_ble_eq_true rfl), (Nat.le_of_ble_eq_true rfl)⟩ rfl rfl ⟨_, _, _, _, rfl, rfl, rfl, rfl⟩ rfl hl.1 rfl (Nat.le_of_ble_eq_true rfl) dX5_judge_27) hw rfl rfl (fun _ => (Nat.le_of_ble_eq_true rfl)) (fun _ => rfl) rfl rfl (fun _ H locs hw => ?_)
    have h := Option.some.inj h
    subst h
    exact hret () dX5_judge_30 rfl hw
  · have h := itf k11 h
    refine lv_aload_n hx hb dX5_judge_14 rfl (lv_at hl 1 rfl) ?_
    refine lv_iload hx hb dX5_judge_15 (lv_at hl 0 rfl) ?_
    obtain ⟨r17, h17, h⟩ := bnd h
    refine g_calli0 (isC := [0]) (gn := fun _ => [wRO g ad (adN 0) aK aD (adS 0) aT (adL 0) aE r17.2, wEV g adN nw, wSH g adS sh, wLW g adL lw]) (g_runV (isC := [0]) (rest := []) (As := [.int r4]) X hw (c_X5_refuse l (ad := ad) (aN := (adN 0)) (aK := aK) (aD := aD) (aS := (adS 0)) (aT := aT) (aL := (adL 0)) (aE := aE) h17) rfl kM_X5_refuse ki_X5_refuse ks_X5_refuse km_X5_62 ⟨(Nat.le_of_ble_eq_true rfl), (Nat.le_of_ble_eq_true rfl)⟩ ⟨(Nat.le_of_ble_eq_true rfl), (Nat.le_of_ble_eq_true rfl)⟩ rfl rfl ⟨_, _, _, _, rfl, rfl, rfl, rfl⟩ rfl hl.1 rfl (Nat.le_of_ble_eq_true rfl) dX5_judge_17) hw rfl rfl (fun _ => (Nat.le_of_ble_eq_true rfl)) (fun _ => rfl) rfl rfl (fun _ H locs hw => ?_)
    refine lv_goto (tgt := 30) hx hb dX5_judge_20 (by decide) ?_
    have h := Option.some.inj h
    subst h
    exact hret () dX5_judge_30 rfl hw
theorem kM_X5_goes : kM yX5_goes cX5_goes 7 (some FieldType.int) 3 := ⟨kc_X5_goes, kn_RingsOff, by decide +kernel⟩
abbrev R_X5_goes : Room := { frames := 8, cells := 0, slots := 0, locals := 171 }
set_option maxHeartbeats 4000000 in
set_option maxRecDepth 100000 in
theorem c_X5_goes (l : Launch) {ad : Nat → Nat} {adN : Nat → Nat} {adL : Nat → Nat} {adE : Nat → Nat} {aK : Nat} {aD : Nat} {aS : Nat} {aT : Nat} {N : Nat} {ro : RO} {nw : EV} {lw : LW} {se : SE} {p1 : Int32} {p2 : Int32} {p3 : Int32} {out : Int32 × RO × EV × LW × SE} (h : M_X5_goes N ro nw lw se p1 p2 p3 = some out) : gM l yX5_goes cX5_goes 7 (some FieldType.int) R_X5_goes (fun _ => [.ref (ad 0), .int p1, .int p2, .int p3]) (fun g => [wRO g ad (adN 0) aK aD aS aT (adL 0) (adE 0) ro, wEV g adN nw, wLW g adL lw, wSE g adE se]) (gQi (fun (_ : Unit) => out.1) (fun g (_ : Unit) => [wRO g ad (adN 0) aK aD aS aT (adL 0) (adE 0) out.2.1, wEV g adN out.2.2.1, wLW g adL out.2.2.2.1, wSE g adE out.2.2.2.2])) := by
  refine gM.ofi (by decide +kernel) (fun _ => Nat.le_of_ble_eq_true rfl) (fun g p e s m args below meth c A ls Q X hret hw hl => ?_)
  have hx := X.1.1
  have hb := X.1.2.1
  have hl : lv_has ls 7 [(0, .ref (ad 0)), (1, .int p1), (2, .int p2), (3, .int p3)] := hl
  have L71 : ∀ (n : Nat) (z71 : RO × EV × LW × SE × Int32 × Int32), lp (M_X5_goes_l71 N p1 p2 p3) n z71 = some out → ∀ (H : Heap) (locs : List Loc) (ls : Array Slot), gW g A s.heap [wRO g ad (adN 0) aK aD aS aT (adL 0) (adE 0) z71.1, wEV g adN z71.2.1, wLW g adL z71.2.2.1, wSE g adE z71.2.2.2.1] H locs → lv_has ls 7 [(0, .ref (ad 0)), (1, .int p1), (5, .int z71.2.2.2.2.1), (6, .int z71.2.2.2.2.2)] → W p l e R_X5_goes s m args below meth c H locs 0 0 Q (F0 m 71 ls []) := by
    refine lp_ind ?_
    intro rec71 ih71
    intro z71 h H locs ls hw hl
    unfold M_X5_goes_l71 at h
    refine lv_iload hx hb dX5_goes_71 (lv_at hl 3 rfl) ?_
    refine lv_iload hx hb dX5_goes_73 (lv_at hl 2 rfl) ?_
    refine lv_icmp_ge (tgt := 107) hx hb dX5_goes_75 (by decide) (fun k75 => ?_) (fun k75 => ?_)
    · have h := itt k75 h
      refine lv_iload hx hb dX5_goes_107 (lv_at hl 2 rfl) ?_
      have h := Option.some.inj h
      subst h
      exact hret () dX5_goes_109 rfl hw
    · have h := itf k75 h
      refine lv_aload_n hx hb dX5_goes_78 rfl (lv_at hl 0 rfl) ?_
      refine RO_g_now X hw 0 rfl kf_X5_12 dX5_goes_79 ?_
      refine lv_iload_n hx hb dX5_goes_82 rfl (lv_at hl 1 rfl) ?_
      refine lv_aload_n hx hb dX5_goes_83 rfl (lv_at hl 0 rfl) ?_
      refine RO_g_search X hw 0 rfl kf_X5_46 dX5_goes_84 ?_
      refine lv_aload_n hx hb dX5_goes_87 rfl (lv_at hl 0 rfl) ?_
      refine RO_g_now X hw 0 rfl kf_X5_12 dX5_goes_88 ?_
      refine lv_iload_n hx hb dX5_goes_91 rfl (lv_at hl 1 rfl) ?_
      obtain ⟨r92, h92, h⟩ := bnd h
      refine g_calli0 (isC := [1]) (gn := fun _ => [wRO g ad (adN 0) aK aD aS aT (adL 0) (adE 0) z71.1, wEV g adN z71.2.1, wLW g adL z71.2.2.1, wSE g adE z71.2.2.2.1]) (g_runVN (isC := [1]) (rest := [.ref (adE 0), .int p1, .ref (adN 0)]) (As := [.int p1]) X hw (c_X0_onOf l (ad := adN) h92) rfl kM_X0_onOf ki_X0_onOf ks_X0_onOf km_X5_122 ⟨(Nat.le_of_ble_eq_true rfl), (Nat.le_of_ble_eq_true rfl)⟩ ⟨(Nat.le_of_ble_eq_true rfl), (Nat.le_of_ble_eq_true rfl)⟩ rfl rfl ⟨_, _, _, _, rfl, rfl, rfl, rfl⟩ rfl hl.1 rfl (Nat.le_of_ble_eq_true rfl) dX5_goes_92) hw rfl rfl (fun _ => (Nat.le_of_ble_eq_true rfl)) (fun _ => rfl) rfl rfl (fun _ H locs hw => ?_)
      obtain ⟨r95, h95, h⟩ := bnd h
      refine g_calli0 (isC := [3]) (gn := fun _ => [wRO g ad (adN 0) aK aD aS aT (adL 0) (adE 0) z71.1, wEV g adN z71.2.1, wLW g adL z71.2.2.1, wSE g adE z71.2.2.2.1]) (g_runVN (isC := [3]) (rest := [.int p1, .ref (adN 0)]) (As := [.int r92]) X hw (c_X2_nextMove l (ad := adE) h95) rfl kM_X2_nextMove ki_X2_nextMove ks_X2_nextMove km_X5_229 ⟨(Nat.le_of_ble_eq_true rfl), (Nat.le_of_ble_eq_true rfl)⟩ ⟨(Nat.le_of_ble_eq_true rfl), (Nat.le_of_ble_eq_true rfl)⟩ rfl rfl ⟨_, _, _, _, rfl, rfl, rfl, rfl⟩ rfl hl.1 rfl (Nat.le_of_ble_eq_true rfl) dX5_goes_95) hw rfl rfl (fun _ => (Nat.le_of_ble_eq_true rfl)) (fun _ => rfl) rfl rfl (fun _ H locs hw => ?_)
      obtain ⟨r98, h98, h⟩ := bnd h
      refine g_callv0 (isC := [1]) (gn := fun _ => [wRO g ad (adN 0) aK aD aS aT (adL 0) (adE 0) z71.1, wEV g adN r98, wLW g adL z71.2.2.1, wSE g adE z71.2.2.2.1]) (g_runVN (isC := [1]) (rest := []) (As := [.int p1, .int r95]) X hw (c_X0_makeMove l (ad := adN) h98) rfl kM_X0_makeMove ki_X0_makeMove ks_X0_makeMove km_X5_226 ⟨(Nat.le_of_ble_eq_true rfl), (Nat.le_of_ble_eq_true rfl)⟩ ⟨(Nat.le_of_ble_eq_true rfl), (Nat.le_of_ble_eq_true rfl)⟩ rfl rfl ⟨_, _, _, _, rfl, rfl, rfl, rfl⟩ rfl hl.1 rfl (Nat.le_of_ble_eq_true rfl) dX5_goes_98) hw rfl rfl (fun _ => (Nat.le_of_ble_eq_true rfl)) (fun _ => rfl) rfl rfl (fun _ H locs hw => ?_)
      refine lv_iinc (v := (z71.2.2.2.2.2 + 1)) (lv' := [(6, .int (z71.2.2.2.2.2 + 1)), (0, .ref (ad 0)), (1, .int p1), (5, .int z71.2.2.2.2.1)]) hx hb dX5_goes_101 hl (k := 3) rfl rfl (by decide) rfl (fun ls hl => ?_)
      refine lv_goto (tgt := 71) hx hb dX5_goes_104 (by decide) ?_
      exact ih71 _ h _ _ _ hw (lv_sub hl [1, 2, 3, 0] rfl)
  have J24 : ∀ (z24 : RO × EV × LW × SE), M_X5_goes_j24 N p1 p2 p3 z24 = some out → ∀ (H : Heap) (locs : List Loc) (ls : Array Slot), gW g A s.heap [wRO g ad (adN 0) aK aD aS aT (adL 0) (adE 0) z24.1, wEV g adN z24.2.1, wLW g adL z24.2.2.1, wSE g adE z24.2.2.2] H locs → lv_has ls 7 [(0, .ref (ad 0))] → W p l e R_X5_goes s m args below meth c H locs 0 0 Q (F0 m 24 ls []) := by
    intro z24 h H locs ls hw hl
    unfold M_X5_goes_j24 at h
    refine lv_aload_n hx hb dX5_goes_24 rfl (lv_at hl 0 rfl) ?_
    refine lv_bipush (v := -2) hx hb dX5_goes_25 (by decide) ?_
    obtain ⟨r27, h27, h⟩ := bnd h
    refine g_calli0 (isC := [0]) (gn := fun _ => [wRO g ad (adN 0) aK aD aS aT (adL 0) (adE 0) r27.2, wEV g adN z24.2.1, wLW g adL z24.2.2.1, wSE g adE z24.2.2.2]) (g_runV (isC := [0]) (rest := []) (As := [.int (-2 : Int32)]) X hw (c_X5_refuse l (ad := ad) (aN := (adN 0)) (aK := aK) (aD := aD) (aS := aS) (aT := aT) (aL := (adL 0)) (aE := (adE 0)) h27) rfl kM_X5_refuse ki_X5_refuse ks_X5_refuse km_X5_62 ⟨(Nat.le_of_ble_eq_true rfl), (Nat.le_of_ble_eq_true rfl)⟩ ⟨(Nat.le_of_ble_eq_true rfl), (Nat.le_of_ble_eq_true rfl)⟩ rfl rfl ⟨_, _, _, _, rfl, rfl, rfl, rfl⟩ rfl hl.1 rfl (Nat.le_of_ble_eq_true rfl) dX5_goes_27) hw rfl rfl (fun _ => (Nat.le_of_ble_eq_true rfl)) (fun _ => rfl) rfl rfl (fun _ H locs hw => ?_)
    have h := Option.some.inj h
    subst h
    exact hret () dX5_goes_30 rfl hw
  unfold M_X5_goes at h
  refine lv_aload_n hx hb dX5_goes_0 rfl (lv_at hl 0 rfl) ?_
  refine RO_g_now X hw 0 rfl kf_X5_12 dX5_goes_1 ?_
  refine lv_iload_n hx hb dX5_goes_4 rfl (lv_at hl 1 rfl) ?_
  refine lv_iload_n hx hb dX5_goes_5 rfl (lv_at hl 2 rfl) ?_
  refine lv_i2l (v := p2.toInt64) hx hb dX5_goes_6 rfl ?_
  obtain ⟨r7, h7, h⟩ := bnd h
  refine g_calli0 (isC := [1]) (gn := fun _ => [wRO g ad (adN 0) aK aD aS aT (adL 0) (adE 0) ro, wEV g adN nw, wLW g adL lw, wSE g adE se]) (g_runVN (isC := [1]) (rest := []) (As := [.int p1, .long p2.toInt64]) X hw (c_X0_hasSet l (ad := adN) h7) rfl kM_X0_hasSet ki_X0_hasSet ks_X0_hasSet km_X5_164 ⟨(Nat.le_of_ble_eq_true rfl), (Nat.le_of_ble_eq_true rfl)⟩ ⟨(Nat.le_of_ble_eq_true rfl), (Nat.le_of_ble_eq_true rfl)⟩ rfl rfl ⟨_, _, _, _, rfl, rfl, rfl, rfl⟩ rfl hl.1 rfl (Nat.le_of_ble_eq_true rfl) dX5_goes_7) hw rfl rfl (fun _ => (Nat.le_of_ble_eq_true rfl)) (fun _ => rfl) rfl rfl (fun _ H locs hw => ?_)
  refine lv_if_eq (tgt := 24) hx hb dX5_goes_10 (by decide) (fun k10 => ?_) (fun k10 => ?_)
  · have h := itt k10 h
    exact J24 _ h _ _ _ hw (lv_sub hl [0] rfl)
  · have h := itf k10 h
    refine lv_iload_n hx hb dX5_goes_13 rfl (lv_at hl 3 rfl) ?_
    refine lv_iconst (v := 1) hx hb dX5_goes_14 (by decide) ?_
    refine lv_icmp_lt (tgt := 24) hx hb dX5_goes_15 (by decide) (fun k15 => ?_) (fun k15 => ?_)
    · have h := itt k15 h
      exact J24 _ h _ _ _ hw (lv_sub hl [0] rfl)
    · have h := itf k15 h
      refine lv_iload_n hx hb dX5_goes_18 rfl (lv_at hl 3 rfl) ?_
      refine lv_bipush (v := 60) hx hb dX5_goes_19 (by decide) ?_
      refine lv_icmp_le (tgt := 31) hx hb dX5_goes_21 (by decide) (fun k21 => ?_) (fun k21 => ?_)
      · have h := itt k21 h
        refine lv_aload_n hx hb dX5_goes_31 rfl (lv_at hl 0 rfl) ?_
        refine lv_iload_n hx hb dX5_goes_32 rfl (lv_at hl 1 rfl) ?_
        refine lv_aload_n hx hb dX5_goes_33 rfl (lv_at hl 0 rfl) ?_
        refine RO_g_now X hw 0 rfl kf_X5_12 dX5_goes_34 ?_
        refine lv_iload_n hx hb dX5_goes_37 rfl (lv_at hl 1 rfl) ?_
        obtain ⟨r38, h38, h⟩ := bnd h
        refine g_calli0 (isC := [1]) (gn := fun _ => [wRO g ad (adN 0) aK aD aS aT (adL 0) (adE 0) ro, wEV g adN nw, wLW g adL lw, wSE g adE se]) (g_runVN (isC := [1]) (rest := [.int p1, .ref (ad 0)]) (As := [.int p1]) X hw (c_X0_onOf l (ad := adN) h38) rfl kM_X0_onOf ki_X0_onOf ks_X0_onOf km_X5_122 ⟨(Nat.le_of_ble_eq_true rfl), (Nat.le_of_ble_eq_true rfl)⟩ ⟨(Nat.le_of_ble_eq_true rfl), (Nat.le_of_ble_eq_true rfl)⟩ rfl rfl ⟨_, _, _, _, rfl, rfl, rfl, rfl⟩ rfl hl.1 rfl (Nat.le_of_ble_eq_true rfl) dX5_goes_38) hw rfl rfl (fun _ => (Nat.le_of_ble_eq_true rfl)) (fun _ => rfl) rfl rfl (fun _ H locs hw => ?_)
        refine lv_iload_n hx hb dX5_goes_41 rfl (lv_at hl 2 rfl) ?_
        obtain ⟨r42, h42, h⟩ := bnd h
        refine g_calli0 (isC := [0, 1, 2, 3]) (gn := fun _ => [wRO g ad (adN 0) aK aD aS aT (adL 0) (adE 0) ro, wEV g adN nw, wLW g adL r42.2.1, wSE g adE r42.2.2]) (g_runV (isC := [0, 1, 2, 3]) (rest := []) (As := [.int p1, .int r38, .int p2]) X hw (c_X5_leadTo l (ad := ad) (adN := adN) (adL := adL) (adE := adE) (aK := aK) (aD := aD) (aS := aS) (aT := aT) h42) rfl kM_X5_leadTo ki_X5_leadTo ks_X5_leadTo km_X5_140 ⟨(Nat.le_of_ble_eq_true rfl), (Nat.le_of_ble_eq_true rfl)⟩ ⟨(Nat.le_of_ble_eq_true rfl), (Nat.le_of_ble_eq_true rfl)⟩ rfl rfl ⟨_, _, _, _, rfl, rfl, rfl, rfl⟩ rfl hl.1 rfl (Nat.le_of_ble_eq_true rfl) dX5_goes_42) hw rfl rfl (fun _ => (Nat.le_of_ble_eq_true rfl)) (fun _ => rfl) rfl rfl (fun _ H locs hw => ?_)
        refine lv_istore (lv' := [(4, .int r42.1), (0, .ref (ad 0)), (1, .int p1), (2, .int p2), (3, .int p3)]) hx hb dX5_goes_45 hl (by decide) rfl (fun ls hl => ?_)
        refine lv_iload hx hb dX5_goes_47 (lv_at hl 0 rfl) ?_
        refine lv_iconst (v := -1) hx hb dX5_goes_49 (by decide) ?_
        refine lv_icmp_ne (tgt := 60) hx hb dX5_goes_50 (by decide) (fun k50 => ?_) (fun k50 => ?_)
        · have h := itt k50 h
          refine lv_iload_n hx hb dX5_goes_60 rfl (lv_at hl 4 rfl) ?_
          refine lv_iload hx hb dX5_goes_61 (lv_at hl 0 rfl) ?_
          refine va_mmin hx hb (X.1.2.2.1.trans hl.1.symm) X.1.2.2.2.1 (gK1 X _ km_X5_325) (gK1 X _ kt_J9_min_7cf53) (gK1 X _ kn_java_lang_Math) (gK1 X _ kc_J9_min_7cf53) (Nat.le_of_ble_eq_true rfl) (Nat.le_of_ble_eq_true rfl) (Nat.le_of_ble_eq_true rfl) (Nat.le_of_ble_eq_true rfl) dX5_goes_63 ?_
          refine W.eq (g2 := F0 m 66 ls [.int (jmin p3 r42.1)]) rfl ?_
          refine lv_istore (lv' := [(5, .int (jmin p3 r42.1)), (4, .int r42.1), (0, .ref (ad 0)), (1, .int p1), (2, .int p2), (3, .int p3)]) hx hb dX5_goes_66 hl (by decide) rfl (fun ls hl => ?_)
          refine lv_iconst (v := 0) hx hb dX5_goes_68 (by decide) ?_
          refine lv_istore (lv' := [(6, .int (0 : Int32)), (5, .int (jmin p3 r42.1)), (4, .int r42.1), (0, .ref (ad 0)), (1, .int p1), (2, .int p2), (3, .int p3)]) hx hb dX5_goes_69 hl (by decide) rfl (fun ls hl => ?_)
          exact L71 N _ h _ _ _ hw (lv_sub hl [3, 4, 1, 0] rfl)
        · have h := itf (fun z => z k50) h
          refine lv_aload_n hx hb dX5_goes_53 rfl (lv_at hl 1 rfl) ?_
          refine lv_bipush (v := -5) hx hb dX5_goes_54 (by decide) ?_
          obtain ⟨r56, h56, h⟩ := bnd h
          refine g_calli0 (isC := [0]) (gn := fun _ => [wRO g ad (adN 0) aK aD aS aT (adL 0) (adE 0) r56.2, wEV g adN nw, wLW g adL r42.2.1, wSE g adE r42.2.2]) (g_runV (isC := [0]) (rest := []) (As := [.int (-5 : Int32)]) X hw (c_X5_refuse l (ad := ad) (aN := (adN 0)) (aK := aK) (aD := aD) (aS := aS) (aT := aT) (aL := (adL 0)) (aE := (adE 0)) h56) rfl kM_X5_refuse ki_X5_refuse ks_X5_refuse km_X5_62 ⟨(Nat.le_of_ble_eq_true rfl), (Nat.le_of_ble_eq_true rfl)⟩ ⟨(Nat.le_of_ble_eq_true rfl), (Nat.le_of_ble_eq_true rfl)⟩ rfl rfl ⟨_, _, _, _, rfl, rfl, rfl, rfl⟩ rfl hl.1 rfl (Nat.le_of_ble_eq_true rfl) dX5_goes_56) hw rfl rfl (fun _ => (Nat.le_of_ble_eq_true rfl)) (fun _ => rfl) rfl rfl (fun _ H locs hw => ?_)
          have h := Option.some.inj h
          subst h
          exact hret () dX5_goes_59 rfl hw
      · have h := itf k21 h
        exact J24 _ h _ _ _ hw (lv_sub hl [0] rfl)
theorem kM_X5_whyNotMade : kM yX5_whyNotMade cX5_whyNotMade 5 (some FieldType.int) 3 := ⟨kc_X5_whyNotMade, kn_RingsOff, by decide +kernel⟩
abbrev R_X5_whyNotMade : Room := { frames := 6, cells := 0, slots := 0, locals := 132 }
set_option maxHeartbeats 4000000 in
set_option maxRecDepth 100000 in
theorem c_X5_whyNotMade (l : Launch) {ad : Nat → Nat} {adN : Nat → Nat} {adS : Nat → Nat} {adL : Nat → Nat} {aK : Nat} {aD : Nat} {aT : Nat} {aE : Nat} {N : Nat} {ro : RO} {nw : EV} {sh : SH} {lw : LW} {p1 : Int32} {p2 : Int32} {p3 : Int32} {out : Int32 × LW} (h : M_X5_whyNotMade N ro nw sh lw p1 p2 p3 = some out) : gM l yX5_whyNotMade cX5_whyNotMade 5 (some FieldType.int) R_X5_whyNotMade (fun _ => [.ref (ad 0), .int p1, .int p2, .int p3]) (fun g => [wRO g ad (adN 0) aK aD (adS 0) aT (adL 0) aE ro, wEV g adN nw, wSH g adS sh, wLW g adL lw]) (gQi (fun (_ : Unit) => out.1) (fun g (_ : Unit) => [wRO g ad (adN 0) aK aD (adS 0) aT (adL 0) aE ro, wEV g adN nw, wSH g adS sh, wLW g adL out.2])) := by
  refine gM.ofi (by decide +kernel) (fun _ => Nat.le_of_ble_eq_true rfl) (fun g p e s m args below meth c A ls Q X hret hw hl => ?_)
  have hx := X.1.1
  have hb := X.1.2.1
  have hl : lv_has ls 5 [(0, .ref (ad 0)), (1, .int p1), (2, .int p2), (3, .int p3)] := hl
  unfold M_X5_whyNotMade at h
  refine lv_aload_n hx hb dX5_whyNotMade_0 rfl (lv_at hl 0 rfl) ?_
  refine lv_iload_n hx hb dX5_whyNotMade_1 rfl (lv_at hl 1 rfl) ?_
  refine lv_iload_n hx hb dX5_whyNotMade_2 rfl (lv_at hl 2 rfl) ?_
  refine lv_iload_n hx hb dX5_whyNotMade_3 rfl (lv_at hl 3 rfl) ?_
  obtain ⟨r4, h4, h⟩ := bnd h
  refine g_calli0 (isC := [0, 1, 2]) (gn := fun _ => [wRO g ad (adN 0) aK aD (adS 0) aT (adL 0) aE ro, wEV g adN nw, wSH g adS sh, wLW g adL lw]) (g_runV (isC := [0, 1, 2]) (rest := []) (As := [.int p1, .int p2, .int p3]) X hw (c_X5_whyNoMoves l (ad := ad) (adN := adN) (adS := adS) (aK := aK) (aD := aD) (aT := aT) (aL := (adL 0)) (aE := aE) h4) rfl kM_X5_whyNoMoves ki_X5_whyNoMoves ks_X5_whyNoMoves km_X5_309 ⟨(Nat.le_of_ble_eq_true rfl), (Nat.le_of_ble_eq_true rfl)⟩ ⟨(Nat.le_of_ble_eq_true rfl), (Nat.le_of_ble_eq_true rfl)⟩ rfl rfl ⟨_, _, _, _, rfl, rfl, rfl, rfl⟩ rfl hl.1 rfl (Nat.le_of_ble_eq_true rfl) dX5_whyNotMade_4) hw rfl rfl (fun _ => (Nat.le_of_ble_eq_true rfl)) (fun _ => rfl) rfl rfl (fun _ H locs hw => ?_)
  refine lv_istore (lv' := [(4, .int r4), (0, .ref (ad 0)), (1, .int p1), (2, .int p2), (3, .int p3)]) hx hb dX5_whyNotMade_7 hl (by decide) rfl (fun ls hl => ?_)
  refine lv_iload hx hb dX5_whyNotMade_9 (lv_at hl 0 rfl) ?_
  refine lv_if_eq (tgt := 17) hx hb dX5_whyNotMade_11 (by decide) (fun k11 => ?_) (fun k11 => ?_)
  · have h := itt k11 h
    refine lv_aload_n hx hb dX5_whyNotMade_17 rfl (lv_at hl 1 rfl) ?_
    refine lv_iload_n hx hb dX5_whyNotMade_18 rfl (lv_at hl 2 rfl) ?_
    refine lv_iload_n hx hb dX5_whyNotMade_19 rfl (lv_at hl 3 rfl) ?_
    refine lv_iload_n hx hb dX5_whyNotMade_20 rfl (lv_at hl 4 rfl) ?_
    obtain ⟨r21, h21, h⟩ := bnd h
    refine g_calli0 (isC := [0, 1, 2, 3]) (gn := fun _ => [wRO g ad (adN 0) aK aD (adS 0) aT (adL 0) aE ro, wEV g adN nw, wSH g adS sh, wLW g adL r21.2]) (g_runV (isC := [0, 1, 2, 3]) (rest := []) (As := [.int p1, .int p2, .int p3]) X hw (c_X5_judgedMove l (ad := ad) (adN := adN) (adS := adS) (adL := adL) (aK := aK) (aD := aD) (aT := aT) (aE := aE) h21) rfl kM_X5_judgedMove ki_X5_judgedMove ks_X5_judgedMove km_X5_312 ⟨(Nat.le_of_ble_eq_true rfl), (Nat.le_of_ble_eq_true rfl)⟩ ⟨(Nat.le_of_ble_eq_true rfl), (Nat.le_of_ble_eq_true rfl)⟩ rfl rfl ⟨_, _, _, _, rfl, rfl, rfl, rfl⟩ rfl hl.1 rfl (Nat.le_of_ble_eq_true rfl) dX5_whyNotMade_21) hw rfl rfl (fun _ => (Nat.le_of_ble_eq_true rfl)) (fun _ => rfl) rfl rfl (fun _ H locs hw => ?_)
    refine lv_iconst (v := -1) hx hb dX5_whyNotMade_24 (by decide) ?_
    refine lv_icmp_ne (tgt := 32) hx hb dX5_whyNotMade_25 (by decide) (fun k25 => ?_) (fun k25 => ?_)
    · have h := itt k25 h
      refine lv_bipush (v := -5) hx hb dX5_whyNotMade_32 (by decide) ?_
      have h := Option.some.inj h
      subst h
      exact hret () dX5_whyNotMade_34 rfl hw
    · have h := itf (fun z => z k25) h
      refine lv_iconst (v := 0) hx hb dX5_whyNotMade_28 (by decide) ?_
      refine lv_goto (tgt := 34) hx hb dX5_whyNotMade_29 (by decide) ?_
      have h := Option.some.inj h
      subst h
      exact hret () dX5_whyNotMade_34 rfl hw
  · have h := itf k11 h
    refine lv_iload hx hb dX5_whyNotMade_14 (lv_at hl 0 rfl) ?_
    have h := Option.some.inj h
    subst h
    exact hret () dX5_whyNotMade_16 rfl hw
theorem kM_X5_says : kM yX5_says cX5_says 4 (some FieldType.int) 2 := ⟨kc_X5_says, kn_RingsOff, by decide +kernel⟩
abbrev R_X5_says : Room := { frames := 9, cells := 0, slots := 0, locals := 194 }
set_option maxHeartbeats 4000000 in
set_option maxRecDepth 100000 in
theorem c_X5_says (l : Launch) {ad : Nat → Nat} {adN : Nat → Nat} {adS : Nat → Nat} {adL : Nat → Nat} {adE : Nat → Nat} {aK : Nat} {aD : Nat} {aT : Nat} {N : Nat} {ro : RO} {nw : EV} {sh : SH} {lw : LW} {se : SE} {p1 : Int32} {p2 : Int32} {out : Int32 × RO × LW × SE} (h : M_X5_says N ro nw sh lw se p1 p2 = some out) : gM l yX5_says cX5_says 4 (some FieldType.int) R_X5_says (fun _ => [.ref (ad 0), .int p1, .int p2]) (fun g => [wRO g ad (adN 0) aK aD (adS 0) aT (adL 0) (adE 0) ro, wEV g adN nw, wSH g adS sh, wLW g adL lw, wSE g adE se]) (gQi (fun (_ : Unit) => out.1) (fun g (_ : Unit) => [wRO g ad (adN 0) aK aD (adS 0) aT (adL 0) (adE 0) out.2.1, wEV g adN nw, wSH g adS sh, wLW g adL out.2.2.1, wSE g adE out.2.2.2])) := by
  refine gM.ofi (by decide +kernel) (fun _ => Nat.le_of_ble_eq_true rfl) (fun g p e s m args below meth c A ls Q X hret hw hl => ?_)
  have hx := X.1.1
  have hb := X.1.2.1
  have hl : lv_has ls 4 [(0, .ref (ad 0)), (1, .int p1), (2, .int p2)] := hl
  have J70 : ∀ (z70 : RO × LW × SE × Int32), M_X5_says_j70 N nw sh p1 p2 z70 = some out → ∀ (H : Heap) (locs : List Loc) (ls : Array Slot), gW g A s.heap [wRO g ad (adN 0) aK aD (adS 0) aT (adL 0) (adE 0) z70.1, wEV g adN nw, wSH g adS sh, wLW g adL z70.2.1, wSE g adE z70.2.2.1] H locs → lv_has ls 4 [(0, .ref (ad 0)), (2, .int p2), (3, .int z70.2.2.2)] → W p l e R_X5_says s m args below meth c H locs 0 0 Q (F0 m 70 ls []) := by
    intro z70 h H locs ls hw hl
    unfold M_X5_says_j70 at h
    refine lv_aload_n hx hb dX5_says_70 rfl (lv_at hl 0 rfl) ?_
    refine RO_g_now X hw 0 rfl kf_X5_12 dX5_says_71 ?_
    refine lv_iload_n hx hb dX5_says_74 rfl (lv_at hl 2 rfl) ?_
    obtain ⟨r75, h75, h⟩ := bnd h
    refine g_calli0 (isC := [1]) (gn := fun _ => [wRO g ad (adN 0) aK aD (adS 0) aT (adL 0) (adE 0) z70.1, wEV g adN nw, wSH g adS sh, wLW g adL z70.2.1, wSE g adE z70.2.2.1]) (g_runVN (isC := [1]) (rest := []) (As := [.int z70.2.2.2]) X hw (c_X0_hasBar l (ad := adN) h75) rfl kM_X0_hasBar ki_X0_hasBar ks_X0_hasBar km_X5_99 ⟨(Nat.le_of_ble_eq_true rfl), (Nat.le_of_ble_eq_true rfl)⟩ ⟨(Nat.le_of_ble_eq_true rfl), (Nat.le_of_ble_eq_true rfl)⟩ rfl rfl ⟨_, _, _, _, rfl, rfl, rfl, rfl⟩ rfl hl.1 rfl (Nat.le_of_ble_eq_true rfl) dX5_says_75) hw rfl rfl (fun _ => (Nat.le_of_ble_eq_true rfl)) (fun _ => rfl) rfl rfl (fun _ H locs hw => ?_)
    refine lv_if_ne (tgt := 88) hx hb dX5_says_78 (by decide) (fun k78 => ?_) (fun k78 => ?_)
    · have h := itt k78 h
      refine lv_aload_n hx hb dX5_says_88 rfl (lv_at hl 0 rfl) ?_
      refine lv_iload_n hx hb dX5_says_89 rfl (lv_at hl 2 rfl) ?_
      refine lv_iload_n hx hb dX5_says_90 rfl (lv_at hl 1 rfl) ?_
      refine lv_aload_n hx hb dX5_says_91 rfl (lv_at hl 0 rfl) ?_
      refine RO_g_now X hw 0 rfl kf_X5_12 dX5_says_92 ?_
      refine lv_iload_n hx hb dX5_says_95 rfl (lv_at hl 2 rfl) ?_
      obtain ⟨r96, h96, h⟩ := bnd h
      refine g_calli0 (isC := [1]) (gn := fun _ => [wRO g ad (adN 0) aK aD (adS 0) aT (adL 0) (adE 0) z70.1, wEV g adN nw, wSH g adS sh, wLW g adL z70.2.1, wSE g adE z70.2.2.1]) (g_runVN (isC := [1]) (rest := [.int p2, .int z70.2.2.2, .ref (ad 0)]) (As := [.int z70.2.2.2]) X hw (c_X0_onOf l (ad := adN) h96) rfl kM_X0_onOf ki_X0_onOf ks_X0_onOf km_X5_122 ⟨(Nat.le_of_ble_eq_true rfl), (Nat.le_of_ble_eq_true rfl)⟩ ⟨(Nat.le_of_ble_eq_true rfl), (Nat.le_of_ble_eq_true rfl)⟩ rfl rfl ⟨_, _, _, _, rfl, rfl, rfl, rfl⟩ rfl hl.1 rfl (Nat.le_of_ble_eq_true rfl) dX5_says_96) hw rfl rfl (fun _ => (Nat.le_of_ble_eq_true rfl)) (fun _ => rfl) rfl rfl (fun _ H locs hw => ?_)
      obtain ⟨r99, h99, h⟩ := bnd h
      refine g_calli0 (isC := [0, 1, 3, 4]) (gn := fun _ => [wRO g ad (adN 0) aK aD (adS 0) aT (adL 0) (adE 0) z70.1, wEV g adN nw, wSH g adS sh, wLW g adL r99.2.1, wSE g adE r99.2.2]) (g_runV (isC := [0, 1, 3, 4]) (rest := []) (As := [.int z70.2.2.2, .int p2, .int r96]) X hw (c_X5_sayingOf l (ad := ad) (adN := adN) (adL := adL) (adE := adE) (aK := aK) (aD := aD) (aS := (adS 0)) (aT := aT) h99) rfl kM_X5_sayingOf ki_X5_sayingOf ks_X5_sayingOf km_X5_125 ⟨(Nat.le_of_ble_eq_true rfl), (Nat.le_of_ble_eq_true rfl)⟩ ⟨(Nat.le_of_ble_eq_true rfl), (Nat.le_of_ble_eq_true rfl)⟩ rfl rfl ⟨_, _, _, _, rfl, rfl, rfl, rfl⟩ rfl hl.1 rfl (Nat.le_of_ble_eq_true rfl) dX5_says_99) hw rfl rfl (fun _ => (Nat.le_of_ble_eq_true rfl)) (fun _ => rfl) rfl rfl (fun _ H locs hw => ?_)
      have h := Option.some.inj h
      subst h
      exact hret () dX5_says_102 rfl hw
    · have h := itf (fun z => z k78) h
      refine lv_aload_n hx hb dX5_says_81 rfl (lv_at hl 0 rfl) ?_
      refine lv_bipush (v := -4) hx hb dX5_says_82 (by decide) ?_
      obtain ⟨r84, h84, h⟩ := bnd h
      refine g_calli0 (isC := [0]) (gn := fun _ => [wRO g ad (adN 0) aK aD (adS 0) aT (adL 0) (adE 0) r84.2, wEV g adN nw, wSH g adS sh, wLW g adL z70.2.1, wSE g adE z70.2.2.1]) (g_runV (isC := [0]) (rest := []) (As := [.int (-4 : Int32)]) X hw (c_X5_refuse l (ad := ad) (aN := (adN 0)) (aK := aK) (aD := aD) (aS := (adS 0)) (aT := aT) (aL := (adL 0)) (aE := (adE 0)) h84) rfl kM_X5_refuse ki_X5_refuse ks_X5_refuse km_X5_62 ⟨(Nat.le_of_ble_eq_true rfl), (Nat.le_of_ble_eq_true rfl)⟩ ⟨(Nat.le_of_ble_eq_true rfl), (Nat.le_of_ble_eq_true rfl)⟩ rfl rfl ⟨_, _, _, _, rfl, rfl, rfl, rfl⟩ rfl hl.1 rfl (Nat.le_of_ble_eq_true rfl) dX5_says_84) hw rfl rfl (fun _ => (Nat.le_of_ble_eq_true rfl)) (fun _ => rfl) rfl rfl (fun _ H locs hw => ?_)
      have h := Option.some.inj h
      subst h
      exact hret () dX5_says_87 rfl hw
  have J63 : ∀ (z63 : RO × LW × SE), M_X5_says_j63 N nw sh p1 p2 z63 = some out → ∀ (H : Heap) (locs : List Loc) (ls : Array Slot), gW g A s.heap [wRO g ad (adN 0) aK aD (adS 0) aT (adL 0) (adE 0) z63.1, wEV g adN nw, wSH g adS sh, wLW g adL z63.2.1, wSE g adE z63.2.2] H locs → lv_has ls 4 [(0, .ref (ad 0))] → W p l e R_X5_says s m args below meth c H locs 0 0 Q (F0 m 63 ls []) := by
    intro z63 h H locs ls hw hl
    unfold M_X5_says_j63 at h
    refine lv_aload_n hx hb dX5_says_63 rfl (lv_at hl 0 rfl) ?_
    refine lv_bipush (v := -3) hx hb dX5_says_64 (by decide) ?_
    obtain ⟨r66, h66, h⟩ := bnd h
    refine g_calli0 (isC := [0]) (gn := fun _ => [wRO g ad (adN 0) aK aD (adS 0) aT (adL 0) (adE 0) r66.2, wEV g adN nw, wSH g adS sh, wLW g adL z63.2.1, wSE g adE z63.2.2]) (g_runV (isC := [0]) (rest := []) (As := [.int (-3 : Int32)]) X hw (c_X5_refuse l (ad := ad) (aN := (adN 0)) (aK := aK) (aD := aD) (aS := (adS 0)) (aT := aT) (aL := (adL 0)) (aE := (adE 0)) h66) rfl kM_X5_refuse ki_X5_refuse ks_X5_refuse km_X5_62 ⟨(Nat.le_of_ble_eq_true rfl), (Nat.le_of_ble_eq_true rfl)⟩ ⟨(Nat.le_of_ble_eq_true rfl), (Nat.le_of_ble_eq_true rfl)⟩ rfl rfl ⟨_, _, _, _, rfl, rfl, rfl, rfl⟩ rfl hl.1 rfl (Nat.le_of_ble_eq_true rfl) dX5_says_66) hw rfl rfl (fun _ => (Nat.le_of_ble_eq_true rfl)) (fun _ => rfl) rfl rfl (fun _ H locs hw => ?_)
    have h := Option.some.inj h
    subst h
    exact hret () dX5_says_69 rfl hw
  have J16 : ∀ (z16 : RO × LW × SE), M_X5_says_j16 N nw sh p1 p2 z16 = some out → ∀ (H : Heap) (locs : List Loc) (ls : Array Slot), gW g A s.heap [wRO g ad (adN 0) aK aD (adS 0) aT (adL 0) (adE 0) z16.1, wEV g adN nw, wSH g adS sh, wLW g adL z16.2.1, wSE g adE z16.2.2] H locs → lv_has ls 4 [(0, .ref (ad 0))] → W p l e R_X5_says s m args below meth c H locs 0 0 Q (F0 m 16 ls []) := by
    intro z16 h H locs ls hw hl
    unfold M_X5_says_j16 at h
    refine lv_aload_n hx hb dX5_says_16 rfl (lv_at hl 0 rfl) ?_
    refine lv_bipush (v := -2) hx hb dX5_says_17 (by decide) ?_
    obtain ⟨r19, h19, h⟩ := bnd h
    refine g_calli0 (isC := [0]) (gn := fun _ => [wRO g ad (adN 0) aK aD (adS 0) aT (adL 0) (adE 0) r19.2, wEV g adN nw, wSH g adS sh, wLW g adL z16.2.1, wSE g adE z16.2.2]) (g_runV (isC := [0]) (rest := []) (As := [.int (-2 : Int32)]) X hw (c_X5_refuse l (ad := ad) (aN := (adN 0)) (aK := aK) (aD := aD) (aS := (adS 0)) (aT := aT) (aL := (adL 0)) (aE := (adE 0)) h19) rfl kM_X5_refuse ki_X5_refuse ks_X5_refuse km_X5_62 ⟨(Nat.le_of_ble_eq_true rfl), (Nat.le_of_ble_eq_true rfl)⟩ ⟨(Nat.le_of_ble_eq_true rfl), (Nat.le_of_ble_eq_true rfl)⟩ rfl rfl ⟨_, _, _, _, rfl, rfl, rfl, rfl⟩ rfl hl.1 rfl (Nat.le_of_ble_eq_true rfl) dX5_says_19) hw rfl rfl (fun _ => (Nat.le_of_ble_eq_true rfl)) (fun _ => rfl) rfl rfl (fun _ H locs hw => ?_)
    have h := Option.some.inj h
    subst h
    exact hret () dX5_says_22 rfl hw
  unfold M_X5_says at h
  refine lv_iload_n hx hb dX5_says_0 rfl (lv_at hl 1 rfl) ?_
  obtain ⟨r1, h1, h⟩ := bnd h
  refine g_calli0 (isC := []) (gn := fun _ => [wRO g ad (adN 0) aK aD (adS 0) aT (adL 0) (adE 0) ro, wEV g adN nw, wSH g adS sh, wLW g adL lw, wSE g adE se]) (g_runSN (isC := []) (rest := []) (As := [.int p1]) X hw (c_X3_isShelf l h1) rfl kM_X3_isShelf kt_X3_isShelf km_X5_58 ⟨(Nat.le_of_ble_eq_true rfl), (Nat.le_of_ble_eq_true rfl)⟩ ⟨(Nat.le_of_ble_eq_true rfl), (Nat.le_of_ble_eq_true rfl)⟩ rfl rfl rfl hl.1 rfl (Nat.le_of_ble_eq_true rfl) dX5_says_1) hw rfl rfl (fun _ => (Nat.le_of_ble_eq_true rfl)) (fun _ => rfl) rfl rfl (fun _ H locs hw => ?_)
  refine lv_if_eq (tgt := 16) hx hb dX5_says_4 (by decide) (fun k4 => ?_) (fun k4 => ?_)
  · have h := itt k4 h
    exact J16 _ h _ _ _ hw (lv_sub hl [0] rfl)
  · have h := itf k4 h
    refine lv_iload_n hx hb dX5_says_7 rfl (lv_at hl 2 rfl) ?_
    refine lv_if_lt (tgt := 16) hx hb dX5_says_8 (by decide) (fun k8 => ?_) (fun k8 => ?_)
    · have h := itt k8 h
      exact J16 _ h _ _ _ hw (lv_sub hl [0] rfl)
    · have h := itf k8 h
      refine lv_iload_n hx hb dX5_says_11 rfl (lv_at hl 2 rfl) ?_
      refine lv_iconst (v := 5) hx hb dX5_says_12 (by decide) ?_
      refine lv_icmp_le (tgt := 23) hx hb dX5_says_13 (by decide) (fun k13 => ?_) (fun k13 => ?_)
      · have h := itt k13 h
        refine lv_aload_n hx hb dX5_says_23 rfl (lv_at hl 0 rfl) ?_
        refine RO_g_shelves X hw 0 rfl kf_X5_25 dX5_says_24 ?_
        refine lv_iload_n hx hb dX5_says_27 rfl (lv_at hl 1 rfl) ?_
        obtain ⟨r28, h28, h⟩ := bnd h
        refine g_calli0 (isC := [2]) (gn := fun _ => [wRO g ad (adN 0) aK aD (adS 0) aT (adL 0) (adE 0) ro, wEV g adN nw, wSH g adS sh, wLW g adL lw, wSE g adE se]) (g_runVN (isC := [2]) (rest := []) (As := [.int p1]) X hw (c_X3_barIn l (ad := adS) h28) rfl kM_X3_barIn ki_X3_barIn ks_X3_barIn km_X5_110 ⟨(Nat.le_of_ble_eq_true rfl), (Nat.le_of_ble_eq_true rfl)⟩ ⟨(Nat.le_of_ble_eq_true rfl), (Nat.le_of_ble_eq_true rfl)⟩ rfl rfl ⟨_, _, _, _, rfl, rfl, rfl, rfl⟩ rfl hl.1 rfl (Nat.le_of_ble_eq_true rfl) dX5_says_28) hw rfl rfl (fun _ => (Nat.le_of_ble_eq_true rfl)) (fun _ => rfl) rfl rfl (fun _ H locs hw => ?_)
        refine lv_istore_n (lv' := [(3, .int r28), (0, .ref (ad 0)), (1, .int p1), (2, .int p2)]) hx hb dX5_says_31 rfl hl (by decide) rfl (fun ls hl => ?_)
        refine lv_aload_n hx hb dX5_says_32 rfl (lv_at hl 1 rfl) ?_
        refine RO_g_shelves X hw 0 rfl kf_X5_25 dX5_says_33 ?_
        refine lv_iload_n hx hb dX5_says_36 rfl (lv_at hl 2 rfl) ?_
        obtain ⟨r37, h37, h⟩ := bnd h
        refine g_calli0 (isC := [2]) (gn := fun _ => [wRO g ad (adN 0) aK aD (adS 0) aT (adL 0) (adE 0) ro, wEV g adN nw, wSH g adS sh, wLW g adL lw, wSE g adE se]) (g_runVN (isC := [2]) (rest := []) (As := [.int p1]) X hw (c_X3_hasRowIn l (ad := adS) h37) rfl kM_X3_hasRowIn ki_X3_hasRowIn ks_X3_hasRowIn km_X5_113 ⟨(Nat.le_of_ble_eq_true rfl), (Nat.le_of_ble_eq_true rfl)⟩ ⟨(Nat.le_of_ble_eq_true rfl), (Nat.le_of_ble_eq_true rfl)⟩ rfl rfl ⟨_, _, _, _, rfl, rfl, rfl, rfl⟩ rfl hl.1 rfl (Nat.le_of_ble_eq_true rfl) dX5_says_37) hw rfl rfl (fun _ => (Nat.le_of_ble_eq_true rfl)) (fun _ => rfl) rfl rfl (fun _ H locs hw => ?_)
        refine lv_if_ne (tgt := 63) hx hb dX5_says_40 (by decide) (fun k40 => ?_) (fun k40 => ?_)
        · have h := itt k40 h
          exact J63 _ h _ _ _ hw (lv_sub hl [1] rfl)
        · have h := itf (fun z => z k40) h
          refine lv_iload_n hx hb dX5_says_43 rfl (lv_at hl 0 rfl) ?_
          refine lv_iconst (v := -1) hx hb dX5_says_44 (by decide) ?_
          refine lv_icmp_eq (tgt := 70) hx hb dX5_says_45 (by decide) (fun k45 => ?_) (fun k45 => ?_)
          · have h := itt k45 h
            exact J70 _ h _ _ _ hw (lv_sub hl [1, 3, 0] rfl)
          · have h := itf k45 h
            refine lv_aload_n hx hb dX5_says_48 rfl (lv_at hl 1 rfl) ?_
            refine RO_g_now X hw 0 rfl kf_X5_12 dX5_says_49 ?_
            refine lv_iload_n hx hb dX5_says_52 rfl (lv_at hl 0 rfl) ?_
            obtain ⟨r53, h53, h⟩ := bnd h
            refine g_calli0 (isC := [1]) (gn := fun _ => [wRO g ad (adN 0) aK aD (adS 0) aT (adL 0) (adE 0) ro, wEV g adN nw, wSH g adS sh, wLW g adL lw, wSE g adE se]) (g_runVN (isC := [1]) (rest := []) (As := [.int r28]) X hw (c_X0_kindOf l (ad := adN) h53) rfl kM_X0_kindOf ki_X0_kindOf ks_X0_kindOf km_X5_116 ⟨(Nat.le_of_ble_eq_true rfl), (Nat.le_of_ble_eq_true rfl)⟩ ⟨(Nat.le_of_ble_eq_true rfl), (Nat.le_of_ble_eq_true rfl)⟩ rfl rfl ⟨_, _, _, _, rfl, rfl, rfl, rfl⟩ rfl hl.1 rfl (Nat.le_of_ble_eq_true rfl) dX5_says_53) hw rfl rfl (fun _ => (Nat.le_of_ble_eq_true rfl)) (fun _ => rfl) rfl rfl (fun _ H locs hw => ?_)
            refine lv_iload_n hx hb dX5_says_56 rfl (lv_at hl 3 rfl) ?_
            obtain ⟨r57, h57, h⟩ := bnd h
            refine g_calli0 (isC := []) (gn := fun _ => [wRO g ad (adN 0) aK aD (adS 0) aT (adL 0) (adE 0) ro, wEV g adN nw, wSH g adS sh, wLW g adL lw, wSE g adE se]) (g_runS (isC := []) (rest := []) (As := [.int r53, .int p2]) X hw (c_X5_isUnder l h57) rfl kM_X5_isUnder kt_X5_isUnder km_X5_119 ⟨(Nat.le_of_ble_eq_true rfl), (Nat.le_of_ble_eq_true rfl)⟩ ⟨(Nat.le_of_ble_eq_true rfl), (Nat.le_of_ble_eq_true rfl)⟩ rfl rfl rfl hl.1 rfl (Nat.le_of_ble_eq_true rfl) dX5_says_57) hw rfl rfl (fun _ => (Nat.le_of_ble_eq_true rfl)) (fun _ => rfl) rfl rfl (fun _ H locs hw => ?_)
            refine lv_if_ne (tgt := 70) hx hb dX5_says_60 (by decide) (fun k60 => ?_) (fun k60 => ?_)
            · have h := itt k60 h
              exact J70 _ h _ _ _ hw (lv_sub hl [1, 3, 0] rfl)
            · have h := itf (fun z => z k60) h
              exact J63 _ h _ _ _ hw (lv_sub hl [1] rfl)
      · have h := itf k13 h
        exact J16 _ h _ _ _ hw (lv_sub hl [0] rfl)
theorem kM_X5_behind : kM yX5_behind cX5_behind 5 (some FieldType.int) 3 := ⟨kc_X5_behind, kn_RingsOff, by decide +kernel⟩
abbrev R_X5_behind : Room := { frames := 7, cells := 0, slots := 0, locals := 156 }
set_option maxHeartbeats 4000000 in
set_option maxRecDepth 100000 in
theorem c_X5_behind (l : Launch) {ad : Nat → Nat} {adN : Nat → Nat} {adS : Nat → Nat} {adL : Nat → Nat} {aK : Nat} {aD : Nat} {aT : Nat} {aE : Nat} {N : Nat} {ro : RO} {nw : EV} {sh : SH} {lw : LW} {p1 : Int32} {p2 : Int32} {p3 : Int32} {out : Int32 × RO × LW} (h : M_X5_behind N ro nw sh lw p1 p2 p3 = some out) : gM l yX5_behind cX5_behind 5 (some FieldType.int) R_X5_behind (fun _ => [.ref (ad 0), .int p1, .int p2, .int p3]) (fun g => [wRO g ad (adN 0) aK aD (adS 0) aT (adL 0) aE ro, wEV g adN nw, wSH g adS sh, wLW g adL lw]) (gQi (fun (_ : Unit) => out.1) (fun g (_ : Unit) => [wRO g ad (adN 0) aK aD (adS 0) aT (adL 0) aE out.2.1, wEV g adN nw, wSH g adS sh, wLW g adL out.2.2])) := by
  refine gM.ofi (by decide +kernel) (fun _ => Nat.le_of_ble_eq_true rfl) (fun g p e s m args below meth c A ls Q X hret hw hl => ?_)
  have hx := X.1.1
  have hb := X.1.2.1
  have hl : lv_has ls 5 [(0, .ref (ad 0)), (1, .int p1), (2, .int p2), (3, .int p3)] := hl
  unfold M_X5_behind at h
  refine lv_aload_n hx hb dX5_behind_0 rfl (lv_at hl 0 rfl) ?_
  refine lv_iload_n hx hb dX5_behind_1 rfl (lv_at hl 1 rfl) ?_
  refine lv_iload_n hx hb dX5_behind_2 rfl (lv_at hl 2 rfl) ?_
  refine lv_iload_n hx hb dX5_behind_3 rfl (lv_at hl 3 rfl) ?_
  obtain ⟨r4, h4, h⟩ := bnd h
  refine g_calli0 (isC := [0, 1, 2, 3]) (gn := fun _ => [wRO g ad (adN 0) aK aD (adS 0) aT (adL 0) aE ro, wEV g adN nw, wSH g adS sh, wLW g adL r4.2]) (g_runV (isC := [0, 1, 2, 3]) (rest := []) (As := [.int p1, .int p2, .int p3]) X hw (c_X5_whyNotMade l (ad := ad) (adN := adN) (adS := adS) (adL := adL) (aK := aK) (aD := aD) (aT := aT) (aE := aE) h4) rfl kM_X5_whyNotMade ki_X5_whyNotMade ks_X5_whyNotMade km_X5_315 ⟨(Nat.le_of_ble_eq_true rfl), (Nat.le_of_ble_eq_true rfl)⟩ ⟨(Nat.le_of_ble_eq_true rfl), (Nat.le_of_ble_eq_true rfl)⟩ rfl rfl ⟨_, _, _, _, rfl, rfl, rfl, rfl⟩ rfl hl.1 rfl (Nat.le_of_ble_eq_true rfl) dX5_behind_4) hw rfl rfl (fun _ => (Nat.le_of_ble_eq_true rfl)) (fun _ => rfl) rfl rfl (fun _ H locs hw => ?_)
  refine lv_istore (lv' := [(4, .int r4.1), (0, .ref (ad 0)), (1, .int p1), (2, .int p2), (3, .int p3)]) hx hb dX5_behind_7 hl (by decide) rfl (fun ls hl => ?_)
  refine lv_iload hx hb dX5_behind_9 (lv_at hl 0 rfl) ?_
  refine lv_if_eq (tgt := 23) hx hb dX5_behind_11 (by decide) (fun k11 => ?_) (fun k11 => ?_)
  · have h := itt k11 h
    refine lv_aload_n hx hb dX5_behind_23 rfl (lv_at hl 1 rfl) ?_
    refine lv_iload_n hx hb dX5_behind_24 rfl (lv_at hl 2 rfl) ?_
    refine lv_iload_n hx hb dX5_behind_25 rfl (lv_at hl 3 rfl) ?_
    refine lv_iload_n hx hb dX5_behind_26 rfl (lv_at hl 4 rfl) ?_
    obtain ⟨r27, h27, h⟩ := bnd h
    refine g_calli0 (isC := [0, 1, 2]) (gn := fun _ => [wRO g ad (adN 0) aK aD (adS 0) aT (adL 0) aE ro, wEV g adN nw, wSH g adS sh, wLW g adL r4.2]) (g_runV (isC := [0, 1, 2]) (rest := []) (As := [.int p1, .int p2, .int p3]) X hw (c_X5_onBehind l (ad := ad) (adN := adN) (adS := adS) (aK := aK) (aD := aD) (aT := aT) (aL := (adL 0)) (aE := aE) h27) rfl kM_X5_onBehind ki_X5_onBehind ks_X5_onBehind km_X5_318 ⟨(Nat.le_of_ble_eq_true rfl), (Nat.le_of_ble_eq_true rfl)⟩ ⟨(Nat.le_of_ble_eq_true rfl), (Nat.le_of_ble_eq_true rfl)⟩ rfl rfl ⟨_, _, _, _, rfl, rfl, rfl, rfl⟩ rfl hl.1 rfl (Nat.le_of_ble_eq_true rfl) dX5_behind_27) hw rfl rfl (fun _ => (Nat.le_of_ble_eq_true rfl)) (fun _ => rfl) rfl rfl (fun _ H locs hw => ?_)
    have h := Option.some.inj h
    subst h
    exact hret () dX5_behind_30 rfl hw
  · have h := itf k11 h
    refine lv_aload_n hx hb dX5_behind_14 rfl (lv_at hl 1 rfl) ?_
    refine lv_iload hx hb dX5_behind_15 (lv_at hl 0 rfl) ?_
    obtain ⟨r17, h17, h⟩ := bnd h
    refine g_calli0 (isC := [0]) (gn := fun _ => [wRO g ad (adN 0) aK aD (adS 0) aT (adL 0) aE r17.2, wEV g adN nw, wSH g adS sh, wLW g adL r4.2]) (g_runV (isC := [0]) (rest := []) (As := [.int r4.1]) X hw (c_X5_refuse l (ad := ad) (aN := (adN 0)) (aK := aK) (aD := aD) (aS := (adS 0)) (aT := aT) (aL := (adL 0)) (aE := aE) h17) rfl kM_X5_refuse ki_X5_refuse ks_X5_refuse km_X5_62 ⟨(Nat.le_of_ble_eq_true rfl), (Nat.le_of_ble_eq_true rfl)⟩ ⟨(Nat.le_of_ble_eq_true rfl), (Nat.le_of_ble_eq_true rfl)⟩ rfl rfl ⟨_, _, _, _, rfl, rfl, rfl, rfl⟩ rfl hl.1 rfl (Nat.le_of_ble_eq_true rfl) dX5_behind_17) hw rfl rfl (fun _ => (Nat.le_of_ble_eq_true rfl)) (fun _ => rfl) rfl rfl (fun _ H locs hw => ?_)
    refine lv_goto (tgt := 30) hx hb dX5_behind_20 (by decide) ?_
    have h := Option.some.inj h
    subst h
    exact hret () dX5_behind_30 rfl hw
theorem kM_X5_moved : kM yX5_moved cX5_moved 6 (some FieldType.int) 3 := ⟨kc_X5_moved, kn_RingsOff, by decide +kernel⟩
abbrev R_X5_moved : Room := { frames := 7, cells := 0, slots := 0, locals := 156 }
set_option maxHeartbeats 4000000 in
set_option maxRecDepth 100000 in
theorem c_X5_moved (l : Launch) {ad : Nat → Nat} {adN : Nat → Nat} {adS : Nat → Nat} {adL : Nat → Nat} {aK : Nat} {aD : Nat} {aT : Nat} {aE : Nat} {N : Nat} {ro : RO} {nw : EV} {sh : SH} {lw : LW} {p1 : Int32} {p2 : Int32} {p3 : Int32} {out : Int32 × RO × EV × LW} (h : M_X5_moved N ro nw sh lw p1 p2 p3 = some out) : gM l yX5_moved cX5_moved 6 (some FieldType.int) R_X5_moved (fun _ => [.ref (ad 0), .int p1, .int p2, .int p3]) (fun g => [wRO g ad (adN 0) aK aD (adS 0) aT (adL 0) aE ro, wEV g adN nw, wSH g adS sh, wLW g adL lw]) (gQi (fun (_ : Unit) => out.1) (fun g (_ : Unit) => [wRO g ad (adN 0) aK aD (adS 0) aT (adL 0) aE out.2.1, wEV g adN out.2.2.1, wSH g adS sh, wLW g adL out.2.2.2])) := by
  refine gM.ofi (by decide +kernel) (fun _ => Nat.le_of_ble_eq_true rfl) (fun g p e s m args below meth c A ls Q X hret hw hl => ?_)
  have hx := X.1.1
  have hb := X.1.2.1
  have hl : lv_has ls 6 [(0, .ref (ad 0)), (1, .int p1), (2, .int p2), (3, .int p3)] := hl
  have L24 : ∀ (n : Nat) (z24 : RO × EV × LW × Int32), lp (M_X5_moved_l24 N sh p1 p2 p3) n z24 = some out → ∀ (H : Heap) (locs : List Loc) (ls : Array Slot), gW g A s.heap [wRO g ad (adN 0) aK aD (adS 0) aT (adL 0) aE z24.1, wEV g adN z24.2.1, wSH g adS sh, wLW g adL z24.2.2.1] H locs → lv_has ls 6 [(0, .ref (ad 0)), (1, .int p1), (2, .int p2), (3, .int p3), (5, .int z24.2.2.2)] → W p l e R_X5_moved s m args below meth c H locs 0 0 Q (F0 m 24 ls []) := by
    refine lp_ind ?_
    intro rec24 ih24
    intro z24 h H locs ls hw hl
    unfold M_X5_moved_l24 at h
    refine lv_iload hx hb dX5_moved_24 (lv_at hl 4 rfl) ?_
    refine lv_iload_n hx hb dX5_moved_26 rfl (lv_at hl 2 rfl) ?_
    refine lv_icmp_ge (tgt := 55) hx hb dX5_moved_27 (by decide) (fun k27 => ?_) (fun k27 => ?_)
    · have h := itt k27 h
      refine lv_aload_n hx hb dX5_moved_55 rfl (lv_at hl 0 rfl) ?_
      refine RO_g_now X hw 0 rfl kf_X5_12 dX5_moved_56 ?_
      refine lv_iload_n hx hb dX5_moved_59 rfl (lv_at hl 3 rfl) ?_
      obtain ⟨r60, h60, h⟩ := bnd h
      refine g_calli0 (isC := [1]) (gn := fun _ => [wRO g ad (adN 0) aK aD (adS 0) aT (adL 0) aE z24.1, wEV g adN z24.2.1, wSH g adS sh, wLW g adL z24.2.2.1]) (g_runVN (isC := [1]) (rest := []) (As := [.int p3]) X hw (c_X0_onOf l (ad := adN) h60) rfl kM_X0_onOf ki_X0_onOf ks_X0_onOf km_X5_122 ⟨(Nat.le_of_ble_eq_true rfl), (Nat.le_of_ble_eq_true rfl)⟩ ⟨(Nat.le_of_ble_eq_true rfl), (Nat.le_of_ble_eq_true rfl)⟩ rfl rfl ⟨_, _, _, _, rfl, rfl, rfl, rfl⟩ rfl hl.1 rfl (Nat.le_of_ble_eq_true rfl) dX5_moved_60) hw rfl rfl (fun _ => (Nat.le_of_ble_eq_true rfl)) (fun _ => rfl) rfl rfl (fun _ H locs hw => ?_)
      have h := Option.some.inj h
      subst h
      exact hret () dX5_moved_63 rfl hw
    · have h := itf k27 h
      refine lv_aload_n hx hb dX5_moved_30 rfl (lv_at hl 0 rfl) ?_
      refine RO_g_now X hw 0 rfl kf_X5_12 dX5_moved_31 ?_
      refine lv_iload_n hx hb dX5_moved_34 rfl (lv_at hl 3 rfl) ?_
      refine lv_aload_n hx hb dX5_moved_35 rfl (lv_at hl 0 rfl) ?_
      refine RO_g_shelves X hw 0 rfl kf_X5_25 dX5_moved_36 ?_
      refine lv_iload_n hx hb dX5_moved_39 rfl (lv_at hl 1 rfl) ?_
      refine lv_iload hx hb dX5_moved_40 (lv_at hl 4 rfl) ?_
      obtain ⟨r42, h42, h⟩ := bnd h
      refine g_calll0 (isC := [2]) (gn := fun _ => [wRO g ad (adN 0) aK aD (adS 0) aT (adL 0) aE z24.1, wEV g adN z24.2.1, wSH g adS sh, wLW g adL z24.2.2.1]) (g_runVN (isC := [2]) (rest := [.int p3, .ref (adN 0)]) (As := [.int p1, .int z24.2.2.2]) X hw (c_X3_cell l (ad := adS) h42) rfl kM_X3_cell ki_X3_cell ks_X3_cell km_X5_92 ⟨(Nat.le_of_ble_eq_true rfl), (Nat.le_of_ble_eq_true rfl)⟩ ⟨(Nat.le_of_ble_eq_true rfl), (Nat.le_of_ble_eq_true rfl)⟩ rfl rfl ⟨_, _, _, _, rfl, rfl, rfl, rfl⟩ rfl hl.1 rfl (Nat.le_of_ble_eq_true rfl) dX5_moved_42) hw rfl rfl (fun _ => (Nat.le_of_ble_eq_true rfl)) (fun _ => rfl) rfl rfl (fun _ H locs hw => ?_)
      refine lv_l2i (v := r42.toInt32) hx hb dX5_moved_45 rfl ?_
      obtain ⟨r46, h46, h⟩ := bnd h
      refine g_callv0 (isC := [1]) (gn := fun _ => [wRO g ad (adN 0) aK aD (adS 0) aT (adL 0) aE z24.1, wEV g adN r46, wSH g adS sh, wLW g adL z24.2.2.1]) (g_runVN (isC := [1]) (rest := []) (As := [.int p3, .int r42.toInt32]) X hw (c_X0_makeMove l (ad := adN) h46) rfl kM_X0_makeMove ki_X0_makeMove ks_X0_makeMove km_X5_226 ⟨(Nat.le_of_ble_eq_true rfl), (Nat.le_of_ble_eq_true rfl)⟩ ⟨(Nat.le_of_ble_eq_true rfl), (Nat.le_of_ble_eq_true rfl)⟩ rfl rfl ⟨_, _, _, _, rfl, rfl, rfl, rfl⟩ rfl hl.1 rfl (Nat.le_of_ble_eq_true rfl) dX5_moved_46) hw rfl rfl (fun _ => (Nat.le_of_ble_eq_true rfl)) (fun _ => rfl) rfl rfl (fun _ H locs hw => ?_)
      refine lv_iinc (v := (z24.2.2.2 + 1)) (lv' := [(5, .int (z24.2.2.2 + 1)), (0, .ref (ad 0)), (1, .int p1), (2, .int p2), (3, .int p3)]) hx hb dX5_moved_49 hl (k := 4) rfl rfl (by decide) rfl (fun ls hl => ?_)
      refine lv_goto (tgt := 24) hx hb dX5_moved_52 (by decide) ?_
      exact ih24 _ h _ _ _ hw (lv_sub hl [1, 2, 3, 4, 0] rfl)
  unfold M_X5_moved at h
  refine lv_aload_n hx hb dX5_moved_0 rfl (lv_at hl 0 rfl) ?_
  refine lv_iload_n hx hb dX5_moved_1 rfl (lv_at hl 1 rfl) ?_
  refine lv_iload_n hx hb dX5_moved_2 rfl (lv_at hl 2 rfl) ?_
  refine lv_iload_n hx hb dX5_moved_3 rfl (lv_at hl 3 rfl) ?_
  obtain ⟨r4, h4, h⟩ := bnd h
  refine g_calli0 (isC := [0, 1, 2, 3]) (gn := fun _ => [wRO g ad (adN 0) aK aD (adS 0) aT (adL 0) aE ro, wEV g adN nw, wSH g adS sh, wLW g adL r4.2]) (g_runV (isC := [0, 1, 2, 3]) (rest := []) (As := [.int p1, .int p2, .int p3]) X hw (c_X5_whyNotMade l (ad := ad) (adN := adN) (adS := adS) (adL := adL) (aK := aK) (aD := aD) (aT := aT) (aE := aE) h4) rfl kM_X5_whyNotMade ki_X5_whyNotMade ks_X5_whyNotMade km_X5_315 ⟨(Nat.le_of_ble_eq_true rfl), (Nat.le_of_ble_eq_true rfl)⟩ ⟨(Nat.le_of_ble_eq_true rfl), (Nat.le_of_ble_eq_true rfl)⟩ rfl rfl ⟨_, _, _, _, rfl, rfl, rfl, rfl⟩ rfl hl.1 rfl (Nat.le_of_ble_eq_true rfl) dX5_moved_4) hw rfl rfl (fun _ => (Nat.le_of_ble_eq_true rfl)) (fun _ => rfl) rfl rfl (fun _ H locs hw => ?_)
  refine lv_istore (lv' := [(4, .int r4.1), (0, .ref (ad 0)), (1, .int p1), (2, .int p2), (3, .int p3)]) hx hb dX5_moved_7 hl (by decide) rfl (fun ls hl => ?_)
  refine lv_iload hx hb dX5_moved_9 (lv_at hl 0 rfl) ?_
  refine lv_if_eq (tgt := 21) hx hb dX5_moved_11 (by decide) (fun k11 => ?_) (fun k11 => ?_)
  · have h := itt k11 h
    refine lv_iconst (v := 0) hx hb dX5_moved_21 (by decide) ?_
    refine lv_istore (lv' := [(5, .int (0 : Int32)), (4, .int r4.1), (0, .ref (ad 0)), (1, .int p1), (2, .int p2), (3, .int p3)]) hx hb dX5_moved_22 hl (by decide) rfl (fun ls hl => ?_)
    exact L24 N _ h _ _ _ hw (lv_sub hl [2, 3, 4, 5, 0] rfl)
  · have h := itf k11 h
    refine lv_aload_n hx hb dX5_moved_14 rfl (lv_at hl 1 rfl) ?_
    refine lv_iload hx hb dX5_moved_15 (lv_at hl 0 rfl) ?_
    obtain ⟨r17, h17, h⟩ := bnd h
    refine g_calli0 (isC := [0]) (gn := fun _ => [wRO g ad (adN 0) aK aD (adS 0) aT (adL 0) aE r17.2, wEV g adN nw, wSH g adS sh, wLW g adL r4.2]) (g_runV (isC := [0]) (rest := []) (As := [.int r4.1]) X hw (c_X5_refuse l (ad := ad) (aN := (adN 0)) (aK := aK) (aD := aD) (aS := (adS 0)) (aT := aT) (aL := (adL 0)) (aE := aE) h17) rfl kM_X5_refuse ki_X5_refuse ks_X5_refuse km_X5_62 ⟨(Nat.le_of_ble_eq_true rfl), (Nat.le_of_ble_eq_true rfl)⟩ ⟨(Nat.le_of_ble_eq_true rfl), (Nat.le_of_ble_eq_true rfl)⟩ rfl rfl ⟨_, _, _, _, rfl, rfl, rfl, rfl⟩ rfl hl.1 rfl (Nat.le_of_ble_eq_true rfl) dX5_moved_17) hw rfl rfl (fun _ => (Nat.le_of_ble_eq_true rfl)) (fun _ => rfl) rfl rfl (fun _ H locs hw => ?_)
    have h := Option.some.inj h
    subst h
    exact hret () dX5_moved_20 rfl hw
