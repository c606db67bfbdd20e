theorem kM_X0_become : kM yX0_become cX0_become 2 (none : Option Jvm.ClassFile.FieldType) 1 := ⟨kc_X0_become, kn_RingsOff_Evening, by decide +kernel⟩
abbrev R_X0_become : Room := { frames := 1, cells := 0, slots := 0, locals := 60 }
set_option maxHeartbeats 4000000 in
set_option maxRecDepth 100000 in
theorem c_X0_become (l : Launch) {ad : Nat → Nat} {ad1 : Nat → Nat} {N : Nat} {ev : EV} {ev1 : EV} {out : EV} (h : M_X0_become N ev ev1 = some out) : gM l yX0_become cX0_become 2 (none : Option Jvm.ClassFile.FieldType) R_X0_become (fun _ => [.ref (ad 0), .ref (ad1 0)]) (fun g => [wEV g ad ev, wEV g ad1 ev1]) (gQv (fun g (_ : Unit) => [wEV g ad out, wEV g ad1 ev1])) := by
  refine gM.ofv (by decide +kernel) (fun _ => Nat.le_of_ble_eq_true rfl) (fun g p e s m args below meth c A ls Q X hret hw hl => ?_)
  have hx := X.1.1
  have hb := X.1.2.1
  have hl : lv_has ls 2 [(0, .ref (ad 0)), (1, .ref (ad1 0))] := hl
  unfold M_X0_become at h
  refine lv_aload_n hx hb dX0_become_0 rfl (lv_at hl 1 rfl) ?_
  refine EV_g_kinds X hw 1 rfl kf_X0_9 dX0_become_1 ?_
  refine lv_iconst (v := 0) hx hb dX0_become_4 (by decide) ?_
  refine lv_aload_n hx hb dX0_become_5 rfl (lv_at hl 0 rfl) ?_
  refine EV_g_kinds X hw 0 rfl kf_X0_9 dX0_become_6 ?_
  refine lv_iconst (v := 0) hx hb dX0_become_9 (by decide) ?_
  refine lv_iconst (v := 4) hx hb dX0_become_10 (by decide) ?_
  obtain ⟨q11, h⟩ := chk h
  refine g_copyi (gs' := [wEV g ad (EV_s_kinds ev (va_cpy (EV_kinds ev1) (EV_kinds ev) (0 : Int32).toNatClampNeg (0 : Int32).toNatClampNeg (4 : Int32).toNatClampNeg)), wEV g ad1 ev1]) X hw 1 1 0 1 rfl rfl rfl rfl q11 km_X0_49 hl.1 (Nat.le_of_ble_eq_true rfl) (Nat.le_of_ble_eq_true rfl) dX0_become_11 rfl (fun H locs hw => ?_)
  refine lv_aload_n hx hb dX0_become_14 rfl (lv_at hl 1 rfl) ?_
  refine EV_g_sizes X hw 1 rfl kf_X0_15 dX0_become_15 ?_
  refine lv_iconst (v := 0) hx hb dX0_become_18 (by decide) ?_
  refine lv_aload_n hx hb dX0_become_19 rfl (lv_at hl 0 rfl) ?_
  refine EV_g_sizes X hw 0 rfl kf_X0_15 dX0_become_20 ?_
  refine lv_iconst (v := 0) hx hb dX0_become_23 (by decide) ?_
  refine lv_iconst (v := 4) hx hb dX0_become_24 (by decide) ?_
  obtain ⟨q25, h⟩ := chk h
  refine g_copyi (gs' := [wEV g ad (EV_s_sizes (EV_s_kinds ev (va_cpy (EV_kinds ev1) (EV_kinds ev) (0 : Int32).toNatClampNeg (0 : Int32).toNatClampNeg (4 : Int32).toNatClampNeg)) (va_cpy (EV_sizes ev1) (EV_sizes (EV_s_kinds ev (va_cpy (EV_kinds ev1) (EV_kinds ev) (0 : Int32).toNatClampNeg (0 : Int32).toNatClampNeg (4 : Int32).toNatClampNeg))) (0 : Int32).toNatClampNeg (0 : Int32).toNatClampNeg (4 : Int32).toNatClampNeg)), wEV g ad1 ev1]) X hw 1 2 0 2 rfl rfl rfl rfl q25 km_X0_49 hl.1 (Nat.le_of_ble_eq_true rfl) (Nat.le_of_ble_eq_true rfl) dX0_become_25 rfl (fun H locs hw => ?_)
  refine lv_aload_n hx hb dX0_become_28 rfl (lv_at hl 1 rfl) ?_
  refine EV_g_ons X hw 1 rfl kf_X0_18 dX0_become_29 ?_
  refine lv_iconst (v := 0) hx hb dX0_become_32 (by decide) ?_
  refine lv_aload_n hx hb dX0_become_33 rfl (lv_at hl 0 rfl) ?_
  refine EV_g_ons X hw 0 rfl kf_X0_18 dX0_become_34 ?_
  refine lv_iconst (v := 0) hx hb dX0_become_37 (by decide) ?_
  refine lv_iconst (v := 4) hx hb dX0_become_38 (by decide) ?_
  obtain ⟨q39, h⟩ := chk h
  refine g_copyi (gs' := [wEV g ad (EV_s_ons (EV_s_sizes (EV_s_kinds ev (va_cpy (EV_kinds ev1) (EV_kinds ev) (0 : Int32).toNatClampNeg (0 : Int32).toNatClampNeg (4 : Int32).toNatClampNeg)) (va_cpy (EV_sizes ev1) (EV_sizes (EV_s_kinds ev (va_cpy (EV_kinds ev1) (EV_kinds ev) (0 : Int32).toNatClampNeg (0 : Int32).toNatClampNeg (4 : Int32).toNatClampNeg))) (0 : Int32).toNatClampNeg (0 : Int32).toNatClampNeg (4 : Int32).toNatClampNeg)) (va_cpy (EV_ons ev1) (EV_ons (EV_s_sizes (EV_s_kinds ev (va_cpy (EV_kinds ev1) (EV_kinds ev) (0 : Int32).toNatClampNeg (0 : Int32).toNatClampNeg (4 : Int32).toNatClampNeg)) (va_cpy (EV_sizes ev1) (EV_sizes (EV_s_kinds ev (va_cpy (EV_kinds ev1) (EV_kinds ev) (0 : Int32).toNatClampNeg (0 : Int32).toNatClampNeg (4 : Int32).toNatClampNeg))) (0 : Int32).toNatClampNeg (0 : Int32).toNatClampNeg (4 : Int32).toNatClampNeg))) (0 : Int32).toNatClampNeg (0 : Int32).toNatClampNeg (4 : Int32).toNatClampNeg)), wEV g ad1 ev1]) X hw 1 3 0 3 rfl rfl rfl rfl q39 km_X0_49 hl.1 (Nat.le_of_ble_eq_true rfl) (Nat.le_of_ble_eq_true rfl) dX0_become_39 rfl (fun H locs hw => ?_)
  refine lv_aload_n hx hb dX0_become_42 rfl (lv_at hl 1 rfl) ?_
  refine EV_g_stucks X hw 1 rfl kf_X0_21 dX0_become_43 ?_
  refine lv_iconst (v := 0) hx hb dX0_become_46 (by decide) ?_
  refine lv_aload_n hx hb dX0_become_47 rfl (lv_at hl 0 rfl) ?_
  refine EV_g_stucks X hw 0 rfl kf_X0_21 dX0_become_48 ?_
  refine lv_iconst (v := 0) hx hb dX0_become_51 (by decide) ?_
  refine lv_iconst (v := 4) hx hb dX0_become_52 (by decide) ?_
  obtain ⟨q53, h⟩ := chk h
  refine g_copyi (gs' := [wEV g ad (EV_s_stucks (EV_s_ons (EV_s_sizes (EV_s_kinds ev (va_cpy (EV_kinds ev1) (EV_kinds ev) (0 : Int32).toNatClampNeg (0 : Int32).toNatClampNeg (4 : Int32).toNatClampNeg)) (va_cpy (EV_sizes ev1) (EV_sizes (EV_s_kinds ev (va_cpy (EV_kinds ev1) (EV_kinds ev) (0 : Int32).toNatClampNeg (0 : Int32).toNatClampNeg (4 : Int32).toNatClampNeg))) (0 : Int32).toNatClampNeg (0 : Int32).toNatClampNeg (4 : Int32).toNatClampNeg)) (va_cpy (EV_ons ev1) (EV_ons (EV_s_sizes (EV_s_kinds ev (va_cpy (EV_kinds ev1) (EV_kinds ev) (0 : Int32).toNatClampNeg (0 : Int32).toNatClampNeg (4 : Int32).toNatClampNeg)) (va_cpy (EV_sizes ev1) (EV_sizes (EV_s_kinds ev (va_cpy (EV_kinds ev1) (EV_kinds ev) (0 : Int32).toNatClampNeg (0 : Int32).toNatClampNeg (4 : Int32).toNatClampNeg))) (0 : Int32).toNatClampNeg (0 : Int32).toNatClampNeg (4 : Int32).toNatClampNeg))) (0 : Int32).toNatClampNeg (0 : Int32).toNatClampNeg (4 : Int32).toNatClampNeg)) (va_cpy (EV_stucks ev1) (EV_stucks (EV_s_ons (EV_s_sizes (EV_s_kinds ev (va_cpy (EV_kinds ev1) (EV_kinds ev) (0 : Int32).toNatClampNeg (0 : Int32).toNatClampNeg (4 : Int32).toNatClampNeg)) (va_cpy (EV_sizes ev1) (EV_sizes (EV_s_kinds ev (va_cpy (EV_kinds ev1) (EV_kinds ev) (0 : Int32).toNatClampNeg (0 : Int32).toNatClampNeg (4 : Int32).toNatClampNeg))) (0 : Int32).toNatClampNeg (0 : Int32).toNatClampNeg (4 : Int32).toNatClampNeg)) (va_cpy (EV_ons ev1) (EV_ons (EV_s_sizes (EV_s_kinds ev (va_cpy (EV_kinds ev1) (EV_kinds ev) (0 : Int32).toNatClampNeg (0 : Int32).toNatClampNeg (4 : Int32).toNatClampNeg)) (va_cpy (EV_sizes ev1) (EV_sizes (EV_s_kinds ev (va_cpy (EV_kinds ev1) (EV_kinds ev) (0 : Int32).toNatClampNeg (0 : Int32).toNatClampNeg (4 : Int32).toNatClampNeg))) (0 : Int32).toNatClampNeg (0 : Int32).toNatClampNeg (4 : Int32).toNatClampNeg))) (0 : Int32).toNatClampNeg (0 : Int32).toNatClampNeg (4 : Int32).toNatClampNeg))) (0 : Int32).toNatClampNeg (0 : Int32).toNatClampNeg (4 : Int32).toNatClampNeg)), wEV g ad1 ev1]) X hw 1 4 0 4 rfl rfl rfl rfl q53 km_X0_49 hl.1 (Nat.le_of_ble_eq_true rfl) (Nat.le_of_ble_eq_true rfl) dX0_become_53 rfl (fun H locs hw => ?_)
  refine lv_aload_n hx hb dX0_become_56 rfl (lv_at hl 1 rfl) ?_
  refine EV_g_musts X hw 1 rfl kf_X0_24 dX0_become_57 ?_
  refine lv_iconst (v := 0) hx hb dX0_become_60 (by decide) ?_
  refine lv_aload_n hx hb dX0_become_61 rfl (lv_at hl 0 rfl) ?_
  refine EV_g_musts X hw 0 rfl kf_X0_24 dX0_become_62 ?_
  refine lv_iconst (v := 0) hx hb dX0_become_65 (by decide) ?_
  refine lv_bipush (v := 40) hx hb dX0_become_66 (by decide) ?_
  obtain ⟨q68, h⟩ := chk h
  refine g_copyi (gs' := [wEV g ad (EV_s_musts (EV_s_stucks (EV_s_ons (EV_s_sizes (EV_s_kinds ev (va_cpy (EV_kinds ev1) (EV_kinds ev) (0 : Int32).toNatClampNeg (0 : Int32).toNatClampNeg (4 : Int32).toNatClampNeg)) (va_cpy (EV_sizes ev1) (EV_sizes (EV_s_kinds ev (va_cpy (EV_kinds ev1) (EV_kinds ev) (0 : Int32).toNatClampNeg (0 : Int32).toNatClampNeg (4 : Int32).toNatClampNeg))) (0 : Int32).toNatClampNeg (0 : Int32).toNatClampNeg (4 : Int32).toNatClampNeg)) (va_cpy (EV_ons ev1) (EV_ons (EV_s_sizes (EV_s_kinds ev (va_cpy (EV_kinds ev1) (EV_kinds ev) (0 : Int32).toNatClampNeg (0 : Int32).toNatClampNeg (4 : Int32).toNatClampNeg)) (va_cpy (EV_sizes ev1) (EV_sizes (EV_s_kinds ev (va_cpy (EV_kinds ev1) (EV_kinds ev) (0 : Int32).toNatClampNeg (0 : Int32).toNatClampNeg (4 : Int32).toNatClampNeg))) (0 : Int32).toNatClampNeg (0 : Int32).toNatClampNeg (4 : Int32).toNatClampNeg))) (0 : Int32).toNatClampNeg (0 : Int32).toNatClampNeg (4 : Int32).toNatClampNeg)) (va_cpy (EV_stucks ev1) (EV_stucks (EV_s_ons (EV_s_sizes (EV_s_kinds ev (va_cpy (EV_kinds ev1) (EV_kinds ev) (0 : Int32).toNatClampNeg (0 : Int32).toNatClampNeg (4 : Int32).toNatClampNeg)) (va_cpy (EV_sizes ev1) (EV_sizes (EV_s_kinds ev (va_cpy (EV_kinds ev1) (EV_kinds ev) (0 : Int32).toNatClampNeg (0 : Int32).toNatClampNeg (4 : Int32).toNatClampNeg))) (0 : Int32).toNatClampNeg (0 : Int32).toNatClampNeg (4 : Int32).toNatClampNeg)) (va_cpy (EV_ons ev1) (EV_ons (EV_s_sizes (EV_s_kinds ev (va_cpy (EV_kinds ev1) (EV_kinds ev) (0 : Int32).toNatClampNeg (0 : Int32).toNatClampNeg (4 : Int32).toNatClampNeg)) (va_cpy (EV_sizes ev1) (EV_sizes (EV_s_kinds ev (va_cpy (EV_kinds ev1) (EV_kinds ev) (0 : Int32).toNatClampNeg (0 : Int32).toNatClampNeg (4 : Int32).toNatClampNeg))) (0 : Int32).toNatClampNeg (0 : Int32).toNatClampNeg (4 : Int32).toNatClampNeg))) (0 : Int32).toNatClampNeg (0 : Int32).toNatClampNeg (4 : Int32).toNatClampNeg))) (0 : Int32).toNatClampNeg (0 : Int32).toNatClampNeg (4 : Int32).toNatClampNeg)) (va_cpy (EV_musts ev1) (EV_musts (EV_s_stucks (EV_s_ons (EV_s_sizes (EV_s_kinds ev (va_cpy (EV_kinds ev1) (EV_kinds ev) (0 : Int32).toNatClampNeg (0 : Int32).toNatClampNeg (4 : Int32).toNatClampNeg)) (va_cpy (EV_sizes ev1) (EV_sizes (EV_s_kinds ev (va_cpy (EV_kinds ev1) (EV_kinds ev) (0 : Int32).toNatClampNeg (0 : Int32).toNatClampNeg (4 : Int32).toNatClampNeg))) (0 : Int32).toNatClampNeg (0 : Int32).toNatClampNeg (4 : Int32).toNatClampNeg)) (va_cpy (EV_ons ev1) (EV_ons (EV_s_sizes (EV_s_kinds ev (va_cpy (EV_kinds ev1) (EV_kinds ev) (0 : Int32).toNatClampNeg (0 : Int32).toNatClampNeg (4 : Int32).toNatClampNeg)) (va_cpy (EV_sizes ev1) (EV_sizes (EV_s_kinds ev (va_cpy (EV_kinds ev1) (EV_kinds ev) (0 : Int32).toNatClampNeg (0 : Int32).toNatClampNeg (4 : Int32).toNatClampNeg))) (0 : Int32).toNatClampNeg (0 : Int32).toNatClampNeg (4 : Int32).toNatClampNeg))) (0 : Int32).toNatClampNeg (0 : Int32).toNatClampNeg (4 : Int32).toNatClampNeg)) (va_cpy (EV_stucks ev1) (EV_stucks (EV_s_ons (EV_s_sizes (EV_s_kinds ev (va_cpy (EV_kinds ev1) (EV_kinds ev) (0 : Int32).toNatClampNeg (0 : Int32).toNatClampNeg (4 : Int32).toNatClampNeg)) (va_cpy (EV_sizes ev1) (EV_sizes (EV_s_kinds ev (va_cpy (EV_kinds ev1) (EV_kinds ev) (0 : Int32).toNatClampNeg (0 : Int32).toNatClampNeg (4 : Int32).toNatClampNeg))) (0 : Int32).toNatClampNeg (0 : Int32).toNatClampNeg (4 : Int32).toNatClampNeg)) (va_cpy (EV_ons ev1) (EV_ons (EV_s_sizes (EV_s_kinds ev (va_cpy (EV_kinds ev1) (EV_kinds ev) (0 : Int32).toNatClampNeg (0 : Int32).toNatClampNeg (4 : Int32).toNatClampNeg)) (va_cpy (EV_sizes ev1) (EV_sizes (EV_s_kinds ev (va_cpy (EV_kinds ev1) (EV_kinds ev) (0 : Int32).toNatClampNeg (0 : Int32).toNatClampNeg (4 : Int32).toNatClampNeg))) (0 : Int32).toNatClampNeg (0 : Int32).toNatClampNeg (4 : Int32).toNatClampNeg))) (0 : Int32).toNatClampNeg (0 : Int32).toNatClampNeg (4 : Int32).toNatClampNeg))) (0 : Int32).toNatClampNeg (0 : Int32).toNatClampNeg (4 : Int32).toNatClampNeg))) (0 : Int32).toNatClampNeg (0 : Int32).toNatClampNeg (40 : Int32).toNatClampNeg)), wEV g ad1 ev1]) X hw 1 5 0 5 rfl rfl rfl rfl q68 km_X0_49 hl.1 (Nat.le_of_ble_eq_true rfl) (Nat.le_of_ble_eq_true rfl) dX0_become_68 rfl (fun H locs hw => ?_)
  refine lv_aload_n hx hb dX0_become_71 rfl (lv_at hl 1 rfl) ?_
  refine EV_g_nots X hw 1 rfl kf_X0_27 dX0_become_72 ?_
  refine lv_iconst (v := 0) hx hb dX0_become_75 (by decide) ?_
  refine lv_aload_n hx hb dX0_become_76 rfl (lv_at hl 0 rfl) ?_
  refine EV_g_nots X hw 0 rfl kf_X0_27 dX0_become_77 ?_
  refine lv_iconst (v := 0) hx hb dX0_become_80 (by decide) ?_
  refine lv_bipush (v := 40) hx hb dX0_become_81 (by decide) ?_
  obtain ⟨q83, h⟩ := chk h
  refine g_copyi (gs' := [wEV g ad (EV_s_nots (EV_s_musts (EV_s_stucks (EV_s_ons (EV_s_sizes (EV_s_kinds ev (va_cpy (EV_kinds ev1) (EV_kinds ev) (0 : Int32).toNatClampNeg (0 : Int32).toNatClampNeg (4 : Int32).toNatClampNeg)) (va_cpy (EV_sizes ev1) (EV_sizes (EV_s_kinds ev (va_cpy (EV_kinds ev1) (EV_kinds ev) (0 : Int32).toNatClampNeg (0 : Int32).toNatClampNeg (4 : Int32).toNatClampNeg))) (0 : Int32).toNatClampNeg (0 : Int32).toNatClampNeg (4 : Int32).toNatClampNeg)) (va_cpy (EV_ons ev1) (EV_ons (EV_s_sizes (EV_s_kinds ev (va_cpy (EV_kinds ev1) (EV_kinds ev) (0 : Int32).toNatClampNeg (0 : Int32).toNatClampNeg (4 : Int32).toNatClampNeg)) (va_cpy (EV_sizes ev1) (EV_sizes (EV_s_kinds ev (va_cpy (EV_kinds ev1) (EV_kinds ev) (0 : Int32).toNatClampNeg (0 : Int32).toNatClampNeg (4 : Int32).toNatClampNeg))) (0 : Int32).toNatClampNeg (0 : Int32).toNatClampNeg (4 : Int32).toNatClampNeg))) (0 : Int32).toNatClampNeg (0 : Int32).toNatClampNeg (4 : Int32).toNatClampNeg)) (va_cpy (EV_stucks ev1) (EV_stucks (EV_s_ons (EV_s_sizes (EV_s_kinds ev (va_cpy (EV_kinds ev1) (EV_kinds ev) (0 : Int32).toNatClampNeg (0 : Int32).toNatClampNeg (4 : Int32).toNatClampNeg)) (va_cpy (EV_sizes ev1) (EV_sizes (EV_s_kinds ev (va_cpy (EV_kinds ev1) (EV_kinds ev) (0 : Int32).toNatClampNeg (0 : Int32).toNatClampNeg (4 : Int32).toNatClampNeg))) (0 : Int32).toNatClampNeg (0 : Int32).toNatClampNeg (4 : Int32).toNatClampNeg)) (va_cpy (EV_ons ev1) (EV_ons (EV_s_sizes (EV_s_kinds ev (va_cpy (EV_kinds ev1) (EV_kinds ev) (0 : Int32).toNatClampNeg (0 : Int32).toNatClampNeg (4 : Int32).toNatClampNeg)) (va_cpy (EV_sizes ev1) (EV_sizes (EV_s_kinds ev (va_cpy (EV_kinds ev1) (EV_kinds ev) (0 : Int32).toNatClampNeg (0 : Int32).toNatClampNeg (4 : Int32).toNatClampNeg))) (0 : Int32).toNatClampNeg (0 : Int32).toNatClampNeg (4 : Int32).toNatClampNeg))) (0 : Int32).toNatClampNeg (0 : Int32).toNatClampNeg (4 : Int32).toNatClampNeg))) (0 : Int32).toNatClampNeg (0 : Int32).toNatClampNeg (4 : Int32).toNatClampNeg)) (va_cpy (EV_musts ev1) (EV_musts (EV_s_stucks (EV_s_ons (EV_s_sizes (EV_s_kinds ev (va_cpy (EV_kinds ev1) (EV_kinds ev) (0 : Int32).toNatClampNeg (0 : Int32).toNatClampNeg (4 : Int32).toNatClampNeg)) (va_cpy (EV_sizes ev1) (EV_sizes (EV_s_kinds ev (va_cpy (EV_kinds ev1) (EV_kinds ev) (0 : Int32).toNatClampNeg (0 : Int32).toNatClampNeg (4 : Int32).toNatClampNeg))) (0 : Int32).toNatClampNeg (0 : Int32).toNatClampNeg (4 : Int32).toNatClampNeg)) (va_cpy (EV_ons ev1) (EV_ons (EV_s_sizes (EV_s_kinds ev (va_cpy (EV_kinds ev1) (EV_kinds ev) (0 : Int32).toNatClampNeg (0 : Int32).toNatClampNeg (4 : Int32).toNatClampNeg)) (va_cpy (EV_sizes ev1) (EV_sizes (EV_s_kinds ev (va_cpy (EV_kinds ev1) (EV_kinds ev) (0 : Int32).toNatClampNeg (0 : Int32).toNatClampNeg (4 : Int32).toNatClampNeg))) (0 : Int32).toNatClampNeg (0 : Int32).toNatClampNeg (4 : Int32).toNatClampNeg))) (0 : Int32).toNatClampNeg (0 : Int32).toNatClampNeg (4 : Int32).toNatClampNeg)) (va_cpy (EV_stucks ev1) (EV_stucks (EV_s_ons (EV_s_sizes (EV_s_kinds ev (va_cpy (EV_kinds ev1) (EV_kinds ev) (0 : Int32).toNatClampNeg (0 : Int32).toNatClampNeg (4 : Int32).toNatClampNeg)) (va_cpy (EV_sizes ev1) (EV_sizes (EV_s_kinds ev (va_cpy (EV_kinds ev1) (EV_kinds ev) (0 : Int32).toNatClampNeg (0 : Int32).toNatClampNeg (4 : Int32).toNatClampNeg))) (0 : Int32).toNatClampNeg (0 : Int32).toNatClampNeg (4 : Int32).toNatClampNeg)) (va_cpy (EV_ons ev1) (EV_ons (EV_s_sizes (EV_s_kinds ev (va_cpy (EV_kinds ev1) (EV_kinds ev) (0 : Int32).toNatClampNeg (0 : Int32).toNatClampNeg (4 : Int32).toNatClampNeg)) (va_cpy (EV_sizes ev1) (EV_sizes (EV_s_kinds ev (va_cpy (EV_kinds ev1) (EV_kinds ev) (0 : Int32).toNatClampNeg (0 : Int32).toNatClampNeg (4 : Int32).toNatClampNeg))) (0 : Int32).toNatClampNeg (0 : Int32).toNatClampNeg (4 : Int32).toNatClampNeg))) (0 : Int32).toNatClampNeg (0 : Int32).toNatClampNeg (4 : Int32).toNatClampNeg))) (0 : Int32).toNatClampNeg (0 : Int32).toNatClampNeg (4 : Int32).toNatClampNeg))) (0 : Int32).toNatClampNeg (0 : Int32).toNatClampNeg (40 : Int32).toNatClampNeg)) (va_cpy (EV_nots ev1) (EV_nots (EV_s_musts (EV_s_stucks (EV_s_ons (EV_s_sizes (EV_s_kinds ev (va_cpy (EV_kinds ev1) (EV_kinds ev) (0 : Int32).toNatClampNeg (0 : Int32).toNatClampNeg (4 : Int32).toNatClampNeg)) (va_cpy (EV_sizes ev1) (EV_sizes (EV_s_kinds ev (va_cpy (EV_kinds ev1) (EV_kinds ev) (0 : Int32).toNatClampNeg (0 : Int32).toNatClampNeg (4 : Int32).toNatClampNeg))) (0 : Int32).toNatClampNeg (0 : Int32).toNatClampNeg (4 : Int32).toNatClampNeg)) (va_cpy (EV_ons ev1) (EV_ons (EV_s_sizes (EV_s_kinds ev (va_cpy (EV_kinds ev1) (EV_kinds ev) (0 : Int32).toNatClampNeg (0 : Int32).toNatClampNeg (4 : Int32).toNatClampNeg)) (va_cpy (EV_sizes ev1) (EV_sizes (EV_s_kinds ev (va_cpy (EV_kinds ev1) (EV_kinds ev) (0 : Int32).toNatClampNeg (0 : Int32).toNatClampNeg (4 : Int32).toNatClampNeg))) (0 : Int32).toNatClampNeg (0 : Int32).toNatClampNeg (4 : Int32).toNatClampNeg))) (0 : Int32).toNatClampNeg (0 : Int32).toNatClampNeg (4 : Int32).toNatClampNeg)) (va_cpy (EV_stucks ev1) (EV_stucks (EV_s_ons (EV_s_sizes (EV_s_kinds ev (va_cpy (EV_kinds ev1) (EV_kinds ev) (0 : Int32).toNatClampNeg (0 : Int32).toNatClampNeg (4 : Int32).toNatClampNeg)) (va_cpy (EV_sizes ev1) (EV_sizes (EV_s_kinds ev (va_cpy (EV_kinds ev1) (EV_kinds ev) (0 : Int32).toNatClampNeg (0 : Int32).toNatClampNeg (4 : Int32).toNatClampNeg))) (0 : Int32).toNatClampNeg (0 : Int32).toNatClampNeg (4 : Int32).toNatClampNeg)) (va_cpy (EV_ons ev1) (EV_ons (EV_s_sizes (EV_s_kinds ev (va_cpy (EV_kinds ev1) (EV_kinds ev) (0 : Int32).toNatClampNeg (0 : Int32).toNatClampNeg (4 : Int32).toNatClampNeg)) (va_cpy (EV_sizes ev1) (EV_sizes (EV_s_kinds ev (va_cpy (EV_kinds ev1) (EV_kinds ev) (0 : Int32).toNatClampNeg (0 : Int32).toNatClampNeg (4 : Int32).toNatClampNeg))) (0 : Int32).toNatClampNeg (0 : Int32).toNatClampNeg (4 : Int32).toNatClampNeg))) (0 : Int32).toNatClampNeg (0 : Int32).toNatClampNeg (4 : Int32).toNatClampNeg))) (0 : Int32).toNatClampNeg (0 : Int32).toNatClampNeg (4 : Int32).toNatClampNeg)) (va_cpy (EV_musts ev1) (EV_musts (EV_s_stucks (EV_s_ons (EV_s_sizes (EV_s_kinds ev (va_cpy (EV_kinds ev1) (EV_kinds ev) (0 : Int32).toNatClampNeg (0 : Int32).toNatClampNeg (4 : Int32).toNatClampNeg)) (va_cpy (EV_sizes ev1) (EV_sizes (EV_s_kinds ev (va_cpy (EV_kinds ev1) (EV_kinds ev) (0 : Int32).toNatClampNeg (0 : Int32).toNatClampNeg (4 : Int32).toNatClampNeg))) (0 : Int32).toNatClampNeg (0 : Int32).toNatClampNeg (4 : Int32).toNatClampNeg)) (va_cpy (EV_ons ev1) (EV_ons (EV_s_sizes (EV_s_kinds ev (va_cpy (EV_kinds ev1) (EV_kinds ev) (0 : Int32).toNatClampNeg (0 : Int32).toNatClampNeg (4 : Int32).toNatClampNeg)) (va_cpy (EV_sizes ev1) (EV_sizes (EV_s_kinds ev (va_cpy (EV_kinds ev1) (EV_kinds ev) (0 : Int32).toNatClampNeg (0 : Int32).toNatClampNeg (4 : Int32).toNatClampNeg))) (0 : Int32).toNatClampNeg (0 : Int32).toNatClampNeg (4 : Int32).toNatClampNeg))) (0 : Int32).toNatClampNeg (0 : Int32).toNatClampNeg (4 : Int32).toNatClampNeg)) (va_cpy (EV_stucks ev1) (EV_stucks (EV_s_ons (EV_s_sizes (EV_s_kinds ev (va_cpy (EV_kinds ev1) (EV_kinds ev) (0 : Int32).toNatClampNeg (0 : Int32).toNatClampNeg (4 : Int32).toNatClampNeg)) (va_cpy (EV_sizes ev1) (EV_sizes (EV_s_kinds ev (va_cpy (EV_kinds ev1) (EV_kinds ev) (0 : Int32).toNatClampNeg (0 : Int32).toNatClampNeg (4 : Int32).toNatClampNeg))) (0 : Int32).toNatClampNeg (0 : Int32).toNatClampNeg (4 : Int32).toNatClampNeg)) (va_cpy (EV_ons ev1) (EV_ons (EV_s_sizes (EV_s_kinds ev (va_cpy (EV_kinds ev1) (EV_kinds ev) (0 : Int32).toNatClampNeg (0 : Int32).toNatClampNeg (4 : Int32).toNatClampNeg)) (va_cpy (EV_sizes ev1) (EV_sizes (EV_s_kinds ev (va_cpy (EV_kinds ev1) (EV_kinds ev) (0 : Int32).toNatClampNeg (0 : Int32).toNatClampNeg (4 : Int32).toNatClampNeg))) (0 : Int32).toNatClampNeg (0 : Int32).toNatClampNeg (4 : Int32).toNatClampNeg))) (0 : Int32).toNatClampNeg (0 : Int32).toNatClampNeg (4 : Int32).toNatClampNeg))) (0 : Int32).toNatClampNeg (0 : Int32).toNatClampNeg (4 : Int32).toNatClampNeg))) (0 : Int32).toNatClampNeg (0 : Int32).toNatClampNeg (40 : Int32).toNatClampNeg))) (0 : Int32).toNatClampNeg (0 : Int32).toNatClampNeg (40 : Int32).toNatClampNeg)), wEV g ad1 ev1]) X hw 1 6 0 6 rfl rfl rfl rfl q83 km_X0_49 hl.1 (Nat.le_of_ble_eq_true rfl) (Nat.le_of_ble_eq_true rfl) dX0_become_83 rfl (fun H locs hw => ?_)
  refine lv_aload_n hx hb dX0_become_86 rfl (lv_at hl 1 rfl) ?_
  refine EV_g_ringMinutes X hw 1 rfl kf_X0_30 dX0_become_87 ?_
  refine lv_iconst (v := 0) hx hb dX0_become_90 (by decide) ?_
  refine lv_aload_n hx hb dX0_become_91 rfl (lv_at hl 0 rfl) ?_
  refine EV_g_ringMinutes X hw 0 rfl kf_X0_30 dX0_become_92 ?_
  refine lv_iconst (v := 0) hx hb dX0_become_95 (by decide) ?_
  refine lv_bipush (v := 10) hx hb dX0_become_96 (by decide) ?_
  obtain ⟨q98, h⟩ := chk h
  refine g_copyi (gs' := [wEV g ad (EV_s_ringMinutes (EV_s_nots (EV_s_musts (EV_s_stucks (EV_s_ons (EV_s_sizes (EV_s_kinds ev (va_cpy (EV_kinds ev1) (EV_kinds ev) (0 : Int32).toNatClampNeg (0 : Int32).toNatClampNeg (4 : Int32).toNatClampNeg)) (va_cpy (EV_sizes ev1) (EV_sizes (EV_s_kinds ev (va_cpy (EV_kinds ev1) (EV_kinds ev) (0 : Int32).toNatClampNeg (0 : Int32).toNatClampNeg (4 : Int32).toNatClampNeg))) (0 : Int32).toNatClampNeg (0 : Int32).toNatClampNeg (4 : Int32).toNatClampNeg)) (va_cpy (EV_ons ev1) (EV_ons (EV_s_sizes (EV_s_kinds ev (va_cpy (EV_kinds ev1) (EV_kinds ev) (0 : Int32).toNatClampNeg (0 : Int32).toNatClampNeg (4 : Int32).toNatClampNeg)) (va_cpy (EV_sizes ev1) (EV_sizes (EV_s_kinds ev (va_cpy (EV_kinds ev1) (EV_kinds ev) (0 : Int32).toNatClampNeg (0 : Int32).toNatClampNeg (4 : Int32).toNatClampNeg))) (0 : Int32).toNatClampNeg (0 : Int32).toNatClampNeg (4 : Int32).toNatClampNeg))) (0 : Int32).toNatClampNeg (0 : Int32).toNatClampNeg (4 : Int32).toNatClampNeg)) (va_cpy (EV_stucks ev1) (EV_stucks (EV_s_ons (EV_s_sizes (EV_s_kinds ev (va_cpy (EV_kinds ev1) (EV_kinds ev) (0 : Int32).toNatClampNeg (0 : Int32).toNatClampNeg (4 : Int32).toNatClampNeg)) (va_cpy (EV_sizes ev1) (EV_sizes (EV_s_kinds ev (va_cpy (EV_kinds ev1) (EV_kinds ev) (0 : Int32).toNatClampNeg (0 : Int32).toNatClampNeg (4 : Int32).toNatClampNeg))) (0 : Int32).toNatClampNeg (0 : Int32).toNatClampNeg (4 : Int32).toNatClampNeg)) (va_cpy (EV_ons ev1) (EV_ons (EV_s_sizes (EV_s_kinds ev (va_cpy (EV_kinds ev1) (EV_kinds ev) (0 : Int32).toNatClampNeg (0 : Int32).toNatClampNeg (4 : Int32).toNatClampNeg)) (va_cpy (EV_sizes ev1) (EV_sizes (EV_s_kinds ev (va_cpy (EV_kinds ev1) (EV_kinds ev) (0 : Int32).toNatClampNeg (0 : Int32).toNatClampNeg (4 : Int32).toNatClampNeg))) (0 : Int32).toNatClampNeg (0 : Int32).toNatClampNeg (4 : Int32).toNatClampNeg))) (0 : Int32).toNatClampNeg (0 : Int32).toNatClampNeg (4 : Int32).toNatClampNeg))) (0 : Int32).toNatClampNeg (0 : Int32).toNatClampNeg (4 : Int32).toNatClampNeg)) (va_cpy (EV_musts ev1) (EV_musts (EV_s_stucks (EV_s_ons (EV_s_sizes (EV_s_kinds ev (va_cpy (EV_kinds ev1) (EV_kinds ev) (0 : Int32).toNatClampNeg (0 : Int32).toNatClampNeg (4 : Int32).toNatClampNeg)) (va_cpy (EV_sizes ev1) (EV_sizes (EV_s_kinds ev (va_cpy (EV_kinds ev1) (EV_kinds ev) (0 : Int32).toNatClampNeg (0 : Int32).toNatClampNeg (4 : Int32).toNatClampNeg))) (0 : Int32).toNatClampNeg (0 : Int32).toNatClampNeg (4 : Int32).toNatClampNeg)) (va_cpy (EV_ons ev1) (EV_ons (EV_s_sizes (EV_s_kinds ev (va_cpy (EV_kinds ev1) (EV_kinds ev) (0 : Int32).toNatClampNeg (0 : Int32).toNatClampNeg (4 : Int32).toNatClampNeg)) (va_cpy (EV_sizes ev1) (EV_sizes (EV_s_kinds ev (va_cpy (EV_kinds ev1) (EV_kinds ev) (0 : Int32).toNatClampNeg (0 : Int32).toNatClampNeg (4 : Int32).toNatClampNeg))) (0 : Int32).toNatClampNeg (0 : Int32).toNatClampNeg (4 : Int32).toNatClampNeg))) (0 : Int32).toNatClampNeg (0 : Int32).toNatClampNeg (4 : Int32).toNatClampNeg)) (va_cpy (EV_stucks ev1) (EV_stucks (EV_s_ons (EV_s_sizes (EV_s_kinds ev (va_cpy (EV_kinds ev1) (EV_kinds ev) (0 : Int32).toNatClampNeg (0 : Int32).toNatClampNeg (4 : Int32).toNatClampNeg)) (va_cpy (EV_sizes ev1) (EV_sizes (EV_s_kinds ev (va_cpy (EV_kinds ev1) (EV_kinds ev) (0 : Int32).toNatClampNeg (0 : Int32).toNatClampNeg (4 : Int32).toNatClampNeg))) (0 : Int32).toNatClampNeg (0 : Int32).toNatClampNeg (4 : Int32).toNatClampNeg)) (va_cpy (EV_ons ev1) (EV_ons (EV_s_sizes (EV_s_kinds ev (va_cpy (EV_kinds ev1) (EV_kinds ev) (0 : Int32).toNatClampNeg (0 : Int32).toNatClampNeg (4 : Int32).toNatClampNeg)) (va_cpy (EV_sizes ev1) (EV_sizes (EV_s_kinds ev (va_cpy (EV_kinds ev1) (EV_kinds ev) (0 : Int32).toNatClampNeg (0 : Int32).toNatClampNeg (4 : Int32).toNatClampNeg))) (0 : Int32).toNatClampNeg (0 : Int32).toNatClampNeg (4 : Int32).toNatClampNeg))) (0 : Int32).toNatClampNeg (0 : Int32).toNatClampNeg (4 : Int32).toNatClampNeg))) (0 : Int32).toNatClampNeg (0 : Int32).toNatClampNeg (4 : Int32).toNatClampNeg))) (0 : Int32).toNatClampNeg (0 : Int32).toNatClampNeg (40 : Int32).toNatClampNeg)) (va_cpy (EV_nots ev1) (EV_nots (EV_s_musts (EV_s_stucks (EV_s_ons (EV_s_sizes (EV_s_kinds ev (va_cpy (EV_kinds ev1) (EV_kinds ev) (0 : Int32).toNatClampNeg (0 : Int32).toNatClampNeg (4 : Int32).toNatClampNeg)) (va_cpy (EV_sizes ev1) (EV_sizes (EV_s_kinds ev (va_cpy (EV_kinds ev1) (EV_kinds ev) (0 : Int32).toNatClampNeg (0 : Int32).toNatClampNeg (4 : Int32).toNatClampNeg))) (0 : Int32).toNatClampNeg (0 : Int32).toNatClampNeg (4 : Int32).toNatClampNeg)) (va_cpy (EV_ons ev1) (EV_ons (EV_s_sizes (EV_s_kinds ev (va_cpy (EV_kinds ev1) (EV_kinds ev) (0 : Int32).toNatClampNeg (0 : Int32).toNatClampNeg (4 : Int32).toNatClampNeg)) (va_cpy (EV_sizes ev1) (EV_sizes (EV_s_kinds ev (va_cpy (EV_kinds ev1) (EV_kinds ev) (0 : Int32).toNatClampNeg (0 : Int32).toNatClampNeg (4 : Int32).toNatClampNeg))) (0 : Int32).toNatClampNeg (0 : Int32).toNatClampNeg (4 : Int32).toNatClampNeg))) (0 : Int32).toNatClampNeg (0 : Int32).toNatClampNeg (4 : Int32).toNatClampNeg)) (va_cpy (EV_stucks ev1) (EV_stucks (EV_s_ons (EV_s_sizes (EV_s_kinds ev (va_cpy (EV_kinds ev1) (EV_kinds ev) (0 : Int32).toNatClampNeg (0 : Int32).toNatClampNeg (4 : Int32).toNatClampNeg)) (va_cpy (EV_sizes ev1) (EV_sizes (EV_s_kinds ev (va_cpy (EV_kinds ev1) (EV_kinds ev) (0 : Int32).toNatClampNeg (0 : Int32).toNatClampNeg (4 : Int32).toNatClampNeg))) (0 : Int32).toNatClampNeg (0 : Int32).toNatClampNeg (4 : Int32).toNatClampNeg)) (va_cpy (EV_ons ev1) (EV_ons (EV_s_sizes (EV_s_kinds ev (va_cpy (EV_kinds ev1) (EV_kinds ev) (0 : Int32).toNatClampNeg (0 : Int32).toNatClampNeg (4 : Int32).toNatClampNeg)) (va_cpy (EV_sizes ev1) (EV_sizes (EV_s_kinds ev (va_cpy (EV_kinds ev1) (EV_kinds ev) (0 : Int32).toNatClampNeg (0 : Int32).toNatClampNeg (4 : Int32).toNatClampNeg))) (0 : Int32).toNatClampNeg (0 : Int32).toNatClampNeg (4 : Int32).toNatClampNeg))) (0 : Int32).toNatClampNeg (0 : Int32).toNatClampNeg (4 : Int32).toNatClampNeg))) (0 : Int32).toNatClampNeg (0 : Int32).toNatClampNeg (4 : Int32).toNatClampNeg)) (va_cpy (EV_musts ev1) (EV_musts (EV_s_stucks (EV_s_ons (EV_s_sizes (EV_s_kinds ev (va_cpy (EV_kinds ev1) (EV_kinds ev) (0 : Int32).toNatClampNeg (0 : Int32).toNatClampNeg (4 : Int32).toNatClampNeg)) (va_cpy (EV_sizes ev1) (EV_sizes (EV_s_kinds ev (va_cpy (EV_kinds ev1) (EV_kinds ev) (0 : Int32).toNatClampNeg (0 : Int32).toNatClampNeg (4 : Int32).toNatClampNeg))) (0 : Int32).toNatClampNeg (0 : Int32).toNatClampNeg (4 : Int32).toNatClampNeg)) (va_cpy (EV_ons ev1) (EV_ons (EV_s_sizes (EV_s_kinds ev (va_cpy (EV_kinds ev1) (EV_kinds ev) (0 : Int32).toNatClampNeg (0 : Int32).toNatClampNeg (4 : Int32).toNatClampNeg)) (va_cpy (EV_sizes ev1) (EV_sizes (EV_s_kinds ev (va_cpy (EV_kinds ev1) (EV_kinds ev) (0 : Int32).toNatClampNeg (0 : Int32).toNatClampNeg (4 : Int32).toNatClampNeg))) (0 : Int32).toNatClampNeg (0 : Int32).toNatClampNeg (4 : Int32).toNatClampNeg))) (0 : Int32).toNatClampNeg (0 : Int32).toNatClampNeg (4 : Int32).toNatClampNeg)) (va_cpy (EV_stucks ev1) (EV_stucks (EV_s_ons (EV_s_sizes (EV_s_kinds ev (va_cpy (EV_kinds ev1) (EV_kinds ev) (0 : Int32).toNatClampNeg (0 : Int32).toNatClampNeg (4 : Int32).toNatClampNeg)) (va_cpy (EV_sizes ev1) (EV_sizes (EV_s_kinds ev (va_cpy (EV_kinds ev1) (EV_kinds ev) (0 : Int32).toNatClampNeg (0 : Int32).toNatClampNeg (4 : Int32).toNatClampNeg))) (0 : Int32).toNatClampNeg (0 : Int32).toNatClampNeg (4 : Int32).toNatClampNeg)) (va_cpy (EV_ons ev1) (EV_ons (EV_s_sizes (EV_s_kinds ev (va_cpy (EV_kinds ev1) (EV_kinds ev) (0 : Int32).toNatClampNeg (0 : Int32).toNatClampNeg (4 : Int32).toNatClampNeg)) (va_cpy (EV_sizes ev1) (EV_sizes (EV_s_kinds ev (va_cpy (EV_kinds ev1) (EV_kinds ev) (0 : Int32).toNatClampNeg (0 : Int32).toNatClampNeg (4 : Int32).toNatClampNeg))) (0 : Int32).toNatClampNeg (0 : Int32).toNatClampNeg (4 : Int32).toNatClampNeg))) (0 : Int32).toNatClampNeg (0 : Int32).toNatClampNeg (4 : Int32).toNatClampNeg))) (0 : Int32).toNatClampNeg (0 : Int32).toNatClampNeg (4 : Int32).toNatClampNeg))) (0 : Int32).toNatClampNeg (0 : Int32).toNatClampNeg (40 : Int32).toNatClampNeg))) (0 : Int32).toNatClampNeg (0 : Int32).toNatClampNeg (40 : Int32).toNatClampNeg)) (va_cpy (EV_ringMinutes ev1) (EV_ringMinutes (EV_s_nots (EV_s_musts (EV_s_stucks (EV_s_ons (EV_s_sizes (EV_s_kinds ev (va_cpy (EV_kinds ev1) (EV_kinds ev) (0 : Int32).toNatClampNeg (0 : Int32).toNatClampNeg (4 : Int32).toNatClampNeg)) (va_cpy (EV_sizes ev1) (EV_sizes (EV_s_kinds ev (va_cpy (EV_kinds ev1) (EV_kinds ev) (0 : Int32).toNatClampNeg (0 : Int32).toNatClampNeg (4 : Int32).toNatClampNeg))) (0 : Int32).toNatClampNeg (0 : Int32).toNatClampNeg (4 : Int32).toNatClampNeg)) (va_cpy (EV_ons ev1) (EV_ons (EV_s_sizes (EV_s_kinds ev (va_cpy (EV_kinds ev1) (EV_kinds ev) (0 : Int32).toNatClampNeg (0 : Int32).toNatClampNeg (4 : Int32).toNatClampNeg)) (va_cpy (EV_sizes ev1) (EV_sizes (EV_s_kinds ev (va_cpy (EV_kinds ev1) (EV_kinds ev) (0 : Int32).toNatClampNeg (0 : Int32).toNatClampNeg (4 : Int32).toNatClampNeg))) (0 : Int32).toNatClampNeg (0 : Int32).toNatClampNeg (4 : Int32).toNatClampNeg))) (0 : Int32).toNatClampNeg (0 : Int32).toNatClampNeg (4 : Int32).toNatClampNeg)) (va_cpy (EV_stucks ev1) (EV_stucks (EV_s_ons (EV_s_sizes (EV_s_kinds ev (va_cpy (EV_kinds ev1) (EV_kinds ev) (0 : Int32).toNatClampNeg (0 : Int32).toNatClampNeg (4 : Int32).toNatClampNeg)) (va_cpy (EV_sizes ev1) (EV_sizes (EV_s_kinds ev (va_cpy (EV_kinds ev1) (EV_kinds ev) (0 : Int32).toNatClampNeg (0 : Int32).toNatClampNeg (4 : Int32).toNatClampNeg))) (0 : Int32).toNatClampNeg (0 : Int32).toNatClampNeg (4 : Int32).toNatClampNeg)) (va_cpy (EV_ons ev1) (EV_ons (EV_s_sizes (EV_s_kinds ev (va_cpy (EV_kinds ev1) (EV_kinds ev) (0 : Int32).toNatClampNeg (0 : Int32).toNatClampNeg (4 : Int32).toNatClampNeg)) (va_cpy (EV_sizes ev1) (EV_sizes (EV_s_kinds ev (va_cpy (EV_kinds ev1) (EV_kinds ev) (0 : Int32).toNatClampNeg (0 : Int32).toNatClampNeg (4 : Int32).toNatClampNeg))) (0 : Int32).toNatClampNeg (0 : Int32).toNatClampNeg (4 : Int32).toNatClampNeg))) (0 : Int32).toNatClampNeg (0 : Int32).toNatClampNeg (4 : Int32).toNatClampNeg))) (0 : Int32).toNatClampNeg (0 : Int32).toNatClampNeg (4 : Int32).toNatClampNeg)) (va_cpy (EV_musts ev1) (EV_musts (EV_s_stucks (EV_s_ons (EV_s_sizes (EV_s_kinds ev (va_cpy (EV_kinds ev1) (EV_kinds ev) (0 : Int32).toNatClampNeg (0 : Int32).toNatClampNeg (4 : Int32).toNatClampNeg)) (va_cpy (EV_sizes ev1) (EV_sizes (EV_s_kinds ev (va_cpy (EV_kinds ev1) (EV_kinds ev) (0 : Int32).toNatClampNeg (0 : Int32).toNatClampNeg (4 : Int32).toNatClampNeg))) (0 : Int32).toNatClampNeg (0 : Int32).toNatClampNeg (4 : Int32).toNatClampNeg)) (va_cpy (EV_ons ev1) (EV_ons (EV_s_sizes (EV_s_kinds ev (va_cpy (EV_kinds ev1) (EV_kinds ev) (0 : Int32).toNatClampNeg (0 : Int32).toNatClampNeg (4 : Int32).toNatClampNeg)) (va_cpy (EV_sizes ev1) (EV_sizes (EV_s_kinds ev (va_cpy (EV_kinds ev1) (EV_kinds ev) (0 : Int32).toNatClampNeg (0 : Int32).toNatClampNeg (4 : Int32).toNatClampNeg))) (0 : Int32).toNatClampNeg (0 : Int32).toNatClampNeg (4 : Int32).toNatClampNeg))) (0 : Int32).toNatClampNeg (0 : Int32).toNatClampNeg (4 : Int32).toNatClampNeg)) (va_cpy (EV_stucks ev1) (EV_stucks (EV_s_ons (EV_s_sizes (EV_s_kinds ev (va_cpy (EV_kinds ev1) (EV_kinds ev) (0 : Int32).toNatClampNeg (0 : Int32).toNatClampNeg (4 : Int32).toNatClampNeg)) (va_cpy (EV_sizes ev1) (EV_sizes (EV_s_kinds ev (va_cpy (EV_kinds ev1) (EV_kinds ev) (0 : Int32).toNatClampNeg (0 : Int32).toNatClampNeg (4 : Int32).toNatClampNeg))) (0 : Int32).toNatClampNeg (0 : Int32).toNatClampNeg (4 : Int32).toNatClampNeg)) (va_cpy (EV_ons ev1) (EV_ons (EV_s_sizes (EV_s_kinds ev (va_cpy (EV_kinds ev1) (EV_kinds ev) (0 : Int32).toNatClampNeg (0 : Int32).toNatClampNeg (4 : Int32).toNatClampNeg)) (va_cpy (EV_sizes ev1) (EV_sizes (EV_s_kinds ev (va_cpy (EV_kinds ev1) (EV_kinds ev) (0 : Int32).toNatClampNeg (0 : Int32).toNatClampNeg (4 : Int32).toNatClampNeg))) (0 : Int32).toNatClampNeg (0 : Int32).toNatClampNeg (4 : Int32).toNatClampNeg))) (0 : Int32).toNatClampNeg (0 : Int32).toNatClampNeg (4 : Int32).toNatClampNeg))) (0 : Int32).toNatClampNeg (0 : Int32).toNatClampNeg (4 : Int32).toNatClampNeg))) (0 : Int32).toNatClampNeg (0 : Int32).toNatClampNeg (40 : Int32).toNatClampNeg)) (va_cpy (EV_nots ev1) (EV_nots (EV_s_musts (EV_s_stucks (EV_s_ons (EV_s_sizes (EV_s_kinds ev (va_cpy (EV_kinds ev1) (EV_kinds ev) (0 : Int32).toNatClampNeg (0 : Int32).toNatClampNeg (4 : Int32).toNatClampNeg)) (va_cpy (EV_sizes ev1) (EV_sizes (EV_s_kinds ev (va_cpy (EV_kinds ev1) (EV_kinds ev) (0 : Int32).toNatClampNeg (0 : Int32).toNatClampNeg (4 : Int32).toNatClampNeg))) (0 : Int32).toNatClampNeg (0 : Int32).toNatClampNeg (4 : Int32).toNatClampNeg)) (va_cpy (EV_ons ev1) (EV_ons (EV_s_sizes (EV_s_kinds ev (va_cpy (EV_kinds ev1) (EV_kinds ev) (0 : Int32).toNatClampNeg (0 : Int32).toNatClampNeg (4 : Int32).toNatClampNeg)) (va_cpy (EV_sizes ev1) (EV_sizes (EV_s_kinds ev (va_cpy (EV_kinds ev1) (EV_kinds ev) (0 : Int32).toNatClampNeg (0 : Int32).toNatClampNeg (4 : Int32).toNatClampNeg))) (0 : Int32).toNatClampNeg (0 : Int32).toNatClampNeg (4 : Int32).toNatClampNeg))) (0 : Int32).toNatClampNeg (0 : Int32).toNatClampNeg (4 : Int32).toNatClampNeg)) (va_cpy (EV_stucks ev1) (EV_stucks (EV_s_ons (EV_s_sizes (EV_s_kinds ev (va_cpy (EV_kinds ev1) (EV_kinds ev) (0 : Int32).toNatClampNeg (0 : Int32).toNatClampNeg (4 : Int32).toNatClampNeg)) (va_cpy (EV_sizes ev1) (EV_sizes (EV_s_kinds ev (va_cpy (EV_kinds ev1) (EV_kinds ev) (0 : Int32).toNatClampNeg (0 : Int32).toNatClampNeg (4 : Int32).toNatClampNeg))) (0 : Int32).toNatClampNeg (0 : Int32).toNatClampNeg (4 : Int32).toNatClampNeg)) (va_cpy (EV_ons ev1) (EV_ons (EV_s_sizes (EV_s_kinds ev (va_cpy (EV_kinds ev1) (EV_kinds ev) (0 : Int32).toNatClampNeg (0 : Int32).toNatClampNeg (4 : Int32).toNatClampNeg)) (va_cpy (EV_sizes ev1) (EV_sizes (EV_s_kinds ev (va_cpy (EV_kinds ev1) (EV_kinds ev) (0 : Int32).toNatClampNeg (0 : Int32).toNatClampNeg (4 : Int32).toNatClampNeg))) (0 : Int32).toNatClampNeg (0 : Int32).toNatClampNeg (4 : Int32).toNatClampNeg))) (0 : Int32).toNatClampNeg (0 : Int32).toNatClampNeg (4 : Int32).toNatClampNeg))) (0 : Int32).toNatClampNeg (0 : Int32).toNatClampNeg (4 : Int32).toNatClampNeg)) (va_cpy (EV_musts ev1) (EV_musts (EV_s_stucks (EV_s_ons (EV_s_sizes (EV_s_kinds ev (va_cpy (EV_kinds ev1) (EV_kinds ev) (0 : Int32).toNatClampNeg (0 : Int32).toNatClampNeg (4 : Int32).toNatClampNeg)) (va_cpy (EV_sizes ev1) (EV_sizes (EV_s_kinds ev (va_cpy (EV_kinds ev1) (EV_kinds ev) (0 : Int32).toNatClampNeg (0 : Int32).toNatClampNeg (4 : Int32).toNatClampNeg))) (0 : Int32).toNatClampNeg (0 : Int32).toNatClampNeg (4 : Int32).toNatClampNeg)) (va_cpy (EV_ons ev1) (EV_ons (EV_s_sizes (EV_s_kinds ev (va_cpy (EV_kinds ev1) (EV_kinds ev) (0 : Int32).toNatClampNeg (0 : Int32).toNatClampNeg (4 : Int32).toNatClampNeg)) (va_cpy (EV_sizes ev1) (EV_sizes (EV_s_kinds ev (va_cpy (EV_kinds ev1) (EV_kinds ev) (0 : Int32).toNatClampNeg (0 : Int32).toNatClampNeg (4 : Int32).toNatClampNeg))) (0 : Int32).toNatClampNeg (0 : Int32).toNatClampNeg (4 : Int32).toNatClampNeg))) (0 : Int32).toNatClampNeg (0 : Int32).toNatClampNeg (4 : Int32).toNatClampNeg)) (va_cpy (EV_stucks ev1) (EV_stucks (EV_s_ons (EV_s_sizes (EV_s_kinds ev (va_cpy (EV_kinds ev1) (EV_kinds ev) (0 : Int32).toNatClampNeg (0 : Int32).toNatClampNeg (4 : Int32).toNatClampNeg)) (va_cpy (EV_sizes ev1) (EV_sizes (EV_s_kinds ev (va_cpy (EV_kinds ev1) (EV_kinds ev) (0 : Int32).toNatClampNeg (0 : Int32).toNatClampNeg (4 : Int32).toNatClampNeg))) (0 : Int32).toNatClampNeg (0 : Int32).toNatClampNeg (4 : Int32).toNatClampNeg)) (va_cpy (EV_ons ev1) (EV_ons (EV_s_sizes (EV_s_kinds ev (va_cpy (EV_kinds ev1) (EV_kinds ev) (0 : Int32).toNatClampNeg (0 : Int32).toNatClampNeg (4 : Int32).toNatClampNeg)) (va_cpy (EV_sizes ev1) (EV_sizes (EV_s_kinds ev (va_cpy (EV_kinds ev1) (EV_kinds ev) (0 : Int32).toNatClampNeg (0 : Int32).toNatClampNeg (4 : Int32).toNatClampNeg))) (0 : Int32).toNatClampNeg (0 : Int32).toNatClampNeg (4 : Int32).toNatClampNeg))) (0 : Int32).toNatClampNeg (0 : Int32).toNatClampNeg (4 : Int32).toNatClampNeg))) (0 : Int32).toNatClampNeg (0 : Int32).toNatClampNeg (4 : Int32).toNatClampNeg))) (0 : Int32).toNatClampNeg (0 : Int32).toNatClampNeg (40 : Int32).toNatClampNeg))) (0 : Int32).toNatClampNeg (0 : Int32).toNatClampNeg (40 : Int32).toNatClampNeg))) (0 : Int32).toNatClampNeg (0 : Int32).toNatClampNeg (10 : Int32).toNatClampNeg)), wEV g ad1 ev1]) X hw 1 7 0 7 rfl rfl rfl rfl q98 km_X0_49 hl.1 (Nat.le_of_ble_eq_true rfl) (Nat.le_of_ble_eq_true rfl) dX0_become_98 rfl (fun H locs hw => ?_)
  refine lv_aload_n hx hb dX0_become_101 rfl (lv_at hl 0 rfl) ?_
  refine lv_aload_n hx hb dX0_become_102 rfl (lv_at hl 1 rfl) ?_
  refine EV_g_bars X hw 1 rfl kf_X0_33 dX0_become_103 ?_
  refine EV_p_bars (gs' := [wEV g ad (EV_s_bars (EV_s_ringMinutes (EV_s_nots (EV_s_musts (EV_s_stucks (EV_s_ons (EV_s_sizes (EV_s_kinds ev (va_cpy (EV_kinds ev1) (EV_kinds ev) (0 : Int32).toNatClampNeg (0 : Int32).toNatClampNeg (4 : Int32).toNatClampNeg)) (va_cpy (EV_sizes ev1) (EV_sizes (EV_s_kinds ev (va_cpy (EV_kinds ev1) (EV_kinds ev) (0 : Int32).toNatClampNeg (0 : Int32).toNatClampNeg (4 : Int32).toNatClampNeg))) (0 : Int32).toNatClampNeg (0 : Int32).toNatClampNeg (4 : Int32).toNatClampNeg)) (va_cpy (EV_ons ev1) (EV_ons (EV_s_sizes (EV_s_kinds ev (va_cpy (EV_kinds ev1) (EV_kinds ev) (0 : Int32).toNatClampNeg (0 : Int32).toNatClampNeg (4 : Int32).toNatClampNeg)) (va_cpy (EV_sizes ev1) (EV_sizes (EV_s_kinds ev (va_cpy (EV_kinds ev1) (EV_kinds ev) (0 : Int32).toNatClampNeg (0 : Int32).toNatClampNeg (4 : Int32).toNatClampNeg))) (0 : Int32).toNatClampNeg (0 : Int32).toNatClampNeg (4 : Int32).toNatClampNeg))) (0 : Int32).toNatClampNeg (0 : Int32).toNatClampNeg (4 : Int32).toNatClampNeg)) (va_cpy (EV_stucks ev1) (EV_stucks (EV_s_ons (EV_s_sizes (EV_s_kinds ev (va_cpy (EV_kinds ev1) (EV_kinds ev) (0 : Int32).toNatClampNeg (0 : Int32).toNatClampNeg (4 : Int32).toNatClampNeg)) (va_cpy (EV_sizes ev1) (EV_sizes (EV_s_kinds ev (va_cpy (EV_kinds ev1) (EV_kinds ev) (0 : Int32).toNatClampNeg (0 : Int32).toNatClampNeg (4 : Int32).toNatClampNeg))) (0 : Int32).toNatClampNeg (0 : Int32).toNatClampNeg (4 : Int32).toNatClampNeg)) (va_cpy (EV_ons ev1) (EV_ons (EV_s_sizes (EV_s_kinds ev (va_cpy (EV_kinds ev1) (EV_kinds ev) (0 : Int32).toNatClampNeg (0 : Int32).toNatClampNeg (4 : Int32).toNatClampNeg)) (va_cpy (EV_sizes ev1) (EV_sizes (EV_s_kinds ev (va_cpy (EV_kinds ev1) (EV_kinds ev) (0 : Int32).toNatClampNeg (0 : Int32).toNatClampNeg (4 : Int32).toNatClampNeg))) (0 : Int32).toNatClampNeg (0 : Int32).toNatClampNeg (4 : Int32).toNatClampNeg))) (0 : Int32).toNatClampNeg (0 : Int32).toNatClampNeg (4 : Int32).toNatClampNeg))) (0 : Int32).toNatClampNeg (0 : Int32).toNatClampNeg (4 : Int32).toNatClampNeg)) (va_cpy (EV_musts ev1) (EV_musts (EV_s_stucks (EV_s_ons (EV_s_sizes (EV_s_kinds ev (va_cpy (EV_kinds ev1) (EV_kinds ev) (0 : Int32).toNatClampNeg (0 : Int32).toNatClampNeg (4 : Int32).toNatClampNeg)) (va_cpy (EV_sizes ev1) (EV_sizes (EV_s_kinds ev (va_cpy (EV_kinds ev1) (EV_kinds ev) (0 : Int32).toNatClampNeg (0 : Int32).toNatClampNeg (4 : Int32).toNatClampNeg))) (0 : Int32).toNatClampNeg (0 : Int32).toNatClampNeg (4 : Int32).toNatClampNeg)) (va_cpy (EV_ons ev1) (EV_ons (EV_s_sizes (EV_s_kinds ev (va_cpy (EV_kinds ev1) (EV_kinds ev) (0 : Int32).toNatClampNeg (0 : Int32).toNatClampNeg (4 : Int32).toNatClampNeg)) (va_cpy (EV_sizes ev1) (EV_sizes (EV_s_kinds ev (va_cpy (EV_kinds ev1) (EV_kinds ev) (0 : Int32).toNatClampNeg (0 : Int32).toNatClampNeg (4 : Int32).toNatClampNeg))) (0 : Int32).toNatClampNeg (0 : Int32).toNatClampNeg (4 : Int32).toNatClampNeg))) (0 : Int32).toNatClampNeg (0 : Int32).toNatClampNeg (4 : Int32).toNatClampNeg)) (va_cpy (EV_stucks ev1) (EV_stucks (EV_s_ons (EV_s_sizes (EV_s_kinds ev (va_cpy (EV_kinds ev1) (EV_kinds ev) (0 : Int32).toNatClampNeg (0 : Int32).toNatClampNeg (4 : Int32).toNatClampNeg)) (va_cpy (EV_sizes ev1) (EV_sizes (EV_s_kinds ev (va_cpy (EV_kinds ev1) (EV_kinds ev) (0 : Int32).toNatClampNeg (0 : Int32).toNatClampNeg (4 : Int32).toNatClampNeg))) (0 : Int32).toNatClampNeg (0 : Int32).toNatClampNeg (4 : Int32).toNatClampNeg)) (va_cpy (EV_ons ev1) (EV_ons (EV_s_sizes (EV_s_kinds ev (va_cpy (EV_kinds ev1) (EV_kinds ev) (0 : Int32).toNatClampNeg (0 : Int32).toNatClampNeg (4 : Int32).toNatClampNeg)) (va_cpy (EV_sizes ev1) (EV_sizes (EV_s_kinds ev (va_cpy (EV_kinds ev1) (EV_kinds ev) (0 : Int32).toNatClampNeg (0 : Int32).toNatClampNeg (4 : Int32).toNatClampNeg))) (0 : Int32).toNatClampNeg (0 : Int32).toNatClampNeg (4 : Int32).toNatClampNeg))) (0 : Int32).toNatClampNeg (0 : Int32).toNatClampNeg (4 : Int32).toNatClampNeg))) (0 : Int32).toNatClampNeg (0 : Int32).toNatClampNeg (4 : Int32).toNatClampNeg))) (0 : Int32).toNatClampNeg (0 : Int32).toNatClampNeg (40 : Int32).toNatClampNeg)) (va_cpy (EV_nots ev1) (EV_nots (EV_s_musts (EV_s_stucks (EV_s_ons (EV_s_sizes (EV_s_kinds ev (va_cpy (EV_kinds ev1) (EV_kinds ev) (0 : Int32).toNatClampNeg (0 : Int32).toNatClampNeg (4 : Int32).toNatClampNeg)) (va_cpy (EV_sizes ev1) (EV_sizes (EV_s_kinds ev (va_cpy (EV_kinds ev1) (EV_kinds ev) (0 : Int32).toNatClampNeg (0 : Int32).toNatClampNeg (4 : Int32).toNatClampNeg))) (0 : Int32).toNatClampNeg (0 : Int32).toNatClampNeg (4 : Int32).toNatClampNeg)) (va_cpy (EV_ons ev1) (EV_ons (EV_s_sizes (EV_s_kinds ev (va_cpy (EV_kinds ev1) (EV_kinds ev) (0 : Int32).toNatClampNeg (0 : Int32).toNatClampNeg (4 : Int32).toNatClampNeg)) (va_cpy (EV_sizes ev1) (EV_sizes (EV_s_kinds ev (va_cpy (EV_kinds ev1) (EV_kinds ev) (0 : Int32).toNatClampNeg (0 : Int32).toNatClampNeg (4 : Int32).toNatClampNeg))) (0 : Int32).toNatClampNeg (0 : Int32).toNatClampNeg (4 : Int32).toNatClampNeg))) (0 : Int32).toNatClampNeg (0 : Int32).toNatClampNeg (4 : Int32).toNatClampNeg)) (va_cpy (EV_stucks ev1) (EV_stucks (EV_s_ons (EV_s_sizes (EV_s_kinds ev (va_cpy (EV_kinds ev1) (EV_kinds ev) (0 : Int32).toNatClampNeg (0 : Int32).toNatClampNeg (4 : Int32).toNatClampNeg)) (va_cpy (EV_sizes ev1) (EV_sizes (EV_s_kinds ev (va_cpy (EV_kinds ev1) (EV_kinds ev) (0 : Int32).toNatClampNeg (0 : Int32).toNatClampNeg (4 : Int32).toNatClampNeg))) (0 : Int32).toNatClampNeg (0 : Int32).toNatClampNeg (4 : Int32).toNatClampNeg)) (va_cpy (EV_ons ev1) (EV_ons (EV_s_sizes (EV_s_kinds ev (va_cpy (EV_kinds ev1) (EV_kinds ev) (0 : Int32).toNatClampNeg (0 : Int32).toNatClampNeg (4 : Int32).toNatClampNeg)) (va_cpy (EV_sizes ev1) (EV_sizes (EV_s_kinds ev (va_cpy (EV_kinds ev1) (EV_kinds ev) (0 : Int32).toNatClampNeg (0 : Int32).toNatClampNeg (4 : Int32).toNatClampNeg))) (0 : Int32).toNatClampNeg (0 : Int32).toNatClampNeg (4 : Int32).toNatClampNeg))) (0 : Int32).toNatClampNeg (0 : Int32).toNatClampNeg (4 : Int32).toNatClampNeg))) (0 : Int32).toNatClampNeg (0 : Int32).toNatClampNeg (4 : Int32).toNatClampNeg)) (va_cpy (EV_musts ev1) (EV_musts (EV_s_stucks (EV_s_ons (EV_s_sizes (EV_s_kinds ev (va_cpy (EV_kinds ev1) (EV_kinds ev) (0 : Int32).toNatClampNeg (0 : Int32).toNatClampNeg (4 : Int32).toNatClampNeg)) (va_cpy (EV_sizes ev1) (EV_sizes (EV_s_kinds ev (va_cpy (EV_kinds ev1) (EV_kinds ev) (0 : Int32).toNatClampNeg (0 : Int32).toNatClampNeg (4 : Int32).toNatClampNeg))) (0 : Int32).toNatClampNeg (0 : Int32).toNatClampNeg (4 : Int32).toNatClampNeg)) (va_cpy (EV_ons ev1) (EV_ons (EV_s_sizes (EV_s_kinds ev (va_cpy (EV_kinds ev1) (EV_kinds ev) (0 : Int32).toNatClampNeg (0 : Int32).toNatClampNeg (4 : Int32).toNatClampNeg)) (va_cpy (EV_sizes ev1) (EV_sizes (EV_s_kinds ev (va_cpy (EV_kinds ev1) (EV_kinds ev) (0 : Int32).toNatClampNeg (0 : Int32).toNatClampNeg (4 : Int32).toNatClampNeg))) (0 : Int32).toNatClampNeg (0 : Int32).toNatClampNeg (4 : Int32).toNatClampNeg))) (0 : Int32).toNatClampNeg (0 : Int32).toNatClampNeg (4 : Int32).toNatClampNeg)) (va_cpy (EV_stucks ev1) (EV_stucks (EV_s_ons (EV_s_sizes (EV_s_kinds ev (va_cpy (EV_kinds ev1) (EV_kinds ev) (0 : Int32).toNatClampNeg (0 : Int32).toNatClampNeg (4 : Int32).toNatClampNeg)) (va_cpy (EV_sizes ev1) (EV_sizes (EV_s_kinds ev (va_cpy (EV_kinds ev1) (EV_kinds ev) (0 : Int32).toNatClampNeg (0 : Int32).toNatClampNeg (4 : Int32).toNatClampNeg))) (0 : Int32).toNatClampNeg (0 : Int32).toNatClampNeg (4 : Int32).toNatClampNeg)) (va_cpy (EV_ons ev1) (EV_ons (EV_s_sizes (EV_s_kinds ev (va_cpy (EV_kinds ev1) (EV_kinds ev) (0 : Int32).toNatClampNeg (0 : Int32).toNatClampNeg (4 : Int32).toNatClampNeg)) (va_cpy (EV_sizes ev1) (EV_sizes (EV_s_kinds ev (va_cpy (EV_kinds ev1) (EV_kinds ev) (0 : Int32).toNatClampNeg (0 : Int32).toNatClampNeg (4 : Int32).toNatClampNeg))) (0 : Int32).toNatClampNeg (0 : Int32).toNatClampNeg (4 : Int32).toNatClampNeg))) (0 : Int32).toNatClampNeg (0 : Int32).toNatClampNeg (4 : Int32).toNatClampNeg))) (0 : Int32).toNatClampNeg (0 : Int32).toNatClampNeg (4 : Int32).toNatClampNeg))) (0 : Int32).toNatClampNeg (0 : Int32).toNatClampNeg (40 : Int32).toNatClampNeg))) (0 : Int32).toNatClampNeg (0 : Int32).toNatClampNeg (40 : Int32).toNatClampNeg)) (va_cpy (EV_ringMinutes ev1) (EV_ringMinutes (EV_s_nots (EV_s_musts (EV_s_stucks (EV_s_ons (EV_s_sizes (EV_s_kinds ev (va_cpy (EV_kinds ev1) (EV_kinds ev) (0 : Int32).toNatClampNeg (0 : Int32).toNatClampNeg (4 : Int32).toNatClampNeg)) (va_cpy (EV_sizes ev1) (EV_sizes (EV_s_kinds ev (va_cpy (EV_kinds ev1) (EV_kinds ev) (0 : Int32).toNatClampNeg (0 : Int32).toNatClampNeg (4 : Int32).toNatClampNeg))) (0 : Int32).toNatClampNeg (0 : Int32).toNatClampNeg (4 : Int32).toNatClampNeg)) (va_cpy (EV_ons ev1) (EV_ons (EV_s_sizes (EV_s_kinds ev (va_cpy (EV_kinds ev1) (EV_kinds ev) (0 : Int32).toNatClampNeg (0 : Int32).toNatClampNeg (4 : Int32).toNatClampNeg)) (va_cpy (EV_sizes ev1) (EV_sizes (EV_s_kinds ev (va_cpy (EV_kinds ev1) (EV_kinds ev) (0 : Int32).toNatClampNeg (0 : Int32).toNatClampNeg (4 : Int32).toNatClampNeg))) (0 : Int32).toNatClampNeg (0 : Int32).toNatClampNeg (4 : Int32).toNatClampNeg))) (0 : Int32).toNatClampNeg (0 : Int32).toNatClampNeg (4 : Int32).toNatClampNeg)) (va_cpy (EV_stucks ev1) (EV_stucks (EV_s_ons (EV_s_sizes (EV_s_kinds ev (va_cpy (EV_kinds ev1) (EV_kinds ev) (0 : Int32).toNatClampNeg (0 : Int32).toNatClampNeg (4 : Int32).toNatClampNeg)) (va_cpy (EV_sizes ev1) (EV_sizes (EV_s_kinds ev (va_cpy (EV_kinds ev1) (EV_kinds ev) (0 : Int32).toNatClampNeg (0 : Int32).toNatClampNeg (4 : Int32).toNatClampNeg))) (0 : Int32).toNatClampNeg (0 : Int32).toNatClampNeg (4 : Int32).toNatClampNeg)) (va_cpy (EV_ons ev1) (EV_ons (EV_s_sizes (EV_s_kinds ev (va_cpy (EV_kinds ev1) (EV_kinds ev) (0 : Int32).toNatClampNeg (0 : Int32).toNatClampNeg (4 : Int32).toNatClampNeg)) (va_cpy (EV_sizes ev1) (EV_sizes (EV_s_kinds ev (va_cpy (EV_kinds ev1) (EV_kinds ev) (0 : Int32).toNatClampNeg (0 : Int32).toNatClampNeg (4 : Int32).toNatClampNeg))) (0 : Int32).toNatClampNeg (0 : Int32).toNatClampNeg (4 : Int32).toNatClampNeg))) (0 : Int32).toNatClampNeg (0 : Int32).toNatClampNeg (4 : Int32).toNatClampNeg))) (0 : Int32).toNatClampNeg (0 : Int32).toNatClampNeg (4 : Int32).toNatClampNeg)) (va_cpy (EV_musts ev1) (EV_musts (EV_s_stucks (EV_s_ons (EV_s_sizes (EV_s_kinds ev (va_cpy (EV_kinds ev1) (EV_kinds ev) (0 : Int32).toNatClampNeg (0 : Int32).toNatClampNeg (4 : Int32).toNatClampNeg)) (va_cpy (EV_sizes ev1) (EV_sizes (EV_s_kinds ev (va_cpy (EV_kinds ev1) (EV_kinds ev) (0 : Int32).toNatClampNeg (0 : Int32).toNatClampNeg (4 : Int32).toNatClampNeg))) (0 : Int32).toNatClampNeg (0 : Int32).toNatClampNeg (4 : Int32).toNatClampNeg)) (va_cpy (EV_ons ev1) (EV_ons (EV_s_sizes (EV_s_kinds ev (va_cpy (EV_kinds ev1) (EV_kinds ev) (0 : Int32).toNatClampNeg (0 : Int32).toNatClampNeg (4 : Int32).toNatClampNeg)) (va_cpy (EV_sizes ev1) (EV_sizes (EV_s_kinds ev (va_cpy (EV_kinds ev1) (EV_kinds ev) (0 : Int32).toNatClampNeg (0 : Int32).toNatClampNeg (4 : Int32).toNatClampNeg))) (0 : Int32).toNatClampNeg (0 : Int32).toNatClampNeg (4 : Int32).toNatClampNeg))) (0 : Int32).toNatClampNeg (0 : Int32).toNatClampNeg (4 : Int32).toNatClampNeg)) (va_cpy (EV_stucks ev1) (EV_stucks (EV_s_ons (EV_s_sizes (EV_s_kinds ev (va_cpy (EV_kinds ev1) (EV_kinds ev) (0 : Int32).toNatClampNeg (0 : Int32).toNatClampNeg (4 : Int32).toNatClampNeg)) (va_cpy (EV_sizes ev1) (EV_sizes (EV_s_kinds ev (va_cpy (EV_kinds ev1) (EV_kinds ev) (0 : Int32).toNatClampNeg (0 : Int32).toNatClampNeg (4 : Int32).toNatClampNeg))) (0 : Int32).toNatClampNeg (0 : Int32).toNatClampNeg (4 : Int32).toNatClampNeg)) (va_cpy (EV_ons ev1) (EV_ons (EV_s_sizes (EV_s_kinds ev (va_cpy (EV_kinds ev1) (EV_kinds ev) (0 : Int32).toNatClampNeg (0 : Int32).toNatClampNeg (4 : Int32).toNatClampNeg)) (va_cpy (EV_sizes ev1) (EV_sizes (EV_s_kinds ev (va_cpy (EV_kinds ev1) (EV_kinds ev) (0 : Int32).toNatClampNeg (0 : Int32).toNatClampNeg (4 : Int32).toNatClampNeg))) (0 : Int32).toNatClampNeg (0 : Int32).toNatClampNeg (4 : Int32).toNatClampNeg))) (0 : Int32).toNatClampNeg (0 : Int32).toNatClampNeg (4 : Int32).toNatClampNeg))) (0 : Int32).toNatClampNeg (0 : Int32).toNatClampNeg (4 : Int32).toNatClampNeg))) (0 : Int32).toNatClampNeg (0 : Int32).toNatClampNeg (40 : Int32).toNatClampNeg)) (va_cpy (EV_nots ev1) (EV_nots (EV_s_musts (EV_s_stucks (EV_s_ons (EV_s_sizes (EV_s_kinds ev (va_cpy (EV_kinds ev1) (EV_kinds ev) (0 : Int32).toNatClampNeg (0 : Int32).toNatClampNeg (4 : Int32).toNatClampNeg)) (va_cpy (EV_sizes ev1) (EV_sizes (EV_s_kinds ev (va_cpy (EV_kinds ev1) (EV_kinds ev) (0 : Int32).toNatClampNeg (0 : Int32).toNatClampNeg (4 : Int32).toNatClampNeg))) (0 : Int32).toNatClampNeg (0 : Int32).toNatClampNeg (4 : Int32).toNatClampNeg)) (va_cpy (EV_ons ev1) (EV_ons (EV_s_sizes (EV_s_kinds ev (va_cpy (EV_kinds ev1) (EV_kinds ev) (0 : Int32).toNatClampNeg (0 : Int32).toNatClampNeg (4 : Int32).toNatClampNeg)) (va_cpy (EV_sizes ev1) (EV_sizes (EV_s_kinds ev (va_cpy (EV_kinds ev1) (EV_kinds ev) (0 : Int32).toNatClampNeg (0 : Int32).toNatClampNeg (4 : Int32).toNatClampNeg))) (0 : Int32).toNatClampNeg (0 : Int32).toNatClampNeg (4 : Int32).toNatClampNeg))) (0 : Int32).toNatClampNeg (0 : Int32).toNatClampNeg (4 : Int32).toNatClampNeg)) (va_cpy (EV_stucks ev1) (EV_stucks (EV_s_ons (EV_s_sizes (EV_s_kinds ev (va_cpy (EV_kinds ev1) (EV_kinds ev) (0 : Int32).toNatClampNeg (0 : Int32).toNatClampNeg (4 : Int32).toNatClampNeg)) (va_cpy (EV_sizes ev1) (EV_sizes (EV_s_kinds ev (va_cpy (EV_kinds ev1) (EV_kinds ev) (0 : Int32).toNatClampNeg (0 : Int32).toNatClampNeg (4 : Int32).toNatClampNeg))) (0 : Int32).toNatClampNeg (0 : Int32).toNatClampNeg (4 : Int32).toNatClampNeg)) (va_cpy (EV_ons ev1) (EV_ons (EV_s_sizes (EV_s_kinds ev (va_cpy (EV_kinds ev1) (EV_kinds ev) (0 : Int32).toNatClampNeg (0 : Int32).toNatClampNeg (4 : Int32).toNatClampNeg)) (va_cpy (EV_sizes ev1) (EV_sizes (EV_s_kinds ev (va_cpy (EV_kinds ev1) (EV_kinds ev) (0 : Int32).toNatClampNeg (0 : Int32).toNatClampNeg (4 : Int32).toNatClampNeg))) (0 : Int32).toNatClampNeg (0 : Int32).toNatClampNeg (4 : Int32).toNatClampNeg))) (0 : Int32).toNatClampNeg (0 : Int32).toNatClampNeg (4 : Int32).toNatClampNeg))) (0 : Int32).toNatClampNeg (0 : Int32).toNatClampNeg (4 : Int32).toNatClampNeg)) (va_cpy (EV_musts ev1) (EV_musts (EV_s_stucks (EV_s_ons (EV_s_sizes (EV_s_kinds ev (va_cpy (EV_kinds ev1) (EV_kinds ev) (0 : Int32).toNatClampNeg (0 : Int32).toNatClampNeg (4 : Int32).toNatClampNeg)) (va_cpy (EV_sizes ev1) (EV_sizes (EV_s_kinds ev (va_cpy (EV_kinds ev1) (EV_kinds ev) (0 : Int32).toNatClampNeg (0 : Int32).toNatClampNeg (4 : Int32).toNatClampNeg))) (0 : Int32).toNatClampNeg (0 : Int32).toNatClampNeg (4 : Int32).toNatClampNeg)) (va_cpy (EV_ons ev1) (EV_ons (EV_s_sizes (EV_s_kinds ev (va_cpy (EV_kinds ev1) (EV_kinds ev) (0 : Int32).toNatClampNeg (0 : Int32).toNatClampNeg (4 : Int32).toNatClampNeg)) (va_cpy (EV_sizes ev1) (EV_sizes (EV_s_kinds ev (va_cpy (EV_kinds ev1) (EV_kinds ev) (0 : Int32).toNatClampNeg (0 : Int32).toNatClampNeg (4 : Int32).toNatClampNeg))) (0 : Int32).toNatClampNeg (0 : Int32).toNatClampNeg (4 : Int32).toNatClampNeg))) (0 : Int32).toNatClampNeg (0 : Int32).toNatClampNeg (4 : Int32).toNatClampNeg)) (va_cpy (EV_stucks ev1) (EV_stucks (EV_s_ons (EV_s_sizes (EV_s_kinds ev (va_cpy (EV_kinds ev1) (EV_kinds ev) (0 : Int32).toNatClampNeg (0 : Int32).toNatClampNeg (4 : Int32).toNatClampNeg)) (va_cpy (EV_sizes ev1) (EV_sizes (EV_s_kinds ev (va_cpy (EV_kinds ev1) (EV_kinds ev) (0 : Int32).toNatClampNeg (0 : Int32).toNatClampNeg (4 : Int32).toNatClampNeg))) (0 : Int32).toNatClampNeg (0 : Int32).toNatClampNeg (4 : Int32).toNatClampNeg)) (va_cpy (EV_ons ev1) (EV_ons (EV_s_sizes (EV_s_kinds ev (va_cpy (EV_kinds ev1) (EV_kinds ev) (0 : Int32).toNatClampNeg (0 : Int32).toNatClampNeg (4 : Int32).toNatClampNeg)) (va_cpy (EV_sizes ev1) (EV_sizes (EV_s_kinds ev (va_cpy (EV_kinds ev1) (EV_kinds ev) (0 : Int32).toNatClampNeg (0 : Int32).toNatClampNeg (4 : Int32).toNatClampNeg))) (0 : Int32).toNatClampNeg (0 : Int32).toNatClampNeg (4 : Int32).toNatClampNeg))) (0 : Int32).toNatClampNeg (0 : Int32).toNatClampNeg (4 : Int32).toNatClampNeg))) (0 : Int32).toNatClampNeg (0 : Int32).toNatClampNeg (4 : Int32).toNatClampNeg))) (0 : Int32).toNatClampNeg (0 : Int32).toNatClampNeg (40 : Int32).toNatClampNeg))) (0 : Int32).toNatClampNeg (0 : Int32).toNatClampNeg (40 : Int32).toNatClampNeg))) (0 : Int32).toNatClampNeg (0 : Int32).toNatClampNeg (10 : Int32).toNatClampNeg)) (EV_bars ev1)), wEV g ad1 ev1]) X hw 0 rfl kf_X0_33 dX0_become_106 rfl (fun H locs hw => ?_)
  refine lv_aload_n hx hb dX0_become_109 rfl (lv_at hl 0 rfl) ?_
  refine lv_aload_n hx hb dX0_become_110 rfl (lv_at hl 1 rfl) ?_
  refine EV_g_moved X hw 1 rfl kf_X0_37 dX0_become_111 ?_
  refine EV_p_moved (gs' := [wEV g ad (EV_s_moved (EV_s_bars (EV_s_ringMinutes (EV_s_nots (EV_s_musts (EV_s_stucks (EV_s_ons (EV_s_sizes (EV_s_kinds ev (va_cpy (EV_kinds ev1) (EV_kinds ev) (0 : Int32).toNatClampNeg (0 : Int32).toNatClampNeg (4 : Int32).toNatClampNeg)) (va_cpy (EV_sizes ev1) (EV_sizes (EV_s_kinds ev (va_cpy (EV_kinds ev1) (EV_kinds ev) (0 : Int32).toNatClampNeg (0 : Int32).toNatClampNeg (4 : Int32).toNatClampNeg))) (0 : Int32).toNatClampNeg (0 : Int32).toNatClampNeg (4 : Int32).toNatClampNeg)) (va_cpy (EV_ons ev1) (EV_ons (EV_s_sizes (EV_s_kinds ev (va_cpy (EV_kinds ev1) (EV_kinds ev) (0 : Int32).toNatClampNeg (0 : Int32).toNatClampNeg (4 : Int32).toNatClampNeg)) (va_cpy (EV_sizes ev1) (EV_sizes (EV_s_kinds ev (va_cpy (EV_kinds ev1) (EV_kinds ev) (0 : Int32).toNatClampNeg (0 : Int32).toNatClampNeg (4 : Int32).toNatClampNeg))) (0 : Int32).toNatClampNeg (0 : Int32).toNatClampNeg (4 : Int32).toNatClampNeg))) (0 : Int32).toNatClampNeg (0 : Int32).toNatClampNeg (4 : Int32).toNatClampNeg)) (va_cpy (EV_stucks ev1) (EV_stucks (EV_s_ons (EV_s_sizes (EV_s_kinds ev (va_cpy (EV_kinds ev1) (EV_kinds ev) (0 : Int32).toNatClampNeg (0 : Int32).toNatClampNeg (4 : Int32).toNatClampNeg)) (va_cpy (EV_sizes ev1) (EV_sizes (EV_s_kinds ev (va_cpy (EV_kinds ev1) (EV_kinds ev) (0 : Int32).toNatClampNeg (0 : Int32).toNatClampNeg (4 : Int32).toNatClampNeg))) (0 : Int32).toNatClampNeg (0 : Int32).toNatClampNeg (4 : Int32).toNatClampNeg)) (va_cpy (EV_ons ev1) (EV_ons (EV_s_sizes (EV_s_kinds ev (va_cpy (EV_kinds ev1) (EV_kinds ev) (0 : Int32).toNatClampNeg (0 : Int32).toNatClampNeg (4 : Int32).toNatClampNeg)) (va_cpy (EV_sizes ev1) (EV_sizes (EV_s_kinds ev (va_cpy (EV_kinds ev1) (EV_kinds ev) (0 : Int32).toNatClampNeg (0 : Int32).toNatClampNeg (4 : Int32).toNatClampNeg))) (0 : Int32).toNatClampNeg (0 : Int32).toNatClampNeg (4 : Int32).toNatClampNeg))) (0 : Int32).toNatClampNeg (0 : Int32).toNatClampNeg (4 : Int32).toNatClampNeg))) (0 : Int32).toNatClampNeg (0 : Int32).toNatClampNeg (4 : Int32).toNatClampNeg)) (va_cpy (EV_musts ev1) (EV_musts (EV_s_stucks (EV_s_ons (EV_s_sizes (EV_s_kinds ev (va_cpy (EV_kinds ev1) (EV_kinds ev) (0 : Int32).toNatClampNeg (0 : Int32).toNatClampNeg (4 : Int32).toNatClampNeg)) (va_cpy (EV_sizes ev1) (EV_sizes (EV_s_kinds ev (va_cpy (EV_kinds ev1) (EV_kinds ev) (0 : Int32).toNatClampNeg (0 : Int32).toNatClampNeg (4 : Int32).toNatClampNeg))) (0 : Int32).toNatClampNeg (0 : Int32).toNatClampNeg (4 : Int32).toNatClampNeg)) (va_cpy (EV_ons ev1) (EV_ons (EV_s_sizes (EV_s_kinds ev (va_cpy (EV_kinds ev1) (EV_kinds ev) (0 : Int32).toNatClampNeg (0 : Int32).toNatClampNeg (4 : Int32).toNatClampNeg)) (va_cpy (EV_sizes ev1) (EV_sizes (EV_s_kinds ev (va_cpy (EV_kinds ev1) (EV_kinds ev) (0 : Int32).toNatClampNeg (0 : Int32).toNatClampNeg (4 : Int32).toNatClampNeg))) (0 : Int32).toNatClampNeg (0 : Int32).toNatClampNeg (4 : Int32).toNatClampNeg))) (0 : Int32).toNatClampNeg (0 : Int32).toNatClampNeg (4 : Int32).toNatClampNeg)) (va_cpy (EV_stucks ev1) (EV_stucks (EV_s_ons (EV_s_sizes (EV_s_kinds ev (va_cpy (EV_kinds ev1) (EV_kinds ev) (0 : Int32).toNatClampNeg (0 : Int32).toNatClampNeg (4 : Int32).toNatClampNeg)) (va_cpy (EV_sizes ev1) (EV_sizes (EV_s_kinds ev (va_cpy (EV_kinds ev1) (EV_kinds ev) (0 : Int32).toNatClampNeg (0 : Int32).toNatClampNeg (4 : Int32).toNatClampNeg))) (0 : Int32).toNatClampNeg (0 : Int32).toNatClampNeg (4 : Int32).toNatClampNeg)) (va_cpy (EV_ons ev1) (EV_ons (EV_s_sizes (EV_s_kinds ev (va_cpy (EV_kinds ev1) (EV_kinds ev) (0 : Int32).toNatClampNeg (0 : Int32).toNatClampNeg (4 : Int32).toNatClampNeg)) (va_cpy (EV_sizes ev1) (EV_sizes (EV_s_kinds ev (va_cpy (EV_kinds ev1) (EV_kinds ev) (0 : Int32).toNatClampNeg (0 : Int32).toNatClampNeg (4 : Int32).toNatClampNeg))) (0 : Int32).toNatClampNeg (0 : Int32).toNatClampNeg (4 : Int32).toNatClampNeg))) (0 : Int32).toNatClampNeg (0 : Int32).toNatClampNeg (4 : Int32).toNatClampNeg))) (0 : Int32).toNatClampNeg (0 : Int32).toNatClampNeg (4 : Int32).toNatClampNeg))) (0 : Int32).toNatClampNeg (0 : Int32).toNatClampNeg (40 : Int32).toNatClampNeg)) (va_cpy (EV_nots ev1) (EV_nots (EV_s_musts (EV_s_stucks (EV_s_ons (EV_s_sizes (EV_s_kinds ev (va_cpy (EV_kinds ev1) (EV_kinds ev) (0 : Int32).toNatClampNeg (0 : Int32).toNatClampNeg (4 : Int32).toNatClampNeg)) (va_cpy (EV_sizes ev1) (EV_sizes (EV_s_kinds ev (va_cpy (EV_kinds ev1) (EV_kinds ev) (0 : Int32).toNatClampNeg (0 : Int32).toNatClampNeg (4 : Int32).toNatClampNeg))) (0 : Int32).toNatClampNeg (0 : Int32).toNatClampNeg (4 : Int32).toNatClampNeg)) (va_cpy (EV_ons ev1) (EV_ons (EV_s_sizes (EV_s_kinds ev (va_cpy (EV_kinds ev1) (EV_kinds ev) (0 : Int32).toNatClampNeg (0 : Int32).toNatClampNeg (4 : Int32).toNatClampNeg)) (va_cpy (EV_sizes ev1) (EV_sizes (EV_s_kinds ev (va_cpy (EV_kinds ev1) (EV_kinds ev) (0 : Int32).toNatClampNeg (0 : Int32).toNatClampNeg (4 : Int32).toNatClampNeg))) (0 : Int32).toNatClampNeg (0 : Int32).toNatClampNeg (4 : Int32).toNatClampNeg))) (0 : Int32).toNatClampNeg (0 : Int32).toNatClampNeg (4 : Int32).toNatClampNeg)) (va_cpy (EV_stucks ev1) (EV_stucks (EV_s_ons (EV_s_sizes (EV_s_kinds ev (va_cpy (EV_kinds ev1) (EV_kinds ev) (0 : Int32).toNatClampNeg (0 : Int32).toNatClampNeg (4 : Int32).toNatClampNeg)) (va_cpy (EV_sizes ev1) (EV_sizes (EV_s_kinds ev (va_cpy (EV_kinds ev1) (EV_kinds ev) (0 : Int32).toNatClampNeg (0 : Int32).toNatClampNeg (4 : Int32).toNatClampNeg))) (0 : Int32).toNatClampNeg (0 : Int32).toNatClampNeg (4 : Int32).toNatClampNeg)) (va_cpy (EV_ons ev1) (EV_ons (EV_s_sizes (EV_s_kinds ev (va_cpy (EV_kinds ev1) (EV_kinds ev) (0 : Int32).toNatClampNeg (0 : Int32).toNatClampNeg (4 : Int32).toNatClampNeg)) (va_cpy (EV_sizes ev1) (EV_sizes (EV_s_kinds ev (va_cpy (EV_kinds ev1) (EV_kinds ev) (0 : Int32).toNatClampNeg (0 : Int32).toNatClampNeg (4 : Int32).toNatClampNeg))) (0 : Int32).toNatClampNeg (0 : Int32).toNatClampNeg (4 : Int32).toNatClampNeg))) (0 : Int32).toNatClampNeg (0 : Int32).toNatClampNeg (4 : Int32).toNatClampNeg))) (0 : Int32).toNatClampNeg (0 : Int32).toNatClampNeg (4 : Int32).toNatClampNeg)) (va_cpy (EV_musts ev1) (EV_musts (EV_s_stucks (EV_s_ons (EV_s_sizes (EV_s_kinds ev (va_cpy (EV_kinds ev1) (EV_kinds ev) (0 : Int32).toNatClampNeg (0 : Int32).toNatClampNeg (4 : Int32).toNatClampNeg)) (va_cpy (EV_sizes ev1) (EV_sizes (EV_s_kinds ev (va_cpy (EV_kinds ev1) (EV_kinds ev) (0 : Int32).toNatClampNeg (0 : Int32).toNatClampNeg (4 : Int32).toNatClampNeg))) (0 : Int32).toNatClampNeg (0 : Int32).toNatClampNeg (4 : Int32).toNatClampNeg)) (va_cpy (EV_ons ev1) (EV_ons (EV_s_sizes (EV_s_kinds ev (va_cpy (EV_kinds ev1) (EV_kinds ev) (0 : Int32).toNatClampNeg (0 : Int32).toNatClampNeg (4 : Int32).toNatClampNeg)) (va_cpy (EV_sizes ev1) (EV_sizes (EV_s_kinds ev (va_cpy (EV_kinds ev1) (EV_kinds ev) (0 : Int32).toNatClampNeg (0 : Int32).toNatClampNeg (4 : Int32).toNatClampNeg))) (0 : Int32).toNatClampNeg (0 : Int32).toNatClampNeg (4 : Int32).toNatClampNeg))) (0 : Int32).toNatClampNeg (0 : Int32).toNatClampNeg (4 : Int32).toNatClampNeg)) (va_cpy (EV_stucks ev1) (EV_stucks (EV_s_ons (EV_s_sizes (EV_s_kinds ev (va_cpy (EV_kinds ev1) (EV_kinds ev) (0 : Int32).toNatClampNeg (0 : Int32).toNatClampNeg (4 : Int32).toNatClampNeg)) (va_cpy (EV_sizes ev1) (EV_sizes (EV_s_kinds ev (va_cpy (EV_kinds ev1) (EV_kinds ev) (0 : Int32).toNatClampNeg (0 : Int32).toNatClampNeg (4 : Int32).toNatClampNeg))) (0 : Int32).toNatClampNeg (0 : Int32).toNatClampNeg (4 : Int32).toNatClampNeg)) (va_cpy (EV_ons ev1) (EV_ons (EV_s_sizes (EV_s_kinds ev (va_cpy (EV_kinds ev1) (EV_kinds ev) (0 : Int32).toNatClampNeg (0 : Int32).toNatClampNeg (4 : Int32).toNatClampNeg)) (va_cpy (EV_sizes ev1) (EV_sizes (EV_s_kinds ev (va_cpy (EV_kinds ev1) (EV_kinds ev) (0 : Int32).toNatClampNeg (0 : Int32).toNatClampNeg (4 : Int32).toNatClampNeg))) (0 : Int32).toNatClampNeg (0 : Int32).toNatClampNeg (4 : Int32).toNatClampNeg))) (0 : Int32).toNatClampNeg (0 : Int32).toNatClampNeg (4 : Int32).toNatClampNeg))) (0 : Int32).toNatClampNeg (0 : Int32).toNatClampNeg (4 : Int32).toNatClampNeg))) (0 : Int32).toNatClampNeg (0 : Int32).toNatClampNeg (40 : Int32).toNatClampNeg))) (0 : Int32).toNatClampNeg (0 : Int32).toNatClampNeg (40 : Int32).toNatClampNeg)) (va_cpy (EV_ringMinutes ev1) (EV_ringMinutes (EV_s_nots (EV_s_musts (EV_s_stucks (EV_s_ons (EV_s_sizes (EV_s_kinds ev (va_cpy (EV_kinds ev1) (EV_kinds ev) (0 : Int32).toNatClampNeg (0 : Int32).toNatClampNeg (4 : Int32).toNatClampNeg)) (va_cpy (EV_sizes ev1) (EV_sizes (EV_s_kinds ev (va_cpy (EV_kinds ev1) (EV_kinds ev) (0 : Int32).toNatClampNeg (0 : Int32).toNatClampNeg (4 : Int32).toNatClampNeg))) (0 : Int32).toNatClampNeg (0 : Int32).toNatClampNeg (4 : Int32).toNatClampNeg)) (va_cpy (EV_ons ev1) (EV_ons (EV_s_sizes (EV_s_kinds ev (va_cpy (EV_kinds ev1) (EV_kinds ev) (0 : Int32).toNatClampNeg (0 : Int32).toNatClampNeg (4 : Int32).toNatClampNeg)) (va_cpy (EV_sizes ev1) (EV_sizes (EV_s_kinds ev (va_cpy (EV_kinds ev1) (EV_kinds ev) (0 : Int32).toNatClampNeg (0 : Int32).toNatClampNeg (4 : Int32).toNatClampNeg))) (0 : Int32).toNatClampNeg (0 : Int32).toNatClampNeg (4 : Int32).toNatClampNeg))) (0 : Int32).toNatClampNeg (0 : Int32).toNatClampNeg (4 : Int32).toNatClampNeg)) (va_cpy (EV_stucks ev1) (EV_stucks (EV_s_ons (EV_s_sizes (EV_s_kinds ev (va_cpy (EV_kinds ev1) (EV_kinds ev) (0 : Int32).toNatClampNeg (0 : Int32).toNatClampNeg (4 : Int32).toNatClampNeg)) (va_cpy (EV_sizes ev1) (EV_sizes (EV_s_kinds ev (va_cpy (EV_kinds ev1) (EV_kinds ev) (0 : Int32).toNatClampNeg (0 : Int32).toNatClampNeg (4 : Int32).toNatClampNeg))) (0 : Int32).toNatClampNeg (0 : Int32).toNatClampNeg (4 : Int32).toNatClampNeg)) (va_cpy (EV_ons ev1) (EV_ons (EV_s_sizes (EV_s_kinds ev (va_cpy (EV_kinds ev1) (EV_kinds ev) (0 : Int32).toNatClampNeg (0 : Int32).toNatClampNeg (4 : Int32).toNatClampNeg)) (va_cpy (EV_sizes ev1) (EV_sizes (EV_s_kinds ev (va_cpy (EV_kinds ev1) (EV_kinds ev) (0 : Int32).toNatClampNeg (0 : Int32).toNatClampNeg (4 : Int32).toNatClampNeg))) (0 : Int32).toNatClampNeg (0 : Int32).toNatClampNeg (4 : Int32).toNatClampNeg))) (0 : Int32).toNatClampNeg (0 : Int32).toNatClampNeg (4 : Int32).toNatClampNeg))) (0 : Int32).toNatClampNeg (0 : Int32).toNatClampNeg (4 : Int32).toNatClampNeg)) (va_cpy (EV_musts ev1) (EV_musts (EV_s_stucks (EV_s_ons (EV_s_sizes (EV_s_kinds ev (va_cpy (EV_kinds ev1) (EV_kinds ev) (0 : Int32).toNatClampNeg (0 : Int32).toNatClampNeg (4 : Int32).toNatClampNeg)) (va_cpy (EV_sizes ev1) (EV_sizes (EV_s_kinds ev (va_cpy (EV_kinds ev1) (EV_kinds ev) (0 : Int32).toNatClampNeg (0 : Int32).toNatClampNeg (4 : Int32).toNatClampNeg))) (0 : Int32).toNatClampNeg (0 : Int32).toNatClampNeg (4 : Int32).toNatClampNeg)) (va_cpy (EV_ons ev1) (EV_ons (EV_s_sizes (EV_s_kinds ev (va_cpy (EV_kinds ev1) (EV_kinds ev) (0 : Int32).toNatClampNeg (0 : Int32).toNatClampNeg (4 : Int32).toNatClampNeg)) (va_cpy (EV_sizes ev1) (EV_sizes (EV_s_kinds ev (va_cpy (EV_kinds ev1) (EV_kinds ev) (0 : Int32).toNatClampNeg (0 : Int32).toNatClampNeg (4 : Int32).toNatClampNeg))) (0 : Int32).toNatClampNeg (0 : Int32).toNatClampNeg (4 : Int32).toNatClampNeg))) (0 : Int32).toNatClampNeg (0 : Int32).toNatClampNeg (4 : Int32).toNatClampNeg)) (va_cpy (EV_stucks ev1) (EV_stucks (EV_s_ons (EV_s_sizes (EV_s_kinds ev (va_cpy (EV_kinds ev1) (EV_kinds ev) (0 : Int32).toNatClampNeg (0 : Int32).toNatClampNeg (4 : Int32).toNatClampNeg)) (va_cpy (EV_sizes ev1) (EV_sizes (EV_s_kinds ev (va_cpy (EV_kinds ev1) (EV_kinds ev) (0 : Int32).toNatClampNeg (0 : Int32).toNatClampNeg (4 : Int32).toNatClampNeg))) (0 : Int32).toNatClampNeg (0 : Int32).toNatClampNeg (4 : Int32).toNatClampNeg)) (va_cpy (EV_ons ev1) (EV_ons (EV_s_sizes (EV_s_kinds ev (va_cpy (EV_kinds ev1) (EV_kinds ev) (0 : Int32).toNatClampNeg (0 : Int32).toNatClampNeg (4 : Int32).toNatClampNeg)) (va_cpy (EV_sizes ev1) (EV_sizes (EV_s_kinds ev (va_cpy (EV_kinds ev1) (EV_kinds ev) (0 : Int32).toNatClampNeg (0 : Int32).toNatClampNeg (4 : Int32).toNatClampNeg))) (0 : Int32).toNatClampNeg (0 : Int32).toNatClampNeg (4 : Int32).toNatClampNeg))) (0 : Int32).toNatClampNeg (0 : Int32).toNatClampNeg (4 : Int32).toNatClampNeg))) (0 : Int32).toNatClampNeg (0 : Int32).toNatClampNeg (4 : Int32).toNatClampNeg))) (0 : Int32).toNatClampNeg (0 : Int32).toNatClampNeg (40 : Int32).toNatClampNeg)) (va_cpy (EV_nots ev1) (EV_nots (EV_s_musts (EV_s_stucks (EV_s_ons (EV_s_sizes (EV_s_kinds ev (va_cpy (EV_kinds ev1) (EV_kinds ev) (0 : Int32).toNatClampNeg (0 : Int32).toNatClampNeg (4 : Int32).toNatClampNeg)) (va_cpy (EV_sizes ev1) (EV_sizes (EV_s_kinds ev (va_cpy (EV_kinds ev1) (EV_kinds ev) (0 : Int32).toNatClampNeg (0 : Int32).toNatClampNeg (4 : Int32).toNatClampNeg))) (0 : Int32).toNatClampNeg (0 : Int32).toNatClampNeg (4 : Int32).toNatClampNeg)) (va_cpy (EV_ons ev1) (EV_ons (EV_s_sizes (EV_s_kinds ev (va_cpy (EV_kinds ev1) (EV_kinds ev) (0 : Int32).toNatClampNeg (0 : Int32).toNatClampNeg (4 : Int32).toNatClampNeg)) (va_cpy (EV_sizes ev1) (EV_sizes (EV_s_kinds ev (va_cpy (EV_kinds ev1) (EV_kinds ev) (0 : Int32).toNatClampNeg (0 : Int32).toNatClampNeg (4 : Int32).toNatClampNeg))) (0 : Int32).toNatClampNeg (0 : Int32).toNatClampNeg (4 : Int32).toNatClampNeg))) (0 : Int32).toNatClampNeg (0 : Int32).toNatClampNeg (4 : Int32).toNatClampNeg)) (va_cpy (EV_stucks ev1) (EV_stucks (EV_s_ons (EV_s_sizes (EV_s_kinds ev (va_cpy (EV_kinds ev1) (EV_kinds ev) (0 : Int32).toNatClampNeg (0 : Int32).toNatClampNeg (4 : Int32).toNatClampNeg)) (va_cpy (EV_sizes ev1) (EV_sizes (EV_s_kinds ev (va_cpy (EV_kinds ev1) (EV_kinds ev) (0 : Int32).toNatClampNeg (0 : Int32).toNatClampNeg (4 : Int32).toNatClampNeg))) (0 : Int32).toNatClampNeg (0 : Int32).toNatClampNeg (4 : Int32).toNatClampNeg)) (va_cpy (EV_ons ev1) (EV_ons (EV_s_sizes (EV_s_kinds ev (va_cpy (EV_kinds ev1) (EV_kinds ev) (0 : Int32).toNatClampNeg (0 : Int32).toNatClampNeg (4 : Int32).toNatClampNeg)) (va_cpy (EV_sizes ev1) (EV_sizes (EV_s_kinds ev (va_cpy (EV_kinds ev1) (EV_kinds ev) (0 : Int32).toNatClampNeg (0 : Int32).toNatClampNeg (4 : Int32).toNatClampNeg))) (0 : Int32).toNatClampNeg (0 : Int32).toNatClampNeg (4 : Int32).toNatClampNeg))) (0 : Int32).toNatClampNeg (0 : Int32).toNatClampNeg (4 : Int32).toNatClampNeg))) (0 : Int32).toNatClampNeg (0 : Int32).toNatClampNeg (4 : Int32).toNatClampNeg)) (va_cpy (EV_musts ev1) (EV_musts (EV_s_stucks (EV_s_ons (EV_s_sizes (EV_s_kinds ev (va_cpy (EV_kinds ev1) (EV_kinds ev) (0 : Int32).toNatClampNeg (0 : Int32).toNatClampNeg (4 : Int32).toNatClampNeg)) (va_cpy (EV_sizes ev1) (EV_sizes (EV_s_kinds ev (va_cpy (EV_kinds ev1) (EV_kinds ev) (0 : Int32).toNatClampNeg (0 : Int32).toNatClampNeg (4 : Int32).toNatClampNeg))) (0 : Int32).toNatClampNeg (0 : Int32).toNatClampNeg (4 : Int32).toNatClampNeg)) (va_cpy (EV_ons ev1) (EV_ons (EV_s_sizes (EV_s_kinds ev (va_cpy (EV_kinds ev1) (EV_kinds ev) (0 : Int32).toNatClampNeg (0 : Int32).toNatClampNeg (4 : Int32).toNatClampNeg)) (va_cpy (EV_sizes ev1) (EV_sizes (EV_s_kinds ev (va_cpy (EV_kinds ev1) (EV_kinds ev) (0 : Int32).toNatClampNeg (0 : Int32).toNatClampNeg (4 : Int32).toNatClampNeg))) (0 : Int32).toNatClampNeg (0 : Int32).toNatClampNeg (4 : Int32).toNatClampNeg))) (0 : Int32).toNatClampNeg (0 : Int32).toNatClampNeg (4 : Int32).toNatClampNeg)) (va_cpy (EV_stucks ev1) (EV_stucks (EV_s_ons (EV_s_sizes (EV_s_kinds ev (va_cpy (EV_kinds ev1) (EV_kinds ev) (0 : Int32).toNatClampNeg (0 : Int32).toNatClampNeg (4 : Int32).toNatClampNeg)) (va_cpy (EV_sizes ev1) (EV_sizes (EV_s_kinds ev (va_cpy (EV_kinds ev1) (EV_kinds ev) (0 : Int32).toNatClampNeg (0 : Int32).toNatClampNeg (4 : Int32).toNatClampNeg))) (0 : Int32).toNatClampNeg (0 : Int32).toNatClampNeg (4 : Int32).toNatClampNeg)) (va_cpy (EV_ons ev1) (EV_ons (EV_s_sizes (EV_s_kinds ev (va_cpy (EV_kinds ev1) (EV_kinds ev) (0 : Int32).toNatClampNeg (0 : Int32).toNatClampNeg (4 : Int32).toNatClampNeg)) (va_cpy (EV_sizes ev1) (EV_sizes (EV_s_kinds ev (va_cpy (EV_kinds ev1) (EV_kinds ev) (0 : Int32).toNatClampNeg (0 : Int32).toNatClampNeg (4 : Int32).toNatClampNeg))) (0 : Int32).toNatClampNeg (0 : Int32).toNatClampNeg (4 : Int32).toNatClampNeg))) (0 : Int32).toNatClampNeg (0 : Int32).toNatClampNeg (4 : Int32).toNatClampNeg))) (0 : Int32).toNatClampNeg (0 : Int32).toNatClampNeg (4 : Int32).toNatClampNeg))) (0 : Int32).toNatClampNeg (0 : Int32).toNatClampNeg (40 : Int32).toNatClampNeg))) (0 : Int32).toNatClampNeg (0 : Int32).toNatClampNeg (40 : Int32).toNatClampNeg))) (0 : Int32).toNatClampNeg (0 : Int32).toNatClampNeg (10 : Int32).toNatClampNeg)) (EV_bars ev1)) (EV_moved ev1)), wEV g ad1 ev1]) X hw 0 rfl kf_X0_37 dX0_become_114 rfl (fun H locs hw => ?_)
  refine lv_aload_n hx hb dX0_become_117 rfl (lv_at hl 0 rfl) ?_
  refine lv_aload_n hx hb dX0_become_118 rfl (lv_at hl 1 rfl) ?_
  refine EV_g_seed X hw 1 rfl kf_X0_40 dX0_become_119 ?_
  refine EV_p_seed (gs' := [wEV g ad (EV_s_seed (EV_s_moved (EV_s_bars (EV_s_ringMinutes (EV_s_nots (EV_s_musts (EV_s_stucks (EV_s_ons (EV_s_sizes (EV_s_kinds ev (va_cpy (EV_kinds ev1) (EV_kinds ev) (0 : Int32).toNatClampNeg (0 : Int32).toNatClampNeg (4 : Int32).toNatClampNeg)) (va_cpy (EV_sizes ev1) (EV_sizes (EV_s_kinds ev (va_cpy (EV_kinds ev1) (EV_kinds ev) (0 : Int32).toNatClampNeg (0 : Int32).toNatClampNeg (4 : Int32).toNatClampNeg))) (0 : Int32).toNatClampNeg (0 : Int32).toNatClampNeg (4 : Int32).toNatClampNeg)) (va_cpy (EV_ons ev1) (EV_ons (EV_s_sizes (EV_s_kinds ev (va_cpy (EV_kinds ev1) (EV_kinds ev) (0 : Int32).toNatClampNeg (0 : Int32).toNatClampNeg (4 : Int32).toNatClampNeg)) (va_cpy (EV_sizes ev1) (EV_sizes (EV_s_kinds ev (va_cpy (EV_kinds ev1) (EV_kinds ev) (0 : Int32).toNatClampNeg (0 : Int32).toNatClampNeg (4 : Int32).toNatClampNeg))) (0 : Int32).toNatClampNeg (0 : Int32).toNatClampNeg (4 : Int32).toNatClampNeg))) (0 : Int32).toNatClampNeg (0 : Int32).toNatClampNeg (4 : Int32).toNatClampNeg)) (va_cpy (EV_stucks ev1) (EV_stucks (EV_s_ons (EV_s_sizes (EV_s_kinds ev (va_cpy (EV_kinds ev1) (EV_kinds ev) (0 : Int32).toNatClampNeg (0 : Int32).toNatClampNeg (4 : Int32).toNatClampNeg)) (va_cpy (EV_sizes ev1) (EV_sizes (EV_s_kinds ev (va_cpy (EV_kinds ev1) (EV_kinds ev) (0 : Int32).toNatClampNeg (0 : Int32).toNatClampNeg (4 : Int32).toNatClampNeg))) (0 : Int32).toNatClampNeg (0 : Int32).toNatClampNeg (4 : Int32).toNatClampNeg)) (va_cpy (EV_ons ev1) (EV_ons (EV_s_sizes (EV_s_kinds ev (va_cpy (EV_kinds ev1) (EV_kinds ev) (0 : Int32).toNatClampNeg (0 : Int32).toNatClampNeg (4 : Int32).toNatClampNeg)) (va_cpy (EV_sizes ev1) (EV_sizes (EV_s_kinds ev (va_cpy (EV_kinds ev1) (EV_kinds ev) (0 : Int32).toNatClampNeg (0 : Int32).toNatClampNeg (4 : Int32).toNatClampNeg))) (0 : Int32).toNatClampNeg (0 : Int32).toNatClampNeg (4 : Int32).toNatClampNeg))) (0 : Int32).toNatClampNeg (0 : Int32).toNatClampNeg (4 : Int32).toNatClampNeg))) (0 : Int32).toNatClampNeg (0 : Int32).toNatClampNeg (4 : Int32).toNatClampNeg)) (va_cpy (EV_musts ev1) (EV_musts (EV_s_stucks (EV_s_ons (EV_s_sizes (EV_s_kinds ev (va_cpy (EV_kinds ev1) (EV_kinds ev) (0 : Int32).toNatClampNeg (0 : Int32).toNatClampNeg (4 : Int32).toNatClampNeg)) (va_cpy (EV_sizes ev1) (EV_sizes (EV_s_kinds ev (va_cpy (EV_kinds ev1) (EV_kinds ev) (0 : Int32).toNatClampNeg (0 : Int32).toNatClampNeg (4 : Int32).toNatClampNeg))) (0 : Int32).toNatClampNeg (0 : Int32).toNatClampNeg (4 : Int32).toNatClampNeg)) (va_cpy (EV_ons ev1) (EV_ons (EV_s_sizes (EV_s_kinds ev (va_cpy (EV_kinds ev1) (EV_kinds ev) (0 : Int32).toNatClampNeg (0 : Int32).toNatClampNeg (4 : Int32).toNatClampNeg)) (va_cpy (EV_sizes ev1) (EV_sizes (EV_s_kinds ev (va_cpy (EV_kinds ev1) (EV_kinds ev) (0 : Int32).toNatClampNeg (0 : Int32).toNatClampNeg (4 : Int32).toNatClampNeg))) (0 : Int32).toNatClampNeg (0 : Int32).toNatClampNeg (4 : Int32).toNatClampNeg))) (0 : Int32).toNatClampNeg (0 : Int32).toNatClampNeg (4 : Int32).toNatClampNeg)) (va_cpy (EV_stucks ev1) (EV_stucks (EV_s_ons (EV_s_sizes (EV_s_kinds ev (va_cpy (EV_kinds ev1) (EV_kinds ev) (0 : Int32).toNatClampNeg (0 : Int32).toNatClampNeg (4 : Int32).toNatClampNeg)) (va_cpy (EV_sizes ev1) (EV_sizes (EV_s_kinds ev (va_cpy (EV_kinds ev1) (EV_kinds ev) (0 : Int32).toNatClampNeg (0 : Int32).toNatClampNeg (4 : Int32).toNatClampNeg))) (0 : Int32).toNatClampNeg (0 : Int32).toNatClampNeg (4 : Int32).toNatClampNeg)) (va_cpy (EV_ons ev1) (EV_ons (EV_s_sizes (EV_s_kinds ev (va_cpy (EV_kinds ev1) (EV_kinds ev) (0 : Int32).toNatClampNeg (0 : Int32).toNatClampNeg (4 : Int32).toNatClampNeg)) (va_cpy (EV_sizes ev1) (EV_sizes (EV_s_kinds ev (va_cpy (EV_kinds ev1) (EV_kinds ev) (0 : Int32).toNatClampNeg (0 : Int32).toNatClampNeg (4 : Int32).toNatClampNeg))) (0 : Int32).toNatClampNeg (0 : Int32).toNatClampNeg (4 : Int32).toNatClampNeg))) (0 : Int32).toNatClampNeg (0 : Int32).toNatClampNeg (4 : Int32).toNatClampNeg))) (0 : Int32).toNatClampNeg (0 : Int32).toNatClampNeg (4 : Int32).toNatClampNeg))) (0 : Int32).toNatClampNeg (0 : Int32).toNatClampNeg (40 : Int32).toNatClampNeg)) (va_cpy (EV_nots ev1) (EV_nots (EV_s_musts (EV_s_stucks (EV_s_ons (EV_s_sizes (EV_s_kinds ev (va_cpy (EV_kinds ev1) (EV_kinds ev) (0 : Int32).toNatClampNeg (0 : Int32).toNatClampNeg (4 : Int32).toNatClampNeg)) (va_cpy (EV_sizes ev1) (EV_sizes (EV_s_kinds ev (va_cpy (EV_kinds ev1) (EV_kinds ev) (0 : Int32).toNatClampNeg (0 : Int32).toNatClampNeg (4 : Int32).toNatClampNeg))) (0 : Int32).toNatClampNeg (0 : Int32).toNatClampNeg (4 : Int32).toNatClampNeg)) (va_cpy (EV_ons ev1) (EV_ons (EV_s_sizes (EV_s_kinds ev (va_cpy (EV_kinds ev1) (EV_kinds ev) (0 : Int32).toNatClampNeg (0 : Int32).toNatClampNeg (4 : Int32).toNatClampNeg)) (va_cpy (EV_sizes ev1) (EV_sizes (EV_s_kinds ev (va_cpy (EV_kinds ev1) (EV_kinds ev) (0 : Int32).toNatClampNeg (0 : Int32).toNatClampNeg (4 : Int32).toNatClampNeg))) (0 : Int32).toNatClampNeg (0 : Int32).toNatClampNeg (4 : Int32).toNatClampNeg))) (0 : Int32).toNatClampNeg (0 : Int32).toNatClampNeg (4 : Int32).toNatClampNeg)) (va_cpy (EV_stucks ev1) (EV_stucks (EV_s_ons (EV_s_sizes (EV_s_kinds ev (va_cpy (EV_kinds ev1) (EV_kinds ev) (0 : Int32).toNatClampNeg (0 : Int32).toNatClampNeg (4 : Int32).toNatClampNeg)) (va_cpy (EV_sizes ev1) (EV_sizes (EV_s_kinds ev (va_cpy (EV_kinds ev1) (EV_kinds ev) (0 : Int32).toNatClampNeg (0 : Int32).toNatClampNeg (4 : Int32).toNatClampNeg))) (0 : Int32).toNatClampNeg (0 : Int32).toNatClampNeg (4 : Int32).toNatClampNeg)) (va_cpy (EV_ons ev1) (EV_ons (EV_s_sizes (EV_s_kinds ev (va_cpy (EV_kinds ev1) (EV_kinds ev) (0 : Int32).toNatClampNeg (0 : Int32).toNatClampNeg (4 : Int32).toNatClampNeg)) (va_cpy (EV_sizes ev1) (EV_sizes (EV_s_kinds ev (va_cpy (EV_kinds ev1) (EV_kinds ev) (0 : Int32).toNatClampNeg (0 : Int32).toNatClampNeg (4 : Int32).toNatClampNeg))) (0 : Int32).toNatClampNeg (0 : Int32).toNatClampNeg (4 : Int32).toNatClampNeg))) (0 : Int32).toNatClampNeg (0 : Int32).toNatClampNeg (4 : Int32).toNatClampNeg))) (0 : Int32).toNatClampNeg (0 : Int32).toNatClampNeg (4 : Int32).toNatClampNeg)) (va_cpy (EV_musts ev1) (EV_musts (EV_s_stucks (EV_s_ons (EV_s_sizes (EV_s_kinds ev (va_cpy (EV_kinds ev1) (EV_kinds ev) (0 : Int32).toNatClampNeg (0 : Int32).toNatClampNeg (4 : Int32).toNatClampNeg)) (va_cpy (EV_sizes ev1) (EV_sizes (EV_s_kinds ev (va_cpy (EV_kinds ev1) (EV_kinds ev) (0 : Int32).toNatClampNeg (0 : Int32).toNatClampNeg (4 : Int32).toNatClampNeg))) (0 : Int32).toNatClampNeg (0 : Int32).toNatClampNeg (4 : Int32).toNatClampNeg)) (va_cpy (EV_ons ev1) (EV_ons (EV_s_sizes (EV_s_kinds ev (va_cpy (EV_kinds ev1) (EV_kinds ev) (0 : Int32).toNatClampNeg (0 : Int32).toNatClampNeg (4 : Int32).toNatClampNeg)) (va_cpy (EV_sizes ev1) (EV_sizes (EV_s_kinds ev (va_cpy (EV_kinds ev1) (EV_kinds ev) (0 : Int32).toNatClampNeg (0 : Int32).toNatClampNeg (4 : Int32).toNatClampNeg))) (0 : Int32).toNatClampNeg (0 : Int32).toNatClampNeg (4 : Int32).toNatClampNeg))) (0 : Int32).toNatClampNeg (0 : Int32).toNatClampNeg (4 : Int32).toNatClampNeg)) (va_cpy (EV_stucks ev1) (EV_stucks (EV_s_ons (EV_s_sizes (EV_s_kinds ev (va_cpy (EV_kinds ev1) (EV_kinds ev) (0 : Int32).toNatClampNeg (0 : Int32).toNatClampNeg (4 : Int32).toNatClampNeg)) (va_cpy (EV_sizes ev1) (EV_sizes (EV_s_kinds ev (va_cpy (EV_kinds ev1) (EV_kinds ev) (0 : Int32).toNatClampNeg (0 : Int32).toNatClampNeg (4 : Int32).toNatClampNeg))) (0 : Int32).toNatClampNeg (0 : Int32).toNatClampNeg (4 : Int32).toNatClampNeg)) (va_cpy (EV_ons ev1) (EV_ons (EV_s_sizes (EV_s_kinds ev (va_cpy (EV_kinds ev1) (EV_kinds ev) (0 : Int32).toNatClampNeg (0 : Int32).toNatClampNeg (4 : Int32).toNatClampNeg)) (va_cpy (EV_sizes ev1) (EV_sizes (EV_s_kinds ev (va_cpy (EV_kinds ev1) (EV_kinds ev) (0 : Int32).toNatClampNeg (0 : Int32).toNatClampNeg (4 : Int32).toNatClampNeg))) (0 : Int32).toNatClampNeg (0 : Int32).toNatClampNeg (4 : Int32).toNatClampNeg))) (0 : Int32).toNatClampNeg (0 : Int32).toNatClampNeg (4 : Int32).toNatClampNeg))) (0 : Int32).toNatClampNeg (0 : Int32).toNatClampNeg (4 : Int32).toNatClampNeg))) (0 : Int32).toNatClampNeg (0 : Int32).toNatClampNeg (40 : Int32).toNatClampNeg))) (0 : Int32).toNatClampNeg (0 : Int32).toNatClampNeg (40 : Int32).toNatClampNeg)) (va_cpy (EV_ringMinutes ev1) (EV_ringMinutes (EV_s_nots (EV_s_musts (EV_s_stucks (EV_s_ons (EV_s_sizes (EV_s_kinds ev (va_cpy (EV_kinds ev1) (EV_kinds ev) (0 : Int32).toNatClampNeg (0 : Int32).toNatClampNeg (4 : Int32).toNatClampNeg)) (va_cpy (EV_sizes ev1) (EV_sizes (EV_s_kinds ev (va_cpy (EV_kinds ev1) (EV_kinds ev) (0 : Int32).toNatClampNeg (0 : Int32).toNatClampNeg (4 : Int32).toNatClampNeg))) (0 : Int32).toNatClampNeg (0 : Int32).toNatClampNeg (4 : Int32).toNatClampNeg)) (va_cpy (EV_ons ev1) (EV_ons (EV_s_sizes (EV_s_kinds ev (va_cpy (EV_kinds ev1) (EV_kinds ev) (0 : Int32).toNatClampNeg (0 : Int32).toNatClampNeg (4 : Int32).toNatClampNeg)) (va_cpy (EV_sizes ev1) (EV_sizes (EV_s_kinds ev (va_cpy (EV_kinds ev1) (EV_kinds ev) (0 : Int32).toNatClampNeg (0 : Int32).toNatClampNeg (4 : Int32).toNatClampNeg))) (0 : Int32).toNatClampNeg (0 : Int32).toNatClampNeg (4 : Int32).toNatClampNeg))) (0 : Int32).toNatClampNeg (0 : Int32).toNatClampNeg (4 : Int32).toNatClampNeg)) (va_cpy (EV_stucks ev1) (EV_stucks (EV_s_ons (EV_s_sizes (EV_s_kinds ev (va_cpy (EV_kinds ev1) (EV_kinds ev) (0 : Int32).toNatClampNeg (0 : Int32).toNatClampNeg (4 : Int32).toNatClampNeg)) (va_cpy (EV_sizes ev1) (EV_sizes (EV_s_kinds ev (va_cpy (EV_kinds ev1) (EV_kinds ev) (0 : Int32).toNatClampNeg (0 : Int32).toNatClampNeg (4 : Int32).toNatClampNeg))) (0 : Int32).toNatClampNeg (0 : Int32).toNatClampNeg (4 : Int32).toNatClampNeg)) (va_cpy (EV_ons ev1) (EV_ons (EV_s_sizes (EV_s_kinds ev (va_cpy (EV_kinds ev1) (EV_kinds ev) (0 : Int32).toNatClampNeg (0 : Int32).toNatClampNeg (4 : Int32).toNatClampNeg)) (va_cpy (EV_sizes ev1) (EV_sizes (EV_s_kinds ev (va_cpy (EV_kinds ev1) (EV_kinds ev) (0 : Int32).toNatClampNeg (0 : Int32).toNatClampNeg (4 : Int32).toNatClampNeg))) (0 : Int32).toNatClampNeg (0 : Int32).toNatClampNeg (4 : Int32).toNatClampNeg))) (0 : Int32).toNatClampNeg (0 : Int32).toNatClampNeg (4 : Int32).toNatClampNeg))) (0 : Int32).toNatClampNeg (0 : Int32).toNatClampNeg (4 : Int32).toNatClampNeg)) (va_cpy (EV_musts ev1) (EV_musts (EV_s_stucks (EV_s_ons (EV_s_sizes (EV_s_kinds ev (va_cpy (EV_kinds ev1) (EV_kinds ev) (0 : Int32).toNatClampNeg (0 : Int32).toNatClampNeg (4 : Int32).toNatClampNeg)) (va_cpy (EV_sizes ev1) (EV_sizes (EV_s_kinds ev (va_cpy (EV_kinds ev1) (EV_kinds ev) (0 : Int32).toNatClampNeg (0 : Int32).toNatClampNeg (4 : Int32).toNatClampNeg))) (0 : Int32).toNatClampNeg (0 : Int32).toNatClampNeg (4 : Int32).toNatClampNeg)) (va_cpy (EV_ons ev1) (EV_ons (EV_s_sizes (EV_s_kinds ev (va_cpy (EV_kinds ev1) (EV_kinds ev) (0 : Int32).toNatClampNeg (0 : Int32).toNatClampNeg (4 : Int32).toNatClampNeg)) (va_cpy (EV_sizes ev1) (EV_sizes (EV_s_kinds ev (va_cpy (EV_kinds ev1) (EV_kinds ev) (0 : Int32).toNatClampNeg (0 : Int32).toNatClampNeg (4 : Int32).toNatClampNeg))) (0 : Int32).toNatClampNeg (0 : Int32).toNatClampNeg (4 : Int32).toNatClampNeg))) (0 : Int32).toNatClampNeg (0 : Int32).toNatClampNeg (4 : Int32).toNatClampNeg)) (va_cpy (EV_stucks ev1) (EV_stucks (EV_s_ons (EV_s_sizes (EV_s_kinds ev (va_cpy (EV_kinds ev1) (EV_kinds ev) (0 : Int32).toNatClampNeg (0 : Int32).toNatClampNeg (4 : Int32).toNatClampNeg)) (va_cpy (EV_sizes ev1) (EV_sizes (EV_s_kinds ev (va_cpy (EV_kinds ev1) (EV_kinds ev) (0 : Int32).toNatClampNeg (0 : Int32).toNatClampNeg (4 : Int32).toNatClampNeg))) (0 : Int32).toNatClampNeg (0 : Int32).toNatClampNeg (4 : Int32).toNatClampNeg)) (va_cpy (EV_ons ev1) (EV_ons (EV_s_sizes (EV_s_kinds ev (va_cpy (EV_kinds ev1) (EV_kinds ev) (0 : Int32).toNatClampNeg (0 : Int32).toNatClampNeg (4 : Int32).toNatClampNeg)) (va_cpy (EV_sizes ev1) (EV_sizes (EV_s_kinds ev (va_cpy (EV_kinds ev1) (EV_kinds ev) (0 : Int32).toNatClampNeg (0 : Int32).toNatClampNeg (4 : Int32).toNatClampNeg))) (0 : Int32).toNatClampNeg (0 : Int32).toNatClampNeg (4 : Int32).toNatClampNeg))) (0 : Int32).toNatClampNeg (0 : Int32).toNatClampNeg (4 : Int32).toNatClampNeg))) (0 : Int32).toNatClampNeg (0 : Int32).toNatClampNeg (4 : Int32).toNatClampNeg))) (0 : Int32).toNatClampNeg (0 : Int32).toNatClampNeg (40 : Int32).toNatClampNeg)) (va_cpy (EV_nots ev1) (EV_nots (EV_s_musts (EV_s_stucks (EV_s_ons (EV_s_sizes (EV_s_kinds ev (va_cpy (EV_kinds ev1) (EV_kinds ev) (0 : Int32).toNatClampNeg (0 : Int32).toNatClampNeg (4 : Int32).toNatClampNeg)) (va_cpy (EV_sizes ev1) (EV_sizes (EV_s_kinds ev (va_cpy (EV_kinds ev1) (EV_kinds ev) (0 : Int32).toNatClampNeg (0 : Int32).toNatClampNeg (4 : Int32).toNatClampNeg))) (0 : Int32).toNatClampNeg (0 : Int32).toNatClampNeg (4 : Int32).toNatClampNeg)) (va_cpy (EV_ons ev1) (EV_ons (EV_s_sizes (EV_s_kinds ev (va_cpy (EV_kinds ev1) (EV_kinds ev) (0 : Int32).toNatClampNeg (0 : Int32).toNatClampNeg (4 : Int32).toNatClampNeg)) (va_cpy (EV_sizes ev1) (EV_sizes (EV_s_kinds ev (va_cpy (EV_kinds ev1) (EV_kinds ev) (0 : Int32).toNatClampNeg (0 : Int32).toNatClampNeg (4 : Int32).toNatClampNeg))) (0 : Int32).toNatClampNeg (0 : Int32).toNatClampNeg (4 : Int32).toNatClampNeg))) (0 : Int32).toNatClampNeg (0 : Int32).toNatClampNeg (4 : Int32).toNatClampNeg)) (va_cpy (EV_stucks ev1) (EV_stucks (EV_s_ons (EV_s_sizes (EV_s_kinds ev (va_cpy (EV_kinds ev1) (EV_kinds ev) (0 : Int32).toNatClampNeg (0 : Int32).toNatClampNeg (4 : Int32).toNatClampNeg)) (va_cpy (EV_sizes ev1) (EV_sizes (EV_s_kinds ev (va_cpy (EV_kinds ev1) (EV_kinds ev) (0 : Int32).toNatClampNeg (0 : Int32).toNatClampNeg (4 : Int32).toNatClampNeg))) (0 : Int32).toNatClampNeg (0 : Int32).toNatClampNeg (4 : Int32).toNatClampNeg)) (va_cpy (EV_ons ev1) (EV_ons (EV_s_sizes (EV_s_kinds ev (va_cpy (EV_kinds ev1) (EV_kinds ev) (0 : Int32).toNatClampNeg (0 : Int32).toNatClampNeg (4 : Int32).toNatClampNeg)) (va_cpy (EV_sizes ev1) (EV_sizes (EV_s_kinds ev (va_cpy (EV_kinds ev1) (EV_kinds ev) (0 : Int32).toNatClampNeg (0 : Int32).toNatClampNeg (4 : Int32).toNatClampNeg))) (0 : Int32).toNatClampNeg (0 : Int32).toNatClampNeg (4 : Int32).toNatClampNeg))) (0 : Int32).toNatClampNeg (0 : Int32).toNatClampNeg (4 : Int32).toNatClampNeg))) (0 : Int32).toNatClampNeg (0 : Int32).toNatClampNeg (4 : Int32).toNatClampNeg)) (va_cpy (EV_musts ev1) (EV_musts (EV_s_stucks (EV_s_ons (EV_s_sizes (EV_s_kinds ev (va_cpy (EV_kinds ev1) (EV_kinds ev) (0 : Int32).toNatClampNeg (0 : Int32).toNatClampNeg (4 : Int32).toNatClampNeg)) (va_cpy (EV_sizes ev1) (EV_sizes (EV_s_kinds ev (va_cpy (EV_kinds ev1) (EV_kinds ev) (0 : Int32).toNatClampNeg (0 : Int32).toNatClampNeg (4 : Int32).toNatClampNeg))) (0 : Int32).toNatClampNeg (0 : Int32).toNatClampNeg (4 : Int32).toNatClampNeg)) (va_cpy (EV_ons ev1) (EV_ons (EV_s_sizes (EV_s_kinds ev (va_cpy (EV_kinds ev1) (EV_kinds ev) (0 : Int32).toNatClampNeg (0 : Int32).toNatClampNeg (4 : Int32).toNatClampNeg)) (va_cpy (EV_sizes ev1) (EV_sizes (EV_s_kinds ev (va_cpy (EV_kinds ev1) (EV_kinds ev) (0 : Int32).toNatClampNeg (0 : Int32).toNatClampNeg (4 : Int32).toNatClampNeg))) (0 : Int32).toNatClampNeg (0 : Int32).toNatClampNeg (4 : Int32).toNatClampNeg))) (0 : Int32).toNatClampNeg (0 : Int32).toNatClampNeg (4 : Int32).toNatClampNeg)) (va_cpy (EV_stucks ev1) (EV_stucks (EV_s_ons (EV_s_sizes (EV_s_kinds ev (va_cpy (EV_kinds ev1) (EV_kinds ev) (0 : Int32).toNatClampNeg (0 : Int32).toNatClampNeg (4 : Int32).toNatClampNeg)) (va_cpy (EV_sizes ev1) (EV_sizes (EV_s_kinds ev (va_cpy (EV_kinds ev1) (EV_kinds ev) (0 : Int32).toNatClampNeg (0 : Int32).toNatClampNeg (4 : Int32).toNatClampNeg))) (0 : Int32).toNatClampNeg (0 : Int32).toNatClampNeg (4 : Int32).toNatClampNeg)) (va_cpy (EV_ons ev1) (EV_ons (EV_s_sizes (EV_s_kinds ev (va_cpy (EV_kinds ev1) (EV_kinds ev) (0 : Int32).toNatClampNeg (0 : Int32).toNatClampNeg (4 : Int32).toNatClampNeg)) (va_cpy (EV_sizes ev1) (EV_sizes (EV_s_kinds ev (va_cpy (EV_kinds ev1) (EV_kinds ev) (0 : Int32).toNatClampNeg (0 : Int32).toNatClampNeg (4 : Int32).toNatClampNeg))) (0 : Int32).toNatClampNeg (0 : Int32).toNatClampNeg (4 : Int32).toNatClampNeg))) (0 : Int32).toNatClampNeg (0 : Int32).toNatClampNeg (4 : Int32).toNatClampNeg))) (0 : Int32).toNatClampNeg (0 : Int32).toNatClampNeg (4 : Int32).toNatClampNeg))) (0 : Int32).toNatClampNeg (0 : Int32).toNatClampNeg (40 : Int32).toNatClampNeg))) (0 : Int32).toNatClampNeg (0 : Int32).toNatClampNeg (40 : Int32).toNatClampNeg))) (0 : Int32).toNatClampNeg (0 : Int32).toNatClampNeg (10 : Int32).toNatClampNeg)) (EV_bars ev1)) (EV_moved ev1)) (EV_seed ev1)), wEV g ad1 ev1]) X hw 0 rfl kf_X0_40 dX0_become_122 rfl (fun H locs hw => ?_)
  have h := Option.some.inj h
  subst h
  exact hret () dX0_become_125 hw
theorem kM_X0_hasMostBars : kM yX0_hasMostBars cX0_hasMostBars 1 (some FieldType.boolean) 0 := ⟨kc_X0_hasMostBars, kn_RingsOff_Evening, by decide +kernel⟩
abbrev R_X0_hasMostBars : Room := { frames := 0, cells := 0, slots := 0, locals := 0 }
set_option maxHeartbeats 4000000 in
set_option maxRecDepth 100000 in
theorem c_X0_hasMostBars (l : Launch) {ad : Nat → Nat} {N : Nat} {ev : EV} {out : Int32} (h : M_X0_hasMostBars N ev = some out) : gM l yX0_hasMostBars cX0_hasMostBars 1 (some FieldType.boolean) R_X0_hasMostBars (fun _ => [.ref (ad 0)]) (fun g => [wEV g ad ev]) (gQi (fun (_ : Unit) => out) (fun g (_ : Unit) => [wEV g ad ev])) := by
  refine gM.ofz (by decide +kernel) (fun _ => Nat.le_of_ble_eq_true rfl) (fun g p e s m args below meth c A ls Q X hret hw hl => ?_)
  have hx := X.1.1
  have hb := X.1.2.1
  have hl : lv_has ls 1 [(0, .ref (ad 0))] := hl
  unfold M_X0_hasMostBars at h
  refine lv_aload_n hx hb dX0_hasMostBars_0 rfl (lv_at hl 0 rfl) ?_
  refine EV_g_bars X hw 0 rfl kf_X0_33 dX0_hasMostBars_1 ?_
  refine lv_iconst (v := 4) hx hb dX0_hasMostBars_4 (by decide) ?_
  refine lv_icmp_lt (tgt := 12) hx hb dX0_hasMostBars_5 (by decide) (fun k5 => ?_) (fun k5 => ?_)
  · have h := itt k5 h
    refine lv_iconst (v := 0) hx hb dX0_hasMostBars_12 (by decide) ?_
    have h := Option.some.inj h
    subst h
    exact hret () dX0_hasMostBars_13 (by decide) rfl hw
  · have h := itf k5 h
    refine lv_iconst (v := 1) hx hb dX0_hasMostBars_8 (by decide) ?_
    refine lv_goto (tgt := 13) hx hb dX0_hasMostBars_9 (by decide) ?_
    have h := Option.some.inj h
    subst h
    exact hret () dX0_hasMostBars_13 (by decide) rfl hw
theorem kM_X0_hasBar : kM yX0_hasBar cX0_hasBar 2 (some FieldType.boolean) 1 := ⟨kc_X0_hasBar, kn_RingsOff_Evening, by decide +kernel⟩
abbrev R_X0_hasBar : Room := { frames := 0, cells := 0, slots := 0, locals := 0 }
set_option maxHeartbeats 4000000 in
set_option maxRecDepth 100000 in
theorem c_X0_hasBar (l : Launch) {ad : Nat → Nat} {N : Nat} {ev : EV} {p1 : Int32} {out : Int32} (h : M_X0_hasBar N ev p1 = some out) : gM l yX0_hasBar cX0_hasBar 2 (some FieldType.boolean) R_X0_hasBar (fun _ => [.ref (ad 0), .int p1]) (fun g => [wEV g ad ev]) (gQi (fun (_ : Unit) => out) (fun g (_ : Unit) => [wEV g ad ev])) := by
  refine gM.ofz (by decide +kernel) (fun _ => Nat.le_of_ble_eq_true rfl) (fun g p e s m args below meth c A ls Q X hret hw hl => ?_)
  have hx := X.1.1
  have hb := X.1.2.1
  have hl : lv_has ls 2 [(0, .ref (ad 0)), (1, .int p1)] := hl
  unfold M_X0_hasBar at h
  refine lv_iload_n hx hb dX0_hasBar_0 rfl (lv_at hl 1 rfl) ?_
  refine lv_if_lt (tgt := 21) hx hb dX0_hasBar_1 (by decide) (fun k1 => ?_) (fun k1 => ?_)
  · have h := itt k1 h
    refine lv_iconst (v := 0) hx hb dX0_hasBar_21 (by decide) ?_
    have h := Option.some.inj h
    subst h
    exact hret () dX0_hasBar_22 (by decide) rfl hw
  · have h := itf k1 h
    refine lv_iload_n hx hb dX0_hasBar_4 rfl (lv_at hl 1 rfl) ?_
    refine lv_aload_n hx hb dX0_hasBar_5 rfl (lv_at hl 0 rfl) ?_
    refine EV_g_bars X hw 0 rfl kf_X0_33 dX0_hasBar_6 ?_
    refine lv_icmp_ge (tgt := 21) hx hb dX0_hasBar_9 (by decide) (fun k9 => ?_) (fun k9 => ?_)
    · have h := itt k9 h
      refine lv_iconst (v := 0) hx hb dX0_hasBar_21 (by decide) ?_
      have h := Option.some.inj h
      subst h
      exact hret () dX0_hasBar_22 (by decide) rfl hw
    · have h := itf k9 h
      refine lv_iload_n hx hb dX0_hasBar_12 rfl (lv_at hl 1 rfl) ?_
      refine lv_iconst (v := 4) hx hb dX0_hasBar_13 (by decide) ?_
      refine lv_icmp_ge (tgt := 21) hx hb dX0_hasBar_14 (by decide) (fun k14 => ?_) (fun k14 => ?_)
      · have h := itt k14 h
        refine lv_iconst (v := 0) hx hb dX0_hasBar_21 (by decide) ?_
        have h := Option.some.inj h
        subst h
        exact hret () dX0_hasBar_22 (by decide) rfl hw
      · have h := itf k14 h
        refine lv_iconst (v := 1) hx hb dX0_hasBar_17 (by decide) ?_
        refine lv_goto (tgt := 22) hx hb dX0_hasBar_18 (by decide) ?_
        have h := Option.some.inj h
        subst h
        exact hret () dX0_hasBar_22 (by decide) rfl hw
theorem kM_X0_hasSet : kM yX0_hasSet cX0_hasSet 4 (some FieldType.boolean) 2 := ⟨kc_X0_hasSet, kn_RingsOff_Evening, by decide +kernel⟩
abbrev R_X0_hasSet : Room := { frames := 1, cells := 0, slots := 0, locals := 21 }
set_option maxHeartbeats 4000000 in
set_option maxRecDepth 100000 in
theorem c_X0_hasSet (l : Launch) {ad : Nat → Nat} {N : Nat} {ev : EV} {p1 : Int32} {p2 : Int64} {out : Int32} (h : M_X0_hasSet N ev p1 p2 = some out) : gM l yX0_hasSet cX0_hasSet 4 (some FieldType.boolean) R_X0_hasSet (fun _ => [.ref (ad 0), .int p1, .long p2]) (fun g => [wEV g ad ev]) (gQi (fun (_ : Unit) => out) (fun g (_ : Unit) => [wEV g ad ev])) := by
  refine gM.ofz (by decide +kernel) (fun _ => Nat.le_of_ble_eq_true rfl) (fun g p e s m args below meth c A ls Q X hret hw hl => ?_)
  have hx := X.1.1
  have hb := X.1.2.1
  have hl : lv_has ls 4 [(0, .ref (ad 0)), (1, .int p1), (2, .long p2)] := hl
  unfold M_X0_hasSet at h
  refine lv_aload_n hx hb dX0_hasSet_0 rfl (lv_at hl 0 rfl) ?_
  refine lv_iload_n hx hb dX0_hasSet_1 rfl (lv_at hl 1 rfl) ?_
  obtain ⟨r2, h2, h⟩ := bnd h
  refine g_calli0 (isC := [0]) (gn := fun _ => [wEV g ad ev]) (g_runV (isC := [0]) (rest := []) (As := [.int p1]) X hw (c_X0_hasBar l (ad := ad) h2) rfl kM_X0_hasBar ki_X0_hasBar ks_X0_hasBar km_X0_55 ⟨(Nat.le_of_ble_eq_true rfl), (Nat.le_of_ble_eq_true rfl)⟩ ⟨(Nat.le_of_ble_eq_true rfl), (Nat.le_of_ble_eq_true rfl)⟩ rfl rfl ⟨_, _, _, _, rfl, rfl, rfl, rfl⟩ rfl hl.1 rfl (Nat.le_of_ble_eq_true rfl) dX0_hasSet_2) hw rfl rfl (fun _ => (Nat.le_of_ble_eq_true rfl)) (fun _ => rfl) rfl rfl (fun _ H locs hw => ?_)
  refine lv_if_eq (tgt := 31) hx hb dX0_hasSet_5 (by decide) (fun k5 => ?_) (fun k5 => ?_)
  · have h := itt k5 h
    refine lv_iconst (v := 0) hx hb dX0_hasSet_31 (by decide) ?_
    have h := Option.some.inj h
    subst h
    exact hret () dX0_hasSet_32 (by decide) rfl hw
  · have h := itf k5 h
    refine lv_lload_n hx hb dX0_hasSet_8 rfl (lv_at hl 2 rfl) ?_
    refine lv_lconst (v := 0) hx hb dX0_hasSet_9 (by decide) ?_
    refine W.lcmp hx hb dX0_hasSet_10 ?_
    refine lv_if_lt (tgt := 31) hx hb dX0_hasSet_11 (by decide) (fun k11 => ?_) (fun k11 => ?_)
    · have h := itt k11 h
      refine lv_iconst (v := 0) hx hb dX0_hasSet_31 (by decide) ?_
      have h := Option.some.inj h
      subst h
      exact hret () dX0_hasSet_32 (by decide) rfl hw
    · have h := itf k11 h
      refine lv_lload_n hx hb dX0_hasSet_14 rfl (lv_at hl 2 rfl) ?_
      refine lv_lconst (v := 1) hx hb dX0_hasSet_15 (by decide) ?_
      refine lv_aload_n hx hb dX0_hasSet_16 rfl (lv_at hl 0 rfl) ?_
      refine EV_g_sizes X hw 0 rfl kf_X0_15 dX0_hasSet_17 ?_
      refine lv_iload_n hx hb dX0_hasSet_20 rfl (lv_at hl 1 rfl) ?_
      obtain ⟨q21, h⟩ := chk h
      refine EV_l_sizes X hw 0 rfl q21 dX0_hasSet_21 ?_
      refine lv_lshl (v := (jlshl (1 : Int64) (EV_sizes ev p1.toNatClampNeg))) hx hb dX0_hasSet_22 rfl ?_
      refine W.lcmp hx hb dX0_hasSet_23 ?_
      refine lv_if_ge (tgt := 31) hx hb dX0_hasSet_24 (by decide) (fun k24 => ?_) (fun k24 => ?_)
      · have h := itt k24 h
        refine lv_iconst (v := 0) hx hb dX0_hasSet_31 (by decide) ?_
        have h := Option.some.inj h
        subst h
        exact hret () dX0_hasSet_32 (by decide) rfl hw
      · have h := itf k24 h
        refine lv_iconst (v := 1) hx hb dX0_hasSet_27 (by decide) ?_
        refine lv_goto (tgt := 32) hx hb dX0_hasSet_28 (by decide) ?_
        have h := Option.some.inj h
        subst h
        exact hret () dX0_hasSet_32 (by decide) rfl hw
theorem kM_X0_hasRing : kM yX0_hasRing cX0_hasRing 3 (some FieldType.boolean) 2 := ⟨kc_X0_hasRing, kn_RingsOff_Evening, by decide +kernel⟩
abbrev R_X0_hasRing : Room := { frames := 1, cells := 0, slots := 0, locals := 21 }
set_option maxHeartbeats 4000000 in
set_option maxRecDepth 100000 in
theorem c_X0_hasRing (l : Launch) {ad : Nat → Nat} {N : Nat} {ev : EV} {p1 : Int32} {p2 : Int32} {out : Int32} (h : M_X0_hasRing N ev p1 p2 = some out) : gM l yX0_hasRing cX0_hasRing 3 (some FieldType.boolean) R_X0_hasRing (fun _ => [.ref (ad 0), .int p1, .int p2]) (fun g => [wEV g ad ev]) (gQi (fun (_ : Unit) => out) (fun g (_ : Unit) => [wEV g ad ev])) := by
  refine gM.ofz (by decide +kernel) (fun _ => Nat.le_of_ble_eq_true rfl) (fun g p e s m args below meth c A ls Q X hret hw hl => ?_)
  have hx := X.1.1
  have hb := X.1.2.1
  have hl : lv_has ls 3 [(0, .ref (ad 0)), (1, .int p1), (2, .int p2)] := hl
  unfold M_X0_hasRing at h
  refine lv_aload_n hx hb dX0_hasRing_0 rfl (lv_at hl 0 rfl) ?_
  refine lv_iload_n hx hb dX0_hasRing_1 rfl (lv_at hl 1 rfl) ?_
  obtain ⟨r2, h2, h⟩ := bnd h
  refine g_calli0 (isC := [0]) (gn := fun _ => [wEV g ad ev]) (g_runV (isC := [0]) (rest := []) (As := [.int p1]) X hw (c_X0_hasBar l (ad := ad) h2) rfl kM_X0_hasBar ki_X0_hasBar ks_X0_hasBar km_X0_55 ⟨(Nat.le_of_ble_eq_true rfl), (Nat.le_of_ble_eq_true rfl)⟩ ⟨(Nat.le_of_ble_eq_true rfl), (Nat.le_of_ble_eq_true rfl)⟩ rfl rfl ⟨_, _, _, _, rfl, rfl, rfl, rfl⟩ rfl hl.1 rfl (Nat.le_of_ble_eq_true rfl) dX0_hasRing_2) hw rfl rfl (fun _ => (Nat.le_of_ble_eq_true rfl)) (fun _ => rfl) rfl rfl (fun _ H locs hw => ?_)
  refine lv_if_eq (tgt := 32) hx hb dX0_hasRing_5 (by decide) (fun k5 => ?_) (fun k5 => ?_)
  · have h := itt k5 h
    refine lv_iconst (v := 0) hx hb dX0_hasRing_32 (by decide) ?_
    have h := Option.some.inj h
    subst h
    exact hret () dX0_hasRing_33 (by decide) rfl hw
  · have h := itf k5 h
    refine lv_iload_n hx hb dX0_hasRing_8 rfl (lv_at hl 2 rfl) ?_
    refine lv_if_lt (tgt := 32) hx hb dX0_hasRing_9 (by decide) (fun k9 => ?_) (fun k9 => ?_)
    · have h := itt k9 h
      refine lv_iconst (v := 0) hx hb dX0_hasRing_32 (by decide) ?_
      have h := Option.some.inj h
      subst h
      exact hret () dX0_hasRing_33 (by decide) rfl hw
    · have h := itf k9 h
      refine lv_iload_n hx hb dX0_hasRing_12 rfl (lv_at hl 2 rfl) ?_
      refine lv_aload_n hx hb dX0_hasRing_13 rfl (lv_at hl 0 rfl) ?_
      refine EV_g_sizes X hw 0 rfl kf_X0_15 dX0_hasRing_14 ?_
      refine lv_iload_n hx hb dX0_hasRing_17 rfl (lv_at hl 1 rfl) ?_
      obtain ⟨q18, h⟩ := chk h
      refine EV_l_sizes X hw 0 rfl q18 dX0_hasRing_18 ?_
      refine lv_icmp_ge (tgt := 32) hx hb dX0_hasRing_19 (by decide) (fun k19 => ?_) (fun k19 => ?_)
      · have h := itt k19 h
        refine lv_iconst (v := 0) hx hb dX0_hasRing_32 (by decide) ?_
        have h := Option.some.inj h
        subst h
        exact hret () dX0_hasRing_33 (by decide) rfl hw
      · have h := itf k19 h
        refine lv_iload_n hx hb dX0_hasRing_22 rfl (lv_at hl 2 rfl) ?_
        refine lv_bipush (v := 10) hx hb dX0_hasRing_23 (by decide) ?_
        refine lv_icmp_ge (tgt := 32) hx hb dX0_hasRing_25 (by decide) (fun k25 => ?_) (fun k25 => ?_)
        · have h := itt k25 h
          refine lv_iconst (v := 0) hx hb dX0_hasRing_32 (by decide) ?_
          have h := Option.some.inj h
          subst h
          exact hret () dX0_hasRing_33 (by decide) rfl hw
        · have h := itf k25 h
          refine lv_iconst (v := 1) hx hb dX0_hasRing_28 (by decide) ?_
          refine lv_goto (tgt := 33) hx hb dX0_hasRing_29 (by decide) ?_
          have h := Option.some.inj h
          subst h
          exact hret () dX0_hasRing_33 (by decide) rfl hw
theorem kM_X0_kindOf : kM yX0_kindOf cX0_kindOf 2 (some FieldType.int) 1 := ⟨kc_X0_kindOf, kn_RingsOff_Evening, by decide +kernel⟩
abbrev R_X0_kindOf : Room := { frames := 1, cells := 0, slots := 0, locals := 21 }
set_option maxHeartbeats 4000000 in
set_option maxRecDepth 100000 in
theorem c_X0_kindOf (l : Launch) {ad : Nat → Nat} {N : Nat} {ev : EV} {p1 : Int32} {out : Int32} (h : M_X0_kindOf N ev p1 = some out) : gM l yX0_kindOf cX0_kindOf 2 (some FieldType.int) R_X0_kindOf (fun _ => [.ref (ad 0), .int p1]) (fun g => [wEV g ad ev]) (gQi (fun (_ : Unit) => out) (fun g (_ : Unit) => [wEV g ad ev])) := by
  refine gM.ofi (by decide +kernel) (fun _ => Nat.le_of_ble_eq_true rfl) (fun g p e s m args below meth c A ls Q X hret hw hl => ?_)
  have hx := X.1.1
  have hb := X.1.2.1
  have hl : lv_has ls 2 [(0, .ref (ad 0)), (1, .int p1)] := hl
  unfold M_X0_kindOf at h
  refine lv_aload_n hx hb dX0_kindOf_0 rfl (lv_at hl 0 rfl) ?_
  refine lv_iload_n hx hb dX0_kindOf_1 rfl (lv_at hl 1 rfl) ?_
  obtain ⟨r2, h2, h⟩ := bnd h
  refine g_calli0 (isC := [0]) (gn := fun _ => [wEV g ad ev]) (g_runV (isC := [0]) (rest := []) (As := [.int p1]) X hw (c_X0_hasBar l (ad := ad) h2) rfl kM_X0_hasBar ki_X0_hasBar ks_X0_hasBar km_X0_55 ⟨(Nat.le_of_ble_eq_true rfl), (Nat.le_of_ble_eq_true rfl)⟩ ⟨(Nat.le_of_ble_eq_true rfl), (Nat.le_of_ble_eq_true rfl)⟩ rfl rfl ⟨_, _, _, _, rfl, rfl, rfl, rfl⟩ rfl hl.1 rfl (Nat.le_of_ble_eq_true rfl) dX0_kindOf_2) hw rfl rfl (fun _ => (Nat.le_of_ble_eq_true rfl)) (fun _ => rfl) rfl rfl (fun _ H locs hw => ?_)
  refine lv_if_eq (tgt := 17) hx hb dX0_kindOf_5 (by decide) (fun k5 => ?_) (fun k5 => ?_)
  · have h := itt k5 h
    refine lv_iconst (v := -1) hx hb dX0_kindOf_17 (by decide) ?_
    have h := Option.some.inj h
    subst h
    exact hret () dX0_kindOf_18 rfl hw
  · have h := itf k5 h
    refine lv_aload_n hx hb dX0_kindOf_8 rfl (lv_at hl 0 rfl) ?_
    refine EV_g_kinds X hw 0 rfl kf_X0_9 dX0_kindOf_9 ?_
    refine lv_iload_n hx hb dX0_kindOf_12 rfl (lv_at hl 1 rfl) ?_
    obtain ⟨q13, h⟩ := chk h
    refine EV_l_kinds X hw 0 rfl q13 dX0_kindOf_13 ?_
    refine lv_goto (tgt := 18) hx hb dX0_kindOf_14 (by decide) ?_
    have h := Option.some.inj h
    subst h
    exact hret () dX0_kindOf_18 rfl hw
theorem kM_X0_sizeOf : kM yX0_sizeOf cX0_sizeOf 2 (some FieldType.int) 1 := ⟨kc_X0_sizeOf, kn_RingsOff_Evening, by decide +kernel⟩
abbrev R_X0_sizeOf : Room := { frames := 1, cells := 0, slots := 0, locals := 21 }
set_option maxHeartbeats 4000000 in
set_option maxRecDepth 100000 in
theorem c_X0_sizeOf (l : Launch) {ad : Nat → Nat} {N : Nat} {ev : EV} {p1 : Int32} {out : Int32} (h : M_X0_sizeOf N ev p1 = some out) : gM l yX0_sizeOf cX0_sizeOf 2 (some FieldType.int) R_X0_sizeOf (fun _ => [.ref (ad 0), .int p1]) (fun g => [wEV g ad ev]) (gQi (fun (_ : Unit) => out) (fun g (_ : Unit) => [wEV g ad ev])) := by
  refine gM.ofi (by decide +kernel) (fun _ => Nat.le_of_ble_eq_true rfl) (fun g p e s m args below meth c A ls Q X hret hw hl => ?_)
  have hx := X.1.1
  have hb := X.1.2.1
  have hl : lv_has ls 2 [(0, .ref (ad 0)), (1, .int p1)] := hl
  unfold M_X0_sizeOf at h
  refine lv_aload_n hx hb dX0_sizeOf_0 rfl (lv_at hl 0 rfl) ?_
  refine lv_iload_n hx hb dX0_sizeOf_1 rfl (lv_at hl 1 rfl) ?_
  obtain ⟨r2, h2, h⟩ := bnd h
  refine g_calli0 (isC := [0]) (gn := fun _ => [wEV g ad ev]) (g_runV (isC := [0]) (rest := []) (As := [.int p1]) X hw (c_X0_hasBar l (ad := ad) h2) rfl kM_X0_hasBar ki_X0_hasBar ks_X0_hasBar km_X0_55 ⟨(Nat.le_of_ble_eq_true rfl), (Nat.le_of_ble_eq_true rfl)⟩ ⟨(Nat.le_of_ble_eq_true rfl), (Nat.le_of_ble_eq_true rfl)⟩ rfl rfl ⟨_, _, _, _, rfl, rfl, rfl, rfl⟩ rfl hl.1 rfl (Nat.le_of_ble_eq_true rfl) dX0_sizeOf_2) hw rfl rfl (fun _ => (Nat.le_of_ble_eq_true rfl)) (fun _ => rfl) rfl rfl (fun _ H locs hw => ?_)
  refine lv_if_eq (tgt := 17) hx hb dX0_sizeOf_5 (by decide) (fun k5 => ?_) (fun k5 => ?_)
  · have h := itt k5 h
    refine lv_iconst (v := 0) hx hb dX0_sizeOf_17 (by decide) ?_
    have h := Option.some.inj h
    subst h
    exact hret () dX0_sizeOf_18 rfl hw
  · have h := itf k5 h
    refine lv_aload_n hx hb dX0_sizeOf_8 rfl (lv_at hl 0 rfl) ?_
    refine EV_g_sizes X hw 0 rfl kf_X0_15 dX0_sizeOf_9 ?_
    refine lv_iload_n hx hb dX0_sizeOf_12 rfl (lv_at hl 1 rfl) ?_
    obtain ⟨q13, h⟩ := chk h
    refine EV_l_sizes X hw 0 rfl q13 dX0_sizeOf_13 ?_
    refine lv_goto (tgt := 18) hx hb dX0_sizeOf_14 (by decide) ?_
    have h := Option.some.inj h
    subst h
    exact hret () dX0_sizeOf_18 rfl hw
theorem kM_X0_onOf : kM yX0_onOf cX0_onOf 2 (some FieldType.int) 1 := ⟨kc_X0_onOf, kn_RingsOff_Evening, by decide +kernel⟩
abbrev R_X0_onOf : Room := { frames := 1, cells := 0, slots := 0, locals := 21 }
set_option maxHeartbeats 4000000 in
set_option maxRecDepth 100000 in
theorem c_X0_onOf (l : Launch) {ad : Nat → Nat} {N : Nat} {ev : EV} {p1 : Int32} {out : Int32} (h : M_X0_onOf N ev p1 = some out) : gM l yX0_onOf cX0_onOf 2 (some FieldType.int) R_X0_onOf (fun _ => [.ref (ad 0), .int p1]) (fun g => [wEV g ad ev]) (gQi (fun (_ : Unit) => out) (fun g (_ : Unit) => [wEV g ad ev])) := by
  refine gM.ofi (by decide +kernel) (fun _ => Nat.le_of_ble_eq_true rfl) (fun g p e s m args below meth c A ls Q X hret hw hl => ?_)
  have hx := X.1.1
  have hb := X.1.2.1
  have hl : lv_has ls 2 [(0, .ref (ad 0)), (1, .int p1)] := hl
  unfold M_X0_onOf at h
  refine lv_aload_n hx hb dX0_onOf_0 rfl (lv_at hl 0 rfl) ?_
  refine lv_iload_n hx hb dX0_onOf_1 rfl (lv_at hl 1 rfl) ?_
  obtain ⟨r2, h2, h⟩ := bnd h
  refine g_calli0 (isC := [0]) (gn := fun _ => [wEV g ad ev]) (g_runV (isC := [0]) (rest := []) (As := [.int p1]) X hw (c_X0_hasBar l (ad := ad) h2) rfl kM_X0_hasBar ki_X0_hasBar ks_X0_hasBar km_X0_55 ⟨(Nat.le_of_ble_eq_true rfl), (Nat.le_of_ble_eq_true rfl)⟩ ⟨(Nat.le_of_ble_eq_true rfl), (Nat.le_of_ble_eq_true rfl)⟩ rfl rfl ⟨_, _, _, _, rfl, rfl, rfl, rfl⟩ rfl hl.1 rfl (Nat.le_of_ble_eq_true rfl) dX0_onOf_2) hw rfl rfl (fun _ => (Nat.le_of_ble_eq_true rfl)) (fun _ => rfl) rfl rfl (fun _ H locs hw => ?_)
  refine lv_if_eq (tgt := 17) hx hb dX0_onOf_5 (by decide) (fun k5 => ?_) (fun k5 => ?_)
  · have h := itt k5 h
    refine lv_iconst (v := 0) hx hb dX0_onOf_17 (by decide) ?_
    have h := Option.some.inj h
    subst h
    exact hret () dX0_onOf_18 rfl hw
  · have h := itf k5 h
    refine lv_aload_n hx hb dX0_onOf_8 rfl (lv_at hl 0 rfl) ?_
    refine EV_g_ons X hw 0 rfl kf_X0_18 dX0_onOf_9 ?_
    refine lv_iload_n hx hb dX0_onOf_12 rfl (lv_at hl 1 rfl) ?_
    obtain ⟨q13, h⟩ := chk h
    refine EV_l_ons X hw 0 rfl q13 dX0_onOf_13 ?_
    refine lv_goto (tgt := 18) hx hb dX0_onOf_14 (by decide) ?_
    have h := Option.some.inj h
    subst h
    exact hret () dX0_onOf_18 rfl hw
theorem kM_X0_stuckOf : kM yX0_stuckOf cX0_stuckOf 2 (some FieldType.int) 1 := ⟨kc_X0_stuckOf, kn_RingsOff_Evening, by decide +kernel⟩
abbrev R_X0_stuckOf : Room := { frames := 1, cells := 0, slots := 0, locals := 21 }
set_option maxHeartbeats 4000000 in
set_option maxRecDepth 100000 in
theorem c_X0_stuckOf (l : Launch) {ad : Nat → Nat} {N : Nat} {ev : EV} {p1 : Int32} {out : Int32} (h : M_X0_stuckOf N ev p1 = some out) : gM l yX0_stuckOf cX0_stuckOf 2 (some FieldType.int) R_X0_stuckOf (fun _ => [.ref (ad 0), .int p1]) (fun g => [wEV g ad ev]) (gQi (fun (_ : Unit) => out) (fun g (_ : Unit) => [wEV g ad ev])) := by
  refine gM.ofi (by decide +kernel) (fun _ => Nat.le_of_ble_eq_true rfl) (fun g p e s m args below meth c A ls Q X hret hw hl => ?_)
  have hx := X.1.1
  have hb := X.1.2.1
  have hl : lv_has ls 2 [(0, .ref (ad 0)), (1, .int p1)] := hl
  unfold M_X0_stuckOf at h
  refine lv_aload_n hx hb dX0_stuckOf_0 rfl (lv_at hl 0 rfl) ?_
  refine lv_iload_n hx hb dX0_stuckOf_1 rfl (lv_at hl 1 rfl) ?_
  obtain ⟨r2, h2, h⟩ := bnd h
  refine g_calli0 (isC := [0]) (gn := fun _ => [wEV g ad ev]) (g_runV (isC := [0]) (rest := []) (As := [.int p1]) X hw (c_X0_hasBar l (ad := ad) h2) rfl kM_X0_hasBar ki_X0_hasBar ks_X0_hasBar km_X0_55 ⟨(Nat.le_of_ble_eq_true rfl), (Nat.le_of_ble_eq_true rfl)⟩ ⟨(Nat.le_of_ble_eq_true rfl), (Nat.le_of_ble_eq_true rfl)⟩ rfl rfl ⟨_, _, _, _, rfl, rfl, rfl, rfl⟩ rfl hl.1 rfl (Nat.le_of_ble_eq_true rfl) dX0_stuckOf_2) hw rfl rfl (fun _ => (Nat.le_of_ble_eq_true rfl)) (fun _ => rfl) rfl rfl (fun _ H locs hw => ?_)
  refine lv_if_eq (tgt := 17) hx hb dX0_stuckOf_5 (by decide) (fun k5 => ?_) (fun k5 => ?_)
  · have h := itt k5 h
    refine lv_iconst (v := 0) hx hb dX0_stuckOf_17 (by decide) ?_
    have h := Option.some.inj h
    subst h
    exact hret () dX0_stuckOf_18 rfl hw
  · have h := itf k5 h
    refine lv_aload_n hx hb dX0_stuckOf_8 rfl (lv_at hl 0 rfl) ?_
    refine EV_g_stucks X hw 0 rfl kf_X0_21 dX0_stuckOf_9 ?_
    refine lv_iload_n hx hb dX0_stuckOf_12 rfl (lv_at hl 1 rfl) ?_
    obtain ⟨q13, h⟩ := chk h
    refine EV_l_stucks X hw 0 rfl q13 dX0_stuckOf_13 ?_
    refine lv_goto (tgt := 18) hx hb dX0_stuckOf_14 (by decide) ?_
    have h := Option.some.inj h
    subst h
    exact hret () dX0_stuckOf_18 rfl hw
theorem kM_X0_mustOf : kM yX0_mustOf cX0_mustOf 3 (some FieldType.int) 2 := ⟨kc_X0_mustOf, kn_RingsOff_Evening, by decide +kernel⟩
abbrev R_X0_mustOf : Room := { frames := 2, cells := 0, slots := 0, locals := 43 }
set_option maxHeartbeats 4000000 in
set_option maxRecDepth 100000 in
theorem c_X0_mustOf (l : Launch) {ad : Nat → Nat} {N : Nat} {ev : EV} {p1 : Int32} {p2 : Int32} {out : Int32} (h : M_X0_mustOf N ev p1 p2 = some out) : gM l yX0_mustOf cX0_mustOf 3 (some FieldType.int) R_X0_mustOf (fun _ => [.ref (ad 0), .int p1, .int p2]) (fun g => [wEV g ad ev]) (gQi (fun (_ : Unit) => out) (fun g (_ : Unit) => [wEV g ad ev])) := by
  refine gM.ofi (by decide +kernel) (fun _ => Nat.le_of_ble_eq_true rfl) (fun g p e s m args below meth c A ls Q X hret hw hl => ?_)
  have hx := X.1.1
  have hb := X.1.2.1
  have hl : lv_has ls 3 [(0, .ref (ad 0)), (1, .int p1), (2, .int p2)] := hl
  unfold M_X0_mustOf at h
  refine lv_aload_n hx hb dX0_mustOf_0 rfl (lv_at hl 0 rfl) ?_
  refine lv_iload_n hx hb dX0_mustOf_1 rfl (lv_at hl 1 rfl) ?_
  refine lv_iload_n hx hb dX0_mustOf_2 rfl (lv_at hl 2 rfl) ?_
  obtain ⟨r3, h3, h⟩ := bnd h
  refine g_calli0 (isC := [0]) (gn := fun _ => [wEV g ad ev]) (g_runV (isC := [0]) (rest := []) (As := [.int p1, .int p2]) X hw (c_X0_hasRing l (ad := ad) h3) rfl kM_X0_hasRing ki_X0_hasRing ks_X0_hasRing km_X0_66 ⟨(Nat.le_of_ble_eq_true rfl), (Nat.le_of_ble_eq_true rfl)⟩ ⟨(Nat.le_of_ble_eq_true rfl), (Nat.le_of_ble_eq_true rfl)⟩ rfl rfl ⟨_, _, _, _, rfl, rfl, rfl, rfl⟩ rfl hl.1 rfl (Nat.le_of_ble_eq_true rfl) dX0_mustOf_3) hw rfl rfl (fun _ => (Nat.le_of_ble_eq_true rfl)) (fun _ => rfl) rfl rfl (fun _ H locs hw => ?_)
  refine lv_if_eq (tgt := 23) hx hb dX0_mustOf_6 (by decide) (fun k6 => ?_) (fun k6 => ?_)
  · have h := itt k6 h
    refine lv_iconst (v := 0) hx hb dX0_mustOf_23 (by decide) ?_
    have h := Option.some.inj h
    subst h
    exact hret () dX0_mustOf_24 rfl hw
  · have h := itf k6 h
    refine lv_aload_n hx hb dX0_mustOf_9 rfl (lv_at hl 0 rfl) ?_
    refine EV_g_musts X hw 0 rfl kf_X0_24 dX0_mustOf_10 ?_
    refine lv_iload_n hx hb dX0_mustOf_13 rfl (lv_at hl 1 rfl) ?_
    refine lv_bipush (v := 10) hx hb dX0_mustOf_14 (by decide) ?_
    refine lv_imul hx hb dX0_mustOf_16 ?_
    refine lv_iload_n hx hb dX0_mustOf_17 rfl (lv_at hl 2 rfl) ?_
    refine lv_iadd hx hb dX0_mustOf_18 ?_
    obtain ⟨q19, h⟩ := chk h
    refine EV_l_musts X hw 0 rfl q19 dX0_mustOf_19 ?_
    refine lv_goto (tgt := 24) hx hb dX0_mustOf_20 (by decide) ?_
    have h := Option.some.inj h
    subst h
    exact hret () dX0_mustOf_24 rfl hw
theorem kM_X0_notOf : kM yX0_notOf cX0_notOf 3 (some FieldType.int) 2 := ⟨kc_X0_notOf, kn_RingsOff_Evening, by decide +kernel⟩
abbrev R_X0_notOf : Room := { frames := 2, cells := 0, slots := 0, locals := 43 }
set_option maxHeartbeats 4000000 in
set_option maxRecDepth 100000 in
theorem c_X0_notOf (l : Launch) {ad : Nat → Nat} {N : Nat} {ev : EV} {p1 : Int32} {p2 : Int32} {out : Int32} (h : M_X0_notOf N ev p1 p2 = some out) : gM l yX0_notOf cX0_notOf 3 (some FieldType.int) R_X0_notOf (fun _ => [.ref (ad 0), .int p1, .int p2]) (fun g => [wEV g ad ev]) (gQi (fun (_ : Unit) => out) (fun g (_ : Unit) => [wEV g ad ev])) := by
  refine gM.ofi (by decide +kernel) (fun _ => Nat.le_of_ble_eq_true rfl) (fun g p e s m args below meth c A ls Q X hret hw hl => ?_)
  have hx := X.1.1
  have hb := X.1.2.1
  have hl : lv_has ls 3 [(0, .ref (ad 0)), (1, .int p1), (2, .int p2)] := hl
  unfold M_X0_notOf at h
  refine lv_aload_n hx hb dX0_notOf_0 rfl (lv_at hl 0 rfl) ?_
  refine lv_iload_n hx hb dX0_notOf_1 rfl (lv_at hl 1 rfl) ?_
  refine lv_iload_n hx hb dX0_notOf_2 rfl (lv_at hl 2 rfl) ?_
  obtain ⟨r3, h3, h⟩ := bnd h
  refine g_calli0 (isC := [0]) (gn := fun _ => [wEV g ad ev]) (g_runV (isC := [0]) (rest := []) (As := [.int p1, .int p2]) X hw (c_X0_hasRing l (ad := ad) h3) rfl kM_X0_hasRing ki_X0_hasRing ks_X0_hasRing km_X0_66 ⟨(Nat.le_of_ble_eq_true rfl), (Nat.le_of_ble_eq_true rfl)⟩ ⟨(Nat.le_of_ble_eq_true rfl), (Nat.le_of_ble_eq_true rfl)⟩ rfl rfl ⟨_, _, _, _, rfl, rfl, rfl, rfl⟩ rfl hl.1 rfl (Nat.le_of_ble_eq_true rfl) dX0_notOf_3) hw rfl rfl (fun _ => (Nat.le_of_ble_eq_true rfl)) (fun _ => rfl) rfl rfl (fun _ H locs hw => ?_)
  refine lv_if_eq (tgt := 23) hx hb dX0_notOf_6 (by decide) (fun k6 => ?_) (fun k6 => ?_)
  · have h := itt k6 h
    refine lv_iconst (v := 0) hx hb dX0_notOf_23 (by decide) ?_
    have h := Option.some.inj h
    subst h
    exact hret () dX0_notOf_24 rfl hw
  · have h := itf k6 h
    refine lv_aload_n hx hb dX0_notOf_9 rfl (lv_at hl 0 rfl) ?_
    refine EV_g_nots X hw 0 rfl kf_X0_27 dX0_notOf_10 ?_
    refine lv_iload_n hx hb dX0_notOf_13 rfl (lv_at hl 1 rfl) ?_
    refine lv_bipush (v := 10) hx hb dX0_notOf_14 (by decide) ?_
    refine lv_imul hx hb dX0_notOf_16 ?_
    refine lv_iload_n hx hb dX0_notOf_17 rfl (lv_at hl 2 rfl) ?_
    refine lv_iadd hx hb dX0_notOf_18 ?_
    obtain ⟨q19, h⟩ := chk h
    refine EV_l_nots X hw 0 rfl q19 dX0_notOf_19 ?_
    refine lv_goto (tgt := 24) hx hb dX0_notOf_20 (by decide) ?_
    have h := Option.some.inj h
    subst h
    exact hret () dX0_notOf_24 rfl hw
theorem kM_X0_tabledRings : kM yX0_tabledRings cX0_tabledRings 4 (some FieldType.int) 1 := ⟨kc_X0_tabledRings, kn_RingsOff_Evening, by decide +kernel⟩
abbrev R_X0_tabledRings : Room := { frames := 3, cells := 0, slots := 0, locals := 65 }
set_option maxHeartbeats 4000000 in
set_option maxRecDepth 100000 in
theorem c_X0_tabledRings (l : Launch) {ad : Nat → Nat} {N : Nat} {ev : EV} {p1 : Int32} {out : Int32} (h : M_X0_tabledRings N ev p1 = some out) : gM l yX0_tabledRings cX0_tabledRings 4 (some FieldType.int) R_X0_tabledRings (fun _ => [.ref (ad 0), .int p1]) (fun g => [wEV g ad ev]) (gQi (fun (_ : Unit) => out) (fun g (_ : Unit) => [wEV g ad ev])) := by
  refine gM.ofi (by decide +kernel) (fun _ => Nat.le_of_ble_eq_true rfl) (fun g p e s m args below meth c A ls Q X hret hw hl => ?_)
  have hx := X.1.1
  have hb := X.1.2.1
  have hl : lv_has ls 4 [(0, .ref (ad 0)), (1, .int p1)] := hl
  have L4 : ∀ (n : Nat) (z4 : Int32 × Int32), lp (M_X0_tabledRings_l4 N ev p1) n z4 = some out → ∀ (H : Heap) (locs : List Loc) (ls : Array Slot), gW g A s.heap [wEV g ad ev] H locs → lv_has ls 4 [(0, .ref (ad 0)), (1, .int p1), (2, .int z4.1), (3, .int z4.2)] → W p l e R_X0_tabledRings s m args below meth c H locs 0 0 Q (F0 m 4 ls []) := by
    refine lp_ind ?_
    intro rec4 ih4
    have J34 : ∀ (z34 : Int32 × Int32), M_X0_tabledRings_j34 N ev p1 rec4 z34 = some out → ∀ (H : Heap) (locs : List Loc) (ls : Array Slot), gW g A s.heap [wEV g ad ev] H locs → lv_has ls 4 [(0, .ref (ad 0)), (1, .int p1), (2, .int z34.1), (3, .int z34.2)] → W p l e R_X0_tabledRings s m args below meth c H locs 0 0 Q (F0 m 34 ls []) := by
      intro z34 h H locs ls hw hl
      unfold M_X0_tabledRings_j34 at h
      refine lv_iinc (v := (z34.2 + 1)) (lv' := [(3, .int (z34.2 + 1)), (0, .ref (ad 0)), (1, .int p1), (2, .int z34.1)]) hx hb dX0_tabledRings_34 hl (k := 3) rfl rfl (by decide) rfl (fun ls hl => ?_)
      refine lv_goto (tgt := 4) hx hb dX0_tabledRings_37 (by decide) ?_
      exact ih4 _ h _ _ _ hw (lv_sub hl [1, 2, 3, 0] rfl)
    have J31 : ∀ (z31 : Int32 × Int32), M_X0_tabledRings_j31 N ev p1 rec4 z31 = some out → ∀ (H : Heap) (locs : List Loc) (ls : Array Slot), gW g A s.heap [wEV g ad ev] H locs → lv_has ls 4 [(0, .ref (ad 0)), (1, .int p1), (2, .int z31.1), (3, .int z31.2)] → W p l e R_X0_tabledRings s m args below meth c H locs 0 0 Q (F0 m 31 ls []) := by
      intro z31 h H locs ls hw hl
      unfold M_X0_tabledRings_j31 at h
      refine lv_iinc (v := (z31.1 + 1)) (lv' := [(2, .int (z31.1 + 1)), (0, .ref (ad 0)), (1, .int p1), (3, .int z31.2)]) hx hb dX0_tabledRings_31 hl (k := 2) rfl rfl (by decide) rfl (fun ls hl => ?_)
      exact J34 _ h _ _ _ hw (lv_sub hl [1, 2, 0, 3] rfl)
    intro z4 h H locs ls hw hl
    unfold M_X0_tabledRings_l4 at h
    refine lv_iload_n hx hb dX0_tabledRings_4 rfl (lv_at hl 3 rfl) ?_
    refine lv_aload_n hx hb dX0_tabledRings_5 rfl (lv_at hl 0 rfl) ?_
    refine lv_iload_n hx hb dX0_tabledRings_6 rfl (lv_at hl 1 rfl) ?_
    obtain ⟨r7, h7, h⟩ := bnd h
    refine g_calli0 (isC := [0]) (gn := fun _ => [wEV g ad ev]) (g_runV (isC := [0]) (rest := [.int z4.2]) (As := [.int p1]) X hw (c_X0_sizeOf l (ad := ad) h7) rfl kM_X0_sizeOf ki_X0_sizeOf ks_X0_sizeOf km_X0_63 ⟨(Nat.le_of_ble_eq_true rfl), (Nat.le_of_ble_eq_true rfl)⟩ ⟨(Nat.le_of_ble_eq_true rfl), (Nat.le_of_ble_eq_true rfl)⟩ rfl rfl ⟨_, _, _, _, rfl, rfl, rfl, rfl⟩ rfl hl.1 rfl (Nat.le_of_ble_eq_true rfl) dX0_tabledRings_7) hw rfl rfl (fun _ => (Nat.le_of_ble_eq_true rfl)) (fun _ => rfl) rfl rfl (fun _ H locs hw => ?_)
    refine lv_icmp_ge (tgt := 40) hx hb dX0_tabledRings_10 (by decide) (fun k10 => ?_) (fun k10 => ?_)
    · have h := itt k10 h
      refine lv_iload_n hx hb dX0_tabledRings_40 rfl (lv_at hl 2 rfl) ?_
      have h := Option.some.inj h
      subst h
      exact hret () dX0_tabledRings_41 rfl hw
    · have h := itf k10 h
      refine lv_aload_n hx hb dX0_tabledRings_13 rfl (lv_at hl 0 rfl) ?_
      refine lv_iload_n hx hb dX0_tabledRings_14 rfl (lv_at hl 1 rfl) ?_
      refine lv_iload_n hx hb dX0_tabledRings_15 rfl (lv_at hl 3 rfl) ?_
      obtain ⟨r16, h16, h⟩ := bnd h
      refine g_calli0 (isC := [0]) (gn := fun _ => [wEV g ad ev]) (g_runV (isC := [0]) (rest := []) (As := [.int p1, .int z4.2]) X hw (c_X0_mustOf l (ad := ad) h16) rfl kM_X0_mustOf ki_X0_mustOf ks_X0_mustOf km_X0_70 ⟨(Nat.le_of_ble_eq_true rfl), (Nat.le_of_ble_eq_true rfl)⟩ ⟨(Nat.le_of_ble_eq_true rfl), (Nat.le_of_ble_eq_true rfl)⟩ rfl rfl ⟨_, _, _, _, rfl, rfl, rfl, rfl⟩ rfl hl.1 rfl (Nat.le_of_ble_eq_true rfl) dX0_tabledRings_16) hw rfl rfl (fun _ => (Nat.le_of_ble_eq_true rfl)) (fun _ => rfl) rfl rfl (fun _ H locs hw => ?_)
      refine lv_if_ne (tgt := 31) hx hb dX0_tabledRings_19 (by decide) (fun k19 => ?_) (fun k19 => ?_)
      · have h := itt k19 h
        exact J31 _ h _ _ _ hw (lv_sub hl [0, 1, 2, 3] rfl)
      · have h := itf (fun z => z k19) h
        refine lv_aload_n hx hb dX0_tabledRings_22 rfl (lv_at hl 0 rfl) ?_
        refine lv_iload_n hx hb dX0_tabledRings_23 rfl (lv_at hl 1 rfl) ?_
        refine lv_iload_n hx hb dX0_tabledRings_24 rfl (lv_at hl 3 rfl) ?_
        obtain ⟨r25, h25, h⟩ := bnd h
        refine g_calli0 (isC := [0]) (gn := fun _ => [wEV g ad ev]) (g_runV (isC := [0]) (rest := []) (As := [.int p1, .int z4.2]) X hw (c_X0_notOf l (ad := ad) h25) rfl kM_X0_notOf ki_X0_notOf ks_X0_notOf km_X0_74 ⟨(Nat.le_of_ble_eq_true rfl), (Nat.le_of_ble_eq_true rfl)⟩ ⟨(Nat.le_of_ble_eq_true rfl), (Nat.le_of_ble_eq_true rfl)⟩ rfl rfl ⟨_, _, _, _, rfl, rfl, rfl, rfl⟩ rfl hl.1 rfl (Nat.le_of_ble_eq_true rfl) dX0_tabledRings_25) hw rfl rfl (fun _ => (Nat.le_of_ble_eq_true rfl)) (fun _ => rfl) rfl rfl (fun _ H locs hw => ?_)
        refine lv_if_eq (tgt := 34) hx hb dX0_tabledRings_28 (by decide) (fun k28 => ?_) (fun k28 => ?_)
        · have h := itt k28 h
          exact J34 _ h _ _ _ hw (lv_sub hl [0, 1, 2, 3] rfl)
        · have h := itf k28 h
          exact J31 _ h _ _ _ hw (lv_sub hl [0, 1, 2, 3] rfl)
  unfold M_X0_tabledRings at h
  refine lv_iconst (v := 0) hx hb dX0_tabledRings_0 (by decide) ?_
  refine lv_istore_n (lv' := [(2, .int (0 : Int32)), (0, .ref (ad 0)), (1, .int p1)]) hx hb dX0_tabledRings_1 rfl hl (by decide) rfl (fun ls hl => ?_)
  refine lv_iconst (v := 0) hx hb dX0_tabledRings_2 (by decide) ?_
  refine lv_istore_n (lv' := [(3, .int (0 : Int32)), (2, .int (0 : Int32)), (0, .ref (ad 0)), (1, .int p1)]) hx hb dX0_tabledRings_3 rfl hl (by decide) rfl (fun ls hl => ?_)
  exact L4 N _ h _ _ _ hw (lv_sub hl [2, 3, 1, 0] rfl)
theorem kM_X0_addBar : kM yX0_addBar cX0_addBar 5 (some FieldType.int) 2 := ⟨kc_X0_addBar, kn_RingsOff_Evening, by decide +kernel⟩
abbrev R_X0_addBar : Room := { frames := 0, cells := 0, slots := 0, locals := 0 }
set_option maxHeartbeats 4000000 in
set_option maxRecDepth 100000 in
theorem c_X0_addBar (l : Launch) {ad : Nat → Nat} {N : Nat} {ev : EV} {p1 : Int32} {p2 : Int32} {out : Int32 × EV} (h : M_X0_addBar N ev p1 p2 = some out) : gM l yX0_addBar cX0_addBar 5 (some FieldType.int) R_X0_addBar (fun _ => [.ref (ad 0), .int p1, .int p2]) (fun g => [wEV g ad ev]) (gQi (fun (_ : Unit) => out.1) (fun g (_ : Unit) => [wEV g ad out.2])) := by
  refine gM.ofi (by decide +kernel) (fun _ => Nat.le_of_ble_eq_true rfl) (fun g p e s m args below meth c A ls Q X hret hw hl => ?_)
  have hx := X.1.1
  have hb := X.1.2.1
  have hl : lv_has ls 5 [(0, .ref (ad 0)), (1, .int p1), (2, .int p2)] := hl
  have L61 : ∀ (n : Nat) (z61 : EV × Int32 × Int32), lp (M_X0_addBar_l61 N p1 p2) n z61 = some out → ∀ (H : Heap) (locs : List Loc) (ls : Array Slot), gW g A s.heap [wEV g ad z61.1] H locs → lv_has ls 5 [(0, .ref (ad 0)), (3, .int z61.2.1), (4, .int z61.2.2)] → W p l e R_X0_addBar s m args below meth c H locs 0 0 Q (F0 m 61 ls []) := by
    refine lp_ind ?_
    intro rec61 ih61
    intro z61 h H locs ls hw hl
    unfold M_X0_addBar_l61 at h
    refine lv_iload hx hb dX0_addBar_61 (lv_at hl 2 rfl) ?_
    refine lv_bipush (v := 10) hx hb dX0_addBar_63 (by decide) ?_
    refine lv_icmp_ge (tgt := 100) hx hb dX0_addBar_65 (by decide) (fun k65 => ?_) (fun k65 => ?_)
    · have h := itt k65 h
      refine lv_iload_n hx hb dX0_addBar_100 rfl (lv_at hl 1 rfl) ?_
      have h := Option.some.inj h
      subst h
      exact hret () dX0_addBar_101 rfl hw
    · have h := itf k65 h
      refine lv_aload_n hx hb dX0_addBar_68 rfl (lv_at hl 0 rfl) ?_
      refine EV_g_musts X hw 0 rfl kf_X0_24 dX0_addBar_69 ?_
      refine lv_iload_n hx hb dX0_addBar_72 rfl (lv_at hl 1 rfl) ?_
      refine lv_bipush (v := 10) hx hb dX0_addBar_73 (by decide) ?_
      refine lv_imul hx hb dX0_addBar_75 ?_
      refine lv_iload hx hb dX0_addBar_76 (lv_at hl 2 rfl) ?_
      refine lv_iadd hx hb dX0_addBar_78 ?_
      refine lv_iconst (v := 0) hx hb dX0_addBar_79 (by decide) ?_
      obtain ⟨q80, h⟩ := chk h
      refine EV_a_musts (gs' := [wEV g ad (EV_s_musts z61.1 (upd (EV_musts z61.1) ((z61.2.1 * (10 : Int32)) + z61.2.2).toNatClampNeg (0 : Int32)))]) X hw 0 rfl q80 dX0_addBar_80 rfl (fun H locs hw => ?_)
      refine lv_aload_n hx hb dX0_addBar_81 rfl (lv_at hl 0 rfl) ?_
      refine EV_g_nots X hw 0 rfl kf_X0_27 dX0_addBar_82 ?_
      refine lv_iload_n hx hb dX0_addBar_85 rfl (lv_at hl 1 rfl) ?_
      refine lv_bipush (v := 10) hx hb dX0_addBar_86 (by decide) ?_
      refine lv_imul hx hb dX0_addBar_88 ?_
      refine lv_iload hx hb dX0_addBar_89 (lv_at hl 2 rfl) ?_
      refine lv_iadd hx hb dX0_addBar_91 ?_
      refine lv_iconst (v := 0) hx hb dX0_addBar_92 (by decide) ?_
      obtain ⟨q93, h⟩ := chk h
      refine EV_a_nots (gs' := [wEV g ad (EV_s_nots (EV_s_musts z61.1 (upd (EV_musts z61.1) ((z61.2.1 * (10 : Int32)) + z61.2.2).toNatClampNeg (0 : Int32))) (upd (EV_nots (EV_s_musts z61.1 (upd (EV_musts z61.1) ((z61.2.1 * (10 : Int32)) + z61.2.2).toNatClampNeg (0 : Int32)))) ((z61.2.1 * (10 : Int32)) + z61.2.2).toNatClampNeg (0 : Int32)))]) X hw 0 rfl q93 dX0_addBar_93 rfl (fun H locs hw => ?_)
      refine lv_iinc (v := (z61.2.2 + 1)) (lv' := [(4, .int (z61.2.2 + 1)), (0, .ref (ad 0)), (3, .int z61.2.1)]) hx hb dX0_addBar_94 hl (k := 2) rfl rfl (by decide) rfl (fun ls hl => ?_)
      refine lv_goto (tgt := 61) hx hb dX0_addBar_97 (by decide) ?_
      exact ih61 _ h _ _ _ hw (lv_sub hl [1, 2, 0] rfl)
  unfold M_X0_addBar at h
  refine lv_aload_n hx hb dX0_addBar_0 rfl (lv_at hl 0 rfl) ?_
  refine EV_g_bars X hw 0 rfl kf_X0_33 dX0_addBar_1 ?_
  refine lv_istore_n (lv' := [(3, .int (EV_bars ev)), (0, .ref (ad 0)), (1, .int p1), (2, .int p2)]) hx hb dX0_addBar_4 rfl hl (by decide) rfl (fun ls hl => ?_)
  refine lv_iload_n hx hb dX0_addBar_5 rfl (lv_at hl 0 rfl) ?_
  refine lv_if_lt (tgt := 14) hx hb dX0_addBar_6 (by decide) (fun k6 => ?_) (fun k6 => ?_)
  · have h := itt k6 h
    refine lv_iconst (v := -1) hx hb dX0_addBar_14 (by decide) ?_
    have h := Option.some.inj h
    subst h
    exact hret () dX0_addBar_15 rfl hw
  · have h := itf k6 h
    refine lv_iload_n hx hb dX0_addBar_9 rfl (lv_at hl 0 rfl) ?_
    refine lv_iconst (v := 4) hx hb dX0_addBar_10 (by decide) ?_
    refine lv_icmp_lt (tgt := 16) hx hb dX0_addBar_11 (by decide) (fun k11 => ?_) (fun k11 => ?_)
    · have h := itt k11 h
      refine lv_aload_n hx hb dX0_addBar_16 rfl (lv_at hl 1 rfl) ?_
      refine lv_dup hx hb dX0_addBar_17 rfl ?_
      refine EV_g_bars X hw 0 rfl kf_X0_33 dX0_addBar_18 ?_
      refine lv_iconst (v := 1) hx hb dX0_addBar_21 (by decide) ?_
      refine lv_iadd hx hb dX0_addBar_22 ?_
      refine EV_p_bars (gs' := [wEV g ad (EV_s_bars ev ((EV_bars ev) + (1 : Int32)))]) X hw 0 rfl kf_X0_33 dX0_addBar_23 rfl (fun H locs hw => ?_)
      refine lv_aload_n hx hb dX0_addBar_26 rfl (lv_at hl 1 rfl) ?_
      refine EV_g_kinds X hw 0 rfl kf_X0_9 dX0_addBar_27 ?_
      refine lv_iload_n hx hb dX0_addBar_30 rfl (lv_at hl 0 rfl) ?_
      refine lv_iload_n hx hb dX0_addBar_31 rfl (lv_at hl 2 rfl) ?_
      obtain ⟨q32, h⟩ := chk h
      refine EV_a_kinds (gs' := [wEV g ad (EV_s_kinds (EV_s_bars ev ((EV_bars ev) + (1 : Int32))) (upd (EV_kinds (EV_s_bars ev ((EV_bars ev) + (1 : Int32)))) (EV_bars ev).toNatClampNeg p1))]) X hw 0 rfl q32 dX0_addBar_32 rfl (fun H locs hw => ?_)
      refine lv_aload_n hx hb dX0_addBar_33 rfl (lv_at hl 1 rfl) ?_
      refine EV_g_sizes X hw 0 rfl kf_X0_15 dX0_addBar_34 ?_
      refine lv_iload_n hx hb dX0_addBar_37 rfl (lv_at hl 0 rfl) ?_
      refine lv_iload_n hx hb dX0_addBar_38 rfl (lv_at hl 3 rfl) ?_
      obtain ⟨q39, h⟩ := chk h
      refine EV_a_sizes (gs' := [wEV g ad (EV_s_sizes (EV_s_kinds (EV_s_bars ev ((EV_bars ev) + (1 : Int32))) (upd (EV_kinds (EV_s_bars ev ((EV_bars ev) + (1 : Int32)))) (EV_bars ev).toNatClampNeg p1)) (upd (EV_sizes (EV_s_kinds (EV_s_bars ev ((EV_bars ev) + (1 : Int32))) (upd (EV_kinds (EV_s_bars ev ((EV_bars ev) + (1 : Int32)))) (EV_bars ev).toNatClampNeg p1))) (EV_bars ev).toNatClampNeg p2))]) X hw 0 rfl q39 dX0_addBar_39 rfl (fun H locs hw => ?_)
      refine lv_aload_n hx hb dX0_addBar_40 rfl (lv_at hl 1 rfl) ?_
      refine EV_g_ons X hw 0 rfl kf_X0_18 dX0_addBar_41 ?_
      refine lv_iload_n hx hb dX0_addBar_44 rfl (lv_at hl 0 rfl) ?_
      refine lv_iconst (v := 1) hx hb dX0_addBar_45 (by decide) ?_
      refine lv_iload_n hx hb dX0_addBar_46 rfl (lv_at hl 3 rfl) ?_
      refine lv_ishl hx hb dX0_addBar_47 ?_
      refine lv_iconst (v := 1) hx hb dX0_addBar_48 (by decide) ?_
      refine lv_isub hx hb dX0_addBar_49 ?_
      obtain ⟨q50, h⟩ := chk h
      refine EV_a_ons (gs' := [wEV g ad (EV_s_ons (EV_s_sizes (EV_s_kinds (EV_s_bars ev ((EV_bars ev) + (1 : Int32))) (upd (EV_kinds (EV_s_bars ev ((EV_bars ev) + (1 : Int32)))) (EV_bars ev).toNatClampNeg p1)) (upd (EV_sizes (EV_s_kinds (EV_s_bars ev ((EV_bars ev) + (1 : Int32))) (upd (EV_kinds (EV_s_bars ev ((EV_bars ev) + (1 : Int32)))) (EV_bars ev).toNatClampNeg p1))) (EV_bars ev).toNatClampNeg p2)) (upd (EV_ons (EV_s_sizes (EV_s_kinds (EV_s_bars ev ((EV_bars ev) + (1 : Int32))) (upd (EV_kinds (EV_s_bars ev ((EV_bars ev) + (1 : Int32)))) (EV_bars ev).toNatClampNeg p1)) (upd (EV_sizes (EV_s_kinds (EV_s_bars ev ((EV_bars ev) + (1 : Int32))) (upd (EV_kinds (EV_s_bars ev ((EV_bars ev) + (1 : Int32)))) (EV_bars ev).toNatClampNeg p1))) (EV_bars ev).toNatClampNeg p2))) (EV_bars ev).toNatClampNeg (((1 : Int32) <<< (p2 &&& 31)) - (1 : Int32))))]) X hw 0 rfl q50 dX0_addBar_50 rfl (fun H locs hw => ?_)
      refine lv_aload_n hx hb dX0_addBar_51 rfl (lv_at hl 1 rfl) ?_
      refine EV_g_stucks X hw 0 rfl kf_X0_21 dX0_addBar_52 ?_
      refine lv_iload_n hx hb dX0_addBar_55 rfl (lv_at hl 0 rfl) ?_
      refine lv_iconst (v := 0) hx hb dX0_addBar_56 (by decide) ?_
      obtain ⟨q57, h⟩ := chk h
      refine EV_a_stucks (gs' := [wEV g ad (EV_s_stucks (EV_s_ons (EV_s_sizes (EV_s_kinds (EV_s_bars ev ((EV_bars ev) + (1 : Int32))) (upd (EV_kinds (EV_s_bars ev ((EV_bars ev) + (1 : Int32)))) (EV_bars ev).toNatClampNeg p1)) (upd (EV_sizes (EV_s_kinds (EV_s_bars ev ((EV_bars ev) + (1 : Int32))) (upd (EV_kinds (EV_s_bars ev ((EV_bars ev) + (1 : Int32)))) (EV_bars ev).toNatClampNeg p1))) (EV_bars ev).toNatClampNeg p2)) (upd (EV_ons (EV_s_sizes (EV_s_kinds (EV_s_bars ev ((EV_bars ev) + (1 : Int32))) (upd (EV_kinds (EV_s_bars ev ((EV_bars ev) + (1 : Int32)))) (EV_bars ev).toNatClampNeg p1)) (upd (EV_sizes (EV_s_kinds (EV_s_bars ev ((EV_bars ev) + (1 : Int32))) (upd (EV_kinds (EV_s_bars ev ((EV_bars ev) + (1 : Int32)))) (EV_bars ev).toNatClampNeg p1))) (EV_bars ev).toNatClampNeg p2))) (EV_bars ev).toNatClampNeg (((1 : Int32) <<< (p2 &&& 31)) - (1 : Int32)))) (upd (EV_stucks (EV_s_ons (EV_s_sizes (EV_s_kinds (EV_s_bars ev ((EV_bars ev) + (1 : Int32))) (upd (EV_kinds (EV_s_bars ev ((EV_bars ev) + (1 : Int32)))) (EV_bars ev).toNatClampNeg p1)) (upd (EV_sizes (EV_s_kinds (EV_s_bars ev ((EV_bars ev) + (1 : Int32))) (upd (EV_kinds (EV_s_bars ev ((EV_bars ev) + (1 : Int32)))) (EV_bars ev).toNatClampNeg p1))) (EV_bars ev).toNatClampNeg p2)) (upd (EV_ons (EV_s_sizes (EV_s_kinds (EV_s_bars ev ((EV_bars ev) + (1 : Int32))) (upd (EV_kinds (EV_s_bars ev ((EV_bars ev) + (1 : Int32)))) (EV_bars ev).toNatClampNeg p1)) (upd (EV_sizes (EV_s_kinds (EV_s_bars ev ((EV_bars ev) + (1 : Int32))) (upd (EV_kinds (EV_s_bars ev ((EV_bars ev) + (1 : Int32)))) (EV_bars ev).toNatClampNeg p1))) (EV_bars ev).toNatClampNeg p2))) (EV_bars ev).toNatClampNeg (((1 : Int32) <<< (p2 &&& 31)) - (1 : Int32))))) (EV_bars ev).toNatClampNeg (0 : Int32)))]) X hw 0 rfl q57 dX0_addBar_57 rfl (fun H locs hw => ?_)
      refine lv_iconst (v := 0) hx hb dX0_addBar_58 (by decide) ?_
      refine lv_istore (lv' := [(4, .int (0 : Int32)), (3, .int (EV_bars ev)), (0, .ref (ad 0)), (1, .int p1), (2, .int p2)]) hx hb dX0_addBar_59 hl (by decide) rfl (fun ls hl => ?_)
      exact L61 N _ h _ _ _ hw (lv_sub hl [2, 1, 0] rfl)
    · have h := itf k11 h
      refine lv_iconst (v := -1) hx hb dX0_addBar_14 (by decide) ?_
      have h := Option.some.inj h
      subst h
      exact hret () dX0_addBar_15 rfl hw
theorem kM_X0_turnOn : kM yX0_turnOn cX0_turnOn 3 (none : Option Jvm.ClassFile.FieldType) 2 := ⟨kc_X0_turnOn, kn_RingsOff_Evening, by decide +kernel⟩
abbrev R_X0_turnOn : Room := { frames := 1, cells := 0, slots := 0, locals := 21 }
set_option maxHeartbeats 4000000 in
set_option maxRecDepth 100000 in
theorem c_X0_turnOn (l : Launch) {ad : Nat → Nat} {N : Nat} {ev : EV} {p1 : Int32} {p2 : Int32} {out : EV} (h : M_X0_turnOn N ev p1 p2 = some out) : gM l yX0_turnOn cX0_turnOn 3 (none : Option Jvm.ClassFile.FieldType) R_X0_turnOn (fun _ => [.ref (ad 0), .int p1, .int p2]) (fun g => [wEV g ad ev]) (gQv (fun g (_ : Unit) => [wEV g ad out])) := by
  refine gM.ofv (by decide +kernel) (fun _ => Nat.le_of_ble_eq_true rfl) (fun g p e s m args below meth c A ls Q X hret hw hl => ?_)
  have hx := X.1.1
  have hb := X.1.2.1
  have hl : lv_has ls 3 [(0, .ref (ad 0)), (1, .int p1), (2, .int p2)] := hl
  unfold M_X0_turnOn at h
  refine lv_aload_n hx hb dX0_turnOn_0 rfl (lv_at hl 0 rfl) ?_
  refine lv_iload_n hx hb dX0_turnOn_1 rfl (lv_at hl 1 rfl) ?_
  obtain ⟨r2, h2, h⟩ := bnd h
  refine g_calli0 (isC := [0]) (gn := fun _ => [wEV g ad ev]) (g_runV (isC := [0]) (rest := []) (As := [.int p1]) X hw (c_X0_hasBar l (ad := ad) h2) rfl kM_X0_hasBar ki_X0_hasBar ks_X0_hasBar km_X0_55 ⟨(Nat.le_of_ble_eq_true rfl), (Nat.le_of_ble_eq_true rfl)⟩ ⟨(Nat.le_of_ble_eq_true rfl), (Nat.le_of_ble_eq_true rfl)⟩ rfl rfl ⟨_, _, _, _, rfl, rfl, rfl, rfl⟩ rfl hl.1 rfl (Nat.le_of_ble_eq_true rfl) dX0_turnOn_2) hw rfl rfl (fun _ => (Nat.le_of_ble_eq_true rfl)) (fun _ => rfl) rfl rfl (fun _ H locs hw => ?_)
  refine lv_if_eq (tgt := 15) hx hb dX0_turnOn_5 (by decide) (fun k5 => ?_) (fun k5 => ?_)
  · have h := itt k5 h
    have h := Option.some.inj h
    subst h
    exact hret () dX0_turnOn_15 hw
  · have h := itf k5 h
    refine lv_aload_n hx hb dX0_turnOn_8 rfl (lv_at hl 0 rfl) ?_
    refine EV_g_ons X hw 0 rfl kf_X0_18 dX0_turnOn_9 ?_
    refine lv_iload_n hx hb dX0_turnOn_12 rfl (lv_at hl 1 rfl) ?_
    refine lv_iload_n hx hb dX0_turnOn_13 rfl (lv_at hl 2 rfl) ?_
    obtain ⟨q14, h⟩ := chk h
    refine EV_a_ons (gs' := [wEV g ad (EV_s_ons ev (upd (EV_ons ev) p1.toNatClampNeg p2))]) X hw 0 rfl q14 dX0_turnOn_14 rfl (fun H locs hw => ?_)
    have h := Option.some.inj h
    subst h
    exact hret () dX0_turnOn_15 hw
theorem kM_X0_fasten : kM yX0_fasten cX0_fasten 3 (none : Option Jvm.ClassFile.FieldType) 2 := ⟨kc_X0_fasten, kn_RingsOff_Evening, by decide +kernel⟩
abbrev R_X0_fasten : Room := { frames := 1, cells := 0, slots := 0, locals := 21 }
set_option maxHeartbeats 4000000 in
set_option maxRecDepth 100000 in
theorem c_X0_fasten (l : Launch) {ad : Nat → Nat} {N : Nat} {ev : EV} {p1 : Int32} {p2 : Int32} {out : EV} (h : M_X0_fasten N ev p1 p2 = some out) : gM l yX0_fasten cX0_fasten 3 (none : Option Jvm.ClassFile.FieldType) R_X0_fasten (fun _ => [.ref (ad 0), .int p1, .int p2]) (fun g => [wEV g ad ev]) (gQv (fun g (_ : Unit) => [wEV g ad out])) := by
  refine gM.ofv (by decide +kernel) (fun _ => Nat.le_of_ble_eq_true rfl) (fun g p e s m args below meth c A ls Q X hret hw hl => ?_)
  have hx := X.1.1
  have hb := X.1.2.1
  have hl : lv_has ls 3 [(0, .ref (ad 0)), (1, .int p1), (2, .int p2)] := hl
  unfold M_X0_fasten at h
  refine lv_aload_n hx hb dX0_fasten_0 rfl (lv_at hl 0 rfl) ?_
  refine lv_iload_n hx hb dX0_fasten_1 rfl (lv_at hl 1 rfl) ?_
  obtain ⟨r2, h2, h⟩ := bnd h
  refine g_calli0 (isC := [0]) (gn := fun _ => [wEV g ad ev]) (g_runV (isC := [0]) (rest := []) (As := [.int p1]) X hw (c_X0_hasBar l (ad := ad) h2) rfl kM_X0_hasBar ki_X0_hasBar ks_X0_hasBar km_X0_55 ⟨(Nat.le_of_ble_eq_true rfl), (Nat.le_of_ble_eq_true rfl)⟩ ⟨(Nat.le_of_ble_eq_true rfl), (Nat.le_of_ble_eq_true rfl)⟩ rfl rfl ⟨_, _, _, _, rfl, rfl, rfl, rfl⟩ rfl hl.1 rfl (Nat.le_of_ble_eq_true rfl) dX0_fasten_2) hw rfl rfl (fun _ => (Nat.le_of_ble_eq_true rfl)) (fun _ => rfl) rfl rfl (fun _ H locs hw => ?_)
  refine lv_if_eq (tgt := 15) hx hb dX0_fasten_5 (by decide) (fun k5 => ?_) (fun k5 => ?_)
  · have h := itt k5 h
    have h := Option.some.inj h
    subst h
    exact hret () dX0_fasten_15 hw
  · have h := itf k5 h
    refine lv_aload_n hx hb dX0_fasten_8 rfl (lv_at hl 0 rfl) ?_
    refine EV_g_stucks X hw 0 rfl kf_X0_21 dX0_fasten_9 ?_
    refine lv_iload_n hx hb dX0_fasten_12 rfl (lv_at hl 1 rfl) ?_
    refine lv_iload_n hx hb dX0_fasten_13 rfl (lv_at hl 2 rfl) ?_
    obtain ⟨q14, h⟩ := chk h
    refine EV_a_stucks (gs' := [wEV g ad (EV_s_stucks ev (upd (EV_stucks ev) p1.toNatClampNeg p2))]) X hw 0 rfl q14 dX0_fasten_14 rfl (fun H locs hw => ?_)
    have h := Option.some.inj h
    subst h
    exact hret () dX0_fasten_15 hw
theorem kM_X0_tell : kM yX0_tell cX0_tell 5 (none : Option Jvm.ClassFile.FieldType) 4 := ⟨kc_X0_tell, kn_RingsOff_Evening, by decide +kernel⟩
abbrev R_X0_tell : Room := { frames := 2, cells := 0, slots := 0, locals := 43 }
set_option maxHeartbeats 4000000 in
set_option maxRecDepth 100000 in
theorem c_X0_tell (l : Launch) {ad : Nat → Nat} {N : Nat} {ev : EV} {p1 : Int32} {p2 : Int32} {p3 : Int32} {p4 : Int32} {out : EV} (h : M_X0_tell N ev p1 p2 p3 p4 = some out) : gM l yX0_tell cX0_tell 5 (none : Option Jvm.ClassFile.FieldType) R_X0_tell (fun _ => [.ref (ad 0), .int p1, .int p2, .int p3, .int p4]) (fun g => [wEV g ad ev]) (gQv (fun g (_ : Unit) => [wEV g ad out])) := by
  refine gM.ofv (by decide +kernel) (fun _ => Nat.le_of_ble_eq_true rfl) (fun g p e s m args below meth c A ls Q X hret hw hl => ?_)
  have hx := X.1.1
  have hb := X.1.2.1
  have hl : lv_has ls 5 [(0, .ref (ad 0)), (1, .int p1), (2, .int p2), (3, .int p3), (4, .int p4)] := hl
  unfold M_X0_tell at h
  refine lv_aload_n hx hb dX0_tell_0 rfl (lv_at hl 0 rfl) ?_
  refine lv_iload_n hx hb dX0_tell_1 rfl (lv_at hl 1 rfl) ?_
  refine lv_iload_n hx hb dX0_tell_2 rfl (lv_at hl 2 rfl) ?_
  obtain ⟨r3, h3, h⟩ := bnd h
  refine g_calli0 (isC := [0]) (gn := fun _ => [wEV g ad ev]) (g_runV (isC := [0]) (rest := []) (As := [.int p1, .int p2]) X hw (c_X0_hasRing l (ad := ad) h3) rfl kM_X0_hasRing ki_X0_hasRing ks_X0_hasRing km_X0_66 ⟨(Nat.le_of_ble_eq_true rfl), (Nat.le_of_ble_eq_true rfl)⟩ ⟨(Nat.le_of_ble_eq_true rfl), (Nat.le_of_ble_eq_true rfl)⟩ rfl rfl ⟨_, _, _, _, rfl, rfl, rfl, rfl⟩ rfl hl.1 rfl (Nat.le_of_ble_eq_true rfl) dX0_tell_3) hw rfl rfl (fun _ => (Nat.le_of_ble_eq_true rfl)) (fun _ => rfl) rfl rfl (fun _ H locs hw => ?_)
  refine lv_if_eq (tgt := 34) hx hb dX0_tell_6 (by decide) (fun k6 => ?_) (fun k6 => ?_)
  · have h := itt k6 h
    have h := Option.some.inj h
    subst h
    exact hret () dX0_tell_34 hw
  · have h := itf k6 h
    refine lv_aload_n hx hb dX0_tell_9 rfl (lv_at hl 0 rfl) ?_
    refine EV_g_musts X hw 0 rfl kf_X0_24 dX0_tell_10 ?_
    refine lv_iload_n hx hb dX0_tell_13 rfl (lv_at hl 1 rfl) ?_
    refine lv_bipush (v := 10) hx hb dX0_tell_14 (by decide) ?_
    refine lv_imul hx hb dX0_tell_16 ?_
    refine lv_iload_n hx hb dX0_tell_17 rfl (lv_at hl 2 rfl) ?_
    refine lv_iadd hx hb dX0_tell_18 ?_
    refine lv_iload_n hx hb dX0_tell_19 rfl (lv_at hl 3 rfl) ?_
    obtain ⟨q20, h⟩ := chk h
    refine EV_a_musts (gs' := [wEV g ad (EV_s_musts ev (upd (EV_musts ev) ((p1 * (10 : Int32)) + p2).toNatClampNeg p3))]) X hw 0 rfl q20 dX0_tell_20 rfl (fun H locs hw => ?_)
    refine lv_aload_n hx hb dX0_tell_21 rfl (lv_at hl 0 rfl) ?_
    refine EV_g_nots X hw 0 rfl kf_X0_27 dX0_tell_22 ?_
    refine lv_iload_n hx hb dX0_tell_25 rfl (lv_at hl 1 rfl) ?_
    refine lv_bipush (v := 10) hx hb dX0_tell_26 (by decide) ?_
    refine lv_imul hx hb dX0_tell_28 ?_
    refine lv_iload_n hx hb dX0_tell_29 rfl (lv_at hl 2 rfl) ?_
    refine lv_iadd hx hb dX0_tell_30 ?_
    refine lv_iload hx hb dX0_tell_31 (lv_at hl 4 rfl) ?_
    obtain ⟨q33, h⟩ := chk h
    refine EV_a_nots (gs' := [wEV g ad (EV_s_nots (EV_s_musts ev (upd (EV_musts ev) ((p1 * (10 : Int32)) + p2).toNatClampNeg p3)) (upd (EV_nots (EV_s_musts ev (upd (EV_musts ev) ((p1 * (10 : Int32)) + p2).toNatClampNeg p3))) ((p1 * (10 : Int32)) + p2).toNatClampNeg p4))]) X hw 0 rfl q33 dX0_tell_33 rfl (fun H locs hw => ?_)
    have h := Option.some.inj h
    subst h
    exact hret () dX0_tell_34 hw
theorem kM_X0_draw : kM yX0_draw cX0_draw 2 (some FieldType.int) 1 := ⟨kc_X0_draw, kn_RingsOff_Evening, by decide +kernel⟩
abbrev R_X0_draw : Room := { frames := 0, cells := 0, slots := 0, locals := 0 }
set_option maxHeartbeats 4000000 in
set_option maxRecDepth 100000 in
theorem c_X0_draw (l : Launch) {ad : Nat → Nat} {N : Nat} {ev : EV} {p1 : Int32} {out : Int32 × EV} (h : M_X0_draw N ev p1 = some out) : gM l yX0_draw cX0_draw 2 (some FieldType.int) R_X0_draw (fun _ => [.ref (ad 0), .int p1]) (fun g => [wEV g ad ev]) (gQi (fun (_ : Unit) => out.1) (fun g (_ : Unit) => [wEV g ad out.2])) := by
  refine gM.ofi (by decide +kernel) (fun _ => Nat.le_of_ble_eq_true rfl) (fun g p e s m args below meth c A ls Q X hret hw hl => ?_)
  have hx := X.1.1
  have hb := X.1.2.1
  have hl : lv_has ls 2 [(0, .ref (ad 0)), (1, .int p1)] := hl
  unfold M_X0_draw at h
  refine lv_aload_n hx hb dX0_draw_0 rfl (lv_at hl 0 rfl) ?_
  refine lv_aload_n hx hb dX0_draw_1 rfl (lv_at hl 0 rfl) ?_
  refine EV_g_seed X hw 0 rfl kf_X0_40 dX0_draw_2 ?_
  refine lv_ldc hx hb X.1.2.2.2.1 (gK1 X _ kq_X0_80) dX0_draw_5 ?_
  refine lv_imul hx hb dX0_draw_7 ?_
  refine lv_sipush (v := 12345) hx hb dX0_draw_8 (by decide) ?_
  refine lv_iadd hx hb dX0_draw_11 ?_
  refine EV_p_seed (gs' := [wEV g ad (EV_s_seed ev (((EV_seed ev) * (1103515245 : Int32)) + (12345 : Int32)))]) X hw 0 rfl kf_X0_40 dX0_draw_12 rfl (fun H locs hw => ?_)
  refine lv_iload_n hx hb dX0_draw_15 rfl (lv_at hl 1 rfl) ?_
  refine lv_if_le (tgt := 31) hx hb dX0_draw_16 (by decide) (fun k16 => ?_) (fun k16 => ?_)
  · have h := itt k16 h
    refine lv_iconst (v := 0) hx hb dX0_draw_31 (by decide) ?_
    have h := Option.some.inj h
    subst h
    exact hret () dX0_draw_32 rfl hw
  · have h := itf k16 h
    refine lv_aload_n hx hb dX0_draw_19 rfl (lv_at hl 0 rfl) ?_
    refine EV_g_seed X hw 0 rfl kf_X0_40 dX0_draw_20 ?_
    refine lv_bipush (v := 16) hx hb dX0_draw_23 (by decide) ?_
    refine lv_iushr (v := (jushr (EV_seed (EV_s_seed ev (((EV_seed ev) * (1103515245 : Int32)) + (12345 : Int32)))) (16 : Int32))) hx hb dX0_draw_25 rfl ?_
    refine lv_iload_n hx hb dX0_draw_26 rfl (lv_at hl 1 rfl) ?_
    obtain ⟨q27, h⟩ := chk h
    refine lv_irem hx hb dX0_draw_27 q27 ?_
    refine lv_goto (tgt := 32) hx hb dX0_draw_28 (by decide) ?_
    have h := Option.some.inj h
    subst h
    exact hret () dX0_draw_32 rfl hw
theorem kM_X0_minutesOf : kM yX0_minutesOf cX0_minutesOf 2 (some FieldType.int) 1 := ⟨kc_X0_minutesOf, kn_RingsOff_Evening, by decide +kernel⟩
abbrev R_X0_minutesOf : Room := { frames := 0, cells := 0, slots := 0, locals := 0 }
set_option maxHeartbeats 4000000 in
set_option maxRecDepth 100000 in
theorem c_X0_minutesOf (l : Launch) {ad : Nat → Nat} {N : Nat} {ev : EV} {p1 : Int32} {out : Int32} (h : M_X0_minutesOf N ev p1 = some out) : gM l yX0_minutesOf cX0_minutesOf 2 (some FieldType.int) R_X0_minutesOf (fun _ => [.ref (ad 0), .int p1]) (fun g => [wEV g ad ev]) (gQi (fun (_ : Unit) => out) (fun g (_ : Unit) => [wEV g ad ev])) := by
  refine gM.ofi (by decide +kernel) (fun _ => Nat.le_of_ble_eq_true rfl) (fun g p e s m args below meth c A ls Q X hret hw hl => ?_)
  have hx := X.1.1
  have hb := X.1.2.1
  have hl : lv_has ls 2 [(0, .ref (ad 0)), (1, .int p1)] := hl
  unfold M_X0_minutesOf at h
  refine lv_iload_n hx hb dX0_minutesOf_0 rfl (lv_at hl 1 rfl) ?_
  refine lv_if_lt (tgt := 19) hx hb dX0_minutesOf_1 (by decide) (fun k1 => ?_) (fun k1 => ?_)
  · have h := itt k1 h
    refine lv_iconst (v := 0) hx hb dX0_minutesOf_19 (by decide) ?_
    have h := Option.some.inj h
    subst h
    exact hret () dX0_minutesOf_20 rfl hw
  · have h := itf k1 h
    refine lv_iload_n hx hb dX0_minutesOf_4 rfl (lv_at hl 1 rfl) ?_
    refine lv_bipush (v := 10) hx hb dX0_minutesOf_5 (by decide) ?_
    refine lv_icmp_ge (tgt := 19) hx hb dX0_minutesOf_7 (by decide) (fun k7 => ?_) (fun k7 => ?_)
    · have h := itt k7 h
      refine lv_iconst (v := 0) hx hb dX0_minutesOf_19 (by decide) ?_
      have h := Option.some.inj h
      subst h
      exact hret () dX0_minutesOf_20 rfl hw
    · have h := itf k7 h
      refine lv_aload_n hx hb dX0_minutesOf_10 rfl (lv_at hl 0 rfl) ?_
      refine EV_g_ringMinutes X hw 0 rfl kf_X0_30 dX0_minutesOf_11 ?_
      refine lv_iload_n hx hb dX0_minutesOf_14 rfl (lv_at hl 1 rfl) ?_
      obtain ⟨q15, h⟩ := chk h
      refine EV_l_ringMinutes X hw 0 rfl q15 dX0_minutesOf_15 ?_
      refine lv_goto (tgt := 20) hx hb dX0_minutesOf_16 (by decide) ?_
      have h := Option.some.inj h
      subst h
      exact hret () dX0_minutesOf_20 rfl hw
theorem kM_X0_setMinutes : kM yX0_setMinutes cX0_setMinutes 3 (none : Option Jvm.ClassFile.FieldType) 2 := ⟨kc_X0_setMinutes, kn_RingsOff_Evening, by decide +kernel⟩
abbrev R_X0_setMinutes : Room := { frames := 0, cells := 0, slots := 0, locals := 0 }
set_option maxHeartbeats 4000000 in
set_option maxRecDepth 100000 in
theorem c_X0_setMinutes (l : Launch) {ad : Nat → Nat} {N : Nat} {ev : EV} {p1 : Int32} {p2 : Int32} {out : EV} (h : M_X0_setMinutes N ev p1 p2 = some out) : gM l yX0_setMinutes cX0_setMinutes 3 (none : Option Jvm.ClassFile.FieldType) R_X0_setMinutes (fun _ => [.ref (ad 0), .int p1, .int p2]) (fun g => [wEV g ad ev]) (gQv (fun g (_ : Unit) => [wEV g ad out])) := by
  refine gM.ofv (by decide +kernel) (fun _ => Nat.le_of_ble_eq_true rfl) (fun g p e s m args below meth c A ls Q X hret hw hl => ?_)
  have hx := X.1.1
  have hb := X.1.2.1
  have hl : lv_has ls 3 [(0, .ref (ad 0)), (1, .int p1), (2, .int p2)] := hl
  unfold M_X0_setMinutes at h
  refine lv_iload_n hx hb dX0_setMinutes_0 rfl (lv_at hl 1 rfl) ?_
  refine lv_if_lt (tgt := 17) hx hb dX0_setMinutes_1 (by decide) (fun k1 => ?_) (fun k1 => ?_)
  · have h := itt k1 h
    have h := Option.some.inj h
    subst h
    exact hret () dX0_setMinutes_17 hw
  · have h := itf k1 h
    refine lv_iload_n hx hb dX0_setMinutes_4 rfl (lv_at hl 1 rfl) ?_
    refine lv_bipush (v := 10) hx hb dX0_setMinutes_5 (by decide) ?_
    refine lv_icmp_ge (tgt := 17) hx hb dX0_setMinutes_7 (by decide) (fun k7 => ?_) (fun k7 => ?_)
    · have h := itt k7 h
      have h := Option.some.inj h
      subst h
      exact hret () dX0_setMinutes_17 hw
    · have h := itf k7 h
      refine lv_aload_n hx hb dX0_setMinutes_10 rfl (lv_at hl 0 rfl) ?_
      refine EV_g_ringMinutes X hw 0 rfl kf_X0_30 dX0_setMinutes_11 ?_
      refine lv_iload_n hx hb dX0_setMinutes_14 rfl (lv_at hl 1 rfl) ?_
      refine lv_iload_n hx hb dX0_setMinutes_15 rfl (lv_at hl 2 rfl) ?_
      obtain ⟨q16, h⟩ := chk h
      refine EV_a_ringMinutes (gs' := [wEV g ad (EV_s_ringMinutes ev (upd (EV_ringMinutes ev) p1.toNatClampNeg p2))]) X hw 0 rfl q16 dX0_setMinutes_16 rfl (fun H locs hw => ?_)
      have h := Option.some.inj h
      subst h
      exact hret () dX0_setMinutes_17 hw
theorem kM_X0_minutesOfMove : kM yX0_minutesOfMove cX0_minutesOfMove 2 (some FieldType.int) 1 := ⟨kc_X0_minutesOfMove, kn_RingsOff_Evening, by decide +kernel⟩
abbrev R_X0_minutesOfMove : Room := { frames := 1, cells := 0, slots := 0, locals := 23 }
set_option maxHeartbeats 4000000 in
set_option maxRecDepth 100000 in
theorem c_X0_minutesOfMove (l : Launch) {ad : Nat → Nat} {N : Nat} {ev : EV} {p1 : Int32} {out : Int32} (h : M_X0_minutesOfMove N ev p1 = some out) : gM l yX0_minutesOfMove cX0_minutesOfMove 2 (some FieldType.int) R_X0_minutesOfMove (fun _ => [.ref (ad 0), .int p1]) (fun g => [wEV g ad ev]) (gQi (fun (_ : Unit) => out) (fun g (_ : Unit) => [wEV g ad ev])) := by
  refine gM.ofi (by decide +kernel) (fun _ => Nat.le_of_ble_eq_true rfl) (fun g p e s m args below meth c A ls Q X hret hw hl => ?_)
  have hx := X.1.1
  have hb := X.1.2.1
  have hl : lv_has ls 2 [(0, .ref (ad 0)), (1, .int p1)] := hl
  unfold M_X0_minutesOfMove at h
  refine lv_iload_n hx hb dX0_minutesOfMove_0 rfl (lv_at hl 1 rfl) ?_
  refine lv_bipush (v := 20) hx hb dX0_minutesOfMove_1 (by decide) ?_
  refine lv_icmp_ne (tgt := 22) hx hb dX0_minutesOfMove_3 (by decide) (fun k3 => ?_) (fun k3 => ?_)
  · have h := itt k3 h
    refine lv_aload_n hx hb dX0_minutesOfMove_22 rfl (lv_at hl 0 rfl) ?_
    refine lv_iload_n hx hb dX0_minutesOfMove_23 rfl (lv_at hl 1 rfl) ?_
    obtain ⟨r24, h24, h⟩ := bnd h
    refine g_calli0 (isC := [0]) (gn := fun _ => [wEV g ad ev]) (g_runV (isC := [0]) (rest := []) (As := [.int p1]) X hw (c_X0_minutesOf l (ad := ad) h24) rfl kM_X0_minutesOf ki_X0_minutesOf ks_X0_minutesOf km_X0_81 ⟨(Nat.le_of_ble_eq_true rfl), (Nat.le_of_ble_eq_true rfl)⟩ ⟨(Nat.le_of_ble_eq_true rfl), (Nat.le_of_ble_eq_true rfl)⟩ rfl rfl ⟨_, _, _, _, rfl, rfl, rfl, rfl⟩ rfl hl.1 rfl (Nat.le_of_ble_eq_true rfl) dX0_minutesOfMove_24) hw rfl rfl (fun _ => (Nat.le_of_ble_eq_true rfl)) (fun _ => rfl) rfl rfl (fun _ H locs hw => ?_)
    have h := Option.some.inj h
    subst h
    exact hret () dX0_minutesOfMove_27 rfl hw
  · have h := itf (fun z => z k3) h
    refine lv_aload_n hx hb dX0_minutesOfMove_6 rfl (lv_at hl 0 rfl) ?_
    refine lv_iconst (v := 0) hx hb dX0_minutesOfMove_7 (by decide) ?_
    obtain ⟨r8, h8, h⟩ := bnd h
    refine g_calli0 (isC := [0]) (gn := fun _ => [wEV g ad ev]) (g_runV (isC := [0]) (rest := []) (As := [.int (0 : Int32)]) X hw (c_X0_minutesOf l (ad := ad) h8) rfl kM_X0_minutesOf ki_X0_minutesOf ks_X0_minutesOf km_X0_81 ⟨(Nat.le_of_ble_eq_true rfl), (Nat.le_of_ble_eq_true rfl)⟩ ⟨(Nat.le_of_ble_eq_true rfl), (Nat.le_of_ble_eq_true rfl)⟩ rfl rfl ⟨_, _, _, _, rfl, rfl, rfl, rfl⟩ rfl hl.1 rfl (Nat.le_of_ble_eq_true rfl) dX0_minutesOfMove_8) hw rfl rfl (fun _ => (Nat.le_of_ble_eq_true rfl)) (fun _ => rfl) rfl rfl (fun _ H locs hw => ?_)
    refine lv_aload_n hx hb dX0_minutesOfMove_11 rfl (lv_at hl 0 rfl) ?_
    refine lv_iconst (v := 1) hx hb dX0_minutesOfMove_12 (by decide) ?_
    obtain ⟨r13, h13, h⟩ := bnd h
    refine g_calli0 (isC := [0]) (gn := fun _ => [wEV g ad ev]) (g_runV (isC := [0]) (rest := [.int r8]) (As := [.int (1 : Int32)]) X hw (c_X0_minutesOf l (ad := ad) h13) rfl kM_X0_minutesOf ki_X0_minutesOf ks_X0_minutesOf km_X0_81 ⟨(Nat.le_of_ble_eq_true rfl), (Nat.le_of_ble_eq_true rfl)⟩ ⟨(Nat.le_of_ble_eq_true rfl), (Nat.le_of_ble_eq_true rfl)⟩ rfl rfl ⟨_, _, _, _, rfl, rfl, rfl, rfl⟩ rfl hl.1 rfl (Nat.le_of_ble_eq_true rfl) dX0_minutesOfMove_13) hw rfl rfl (fun _ => (Nat.le_of_ble_eq_true rfl)) (fun _ => rfl) rfl rfl (fun _ H locs hw => ?_)
    refine va_mmax hx hb (X.1.2.2.1.trans hl.1.symm) X.1.2.2.2.1 (gK1 X _ km_X0_84) (gK1 X _ kt_J9_max_7cf53) (gK1 X _ kn_java_lang_Math) (gK1 X _ kc_J9_max_7cf53) (Nat.le_of_ble_eq_true rfl) (Nat.le_of_ble_eq_true rfl) (Nat.le_of_ble_eq_true rfl) (Nat.le_of_ble_eq_true rfl) dX0_minutesOfMove_16 ?_
    refine W.eq (g2 := F0 m 19 ls [.int (jmax r8 r13)]) rfl ?_
    refine lv_goto (tgt := 27) hx hb dX0_minutesOfMove_19 (by decide) ?_
    have h := Option.some.inj h
    subst h
    exact hret () dX0_minutesOfMove_27 rfl hw
theorem kM_X0_allMinutes : kM yX0_allMinutes cX0_allMinutes 3 (some FieldType.int) 0 := ⟨kc_X0_allMinutes, kn_RingsOff_Evening, by decide +kernel⟩
abbrev R_X0_allMinutes : Room := { frames := 0, cells := 0, slots := 0, locals := 0 }
set_option maxHeartbeats 4000000 in
set_option maxRecDepth 100000 in
theorem c_X0_allMinutes (l : Launch) {ad : Nat → Nat} {N : Nat} {ev : EV} {out : Int32} (h : M_X0_allMinutes N ev = some out) : gM l yX0_allMinutes cX0_allMinutes 3 (some FieldType.int) R_X0_allMinutes (fun _ => [.ref (ad 0)]) (fun g => [wEV g ad ev]) (gQi (fun (_ : Unit) => out) (fun g (_ : Unit) => [wEV g ad ev])) := by
  refine gM.ofi (by decide +kernel) (fun _ => Nat.le_of_ble_eq_true rfl) (fun g p e s m args below meth c A ls Q X hret hw hl => ?_)
  have hx := X.1.1
  have hb := X.1.2.1
  have hl : lv_has ls 3 [(0, .ref (ad 0))] := hl
  have L4 : ∀ (n : Nat) (z4 : Int32 × Int32), lp (M_X0_allMinutes_l4 N ev) n z4 = some out → ∀ (H : Heap) (locs : List Loc) (ls : Array Slot), gW g A s.heap [wEV g ad ev] H locs → lv_has ls 3 [(0, .ref (ad 0)), (1, .int z4.1), (2, .int z4.2)] → W p l e R_X0_allMinutes s m args below meth c H locs 0 0 Q (F0 m 4 ls []) := by
    refine lp_ind ?_
    intro rec4 ih4
    intro z4 h H locs ls hw hl
    unfold M_X0_allMinutes_l4 at h
    refine lv_iload_n hx hb dX0_allMinutes_4 rfl (lv_at hl 2 rfl) ?_
    refine lv_bipush (v := 10) hx hb dX0_allMinutes_5 (by decide) ?_
    refine lv_icmp_ge (tgt := 25) hx hb dX0_allMinutes_7 (by decide) (fun k7 => ?_) (fun k7 => ?_)
    · have h := itt k7 h
      refine lv_iload_n hx hb dX0_allMinutes_25 rfl (lv_at hl 1 rfl) ?_
      have h := Option.some.inj h
      subst h
      exact hret () dX0_allMinutes_26 rfl hw
    · have h := itf k7 h
      refine lv_iload_n hx hb dX0_allMinutes_10 rfl (lv_at hl 1 rfl) ?_
      refine lv_aload_n hx hb dX0_allMinutes_11 rfl (lv_at hl 0 rfl) ?_
      refine EV_g_ringMinutes X hw 0 rfl kf_X0_30 dX0_allMinutes_12 ?_
      refine lv_iload_n hx hb dX0_allMinutes_15 rfl (lv_at hl 2 rfl) ?_
      obtain ⟨q16, h⟩ := chk h
      refine EV_l_ringMinutes X hw 0 rfl q16 dX0_allMinutes_16 ?_
      refine lv_iadd hx hb dX0_allMinutes_17 ?_
      refine lv_istore_n (lv' := [(1, .int (z4.1 + (EV_ringMinutes ev z4.2.toNatClampNeg))), (0, .ref (ad 0)), (2, .int z4.2)]) hx hb dX0_allMinutes_18 rfl hl (by decide) rfl (fun ls hl => ?_)
      refine lv_iinc (v := (z4.2 + 1)) (lv' := [(2, .int (z4.2 + 1)), (1, .int (z4.1 + (EV_ringMinutes ev z4.2.toNatClampNeg))), (0, .ref (ad 0))]) hx hb dX0_allMinutes_19 hl (k := 2) rfl rfl (by decide) rfl (fun ls hl => ?_)
      refine lv_goto (tgt := 4) hx hb dX0_allMinutes_22 (by decide) ?_
      exact ih4 _ h _ _ _ hw (lv_sub hl [2, 1, 0] rfl)
  unfold M_X0_allMinutes at h
  refine lv_iconst (v := 0) hx hb dX0_allMinutes_0 (by decide) ?_
  refine lv_istore_n (lv' := [(1, .int (0 : Int32)), (0, .ref (ad 0))]) hx hb dX0_allMinutes_1 rfl hl (by decide) rfl (fun ls hl => ?_)
  refine lv_iconst (v := 0) hx hb dX0_allMinutes_2 (by decide) ?_
  refine lv_istore_n (lv' := [(2, .int (0 : Int32)), (1, .int (0 : Int32)), (0, .ref (ad 0))]) hx hb dX0_allMinutes_3 rfl hl (by decide) rfl (fun ls hl => ?_)
  exact L4 N _ h _ _ _ hw (lv_sub hl [2, 1, 0] rfl)
theorem kM_X0_hasMove : kM yX0_hasMove cX0_hasMove 3 (some FieldType.boolean) 2 := ⟨kc_X0_hasMove, kn_RingsOff_Evening, by decide +kernel⟩
abbrev R_X0_hasMove : Room := { frames := 2, cells := 0, slots := 0, locals := 43 }
set_option maxHeartbeats 4000000 in
set_option maxRecDepth 100000 in
theorem c_X0_hasMove (l : Launch) {ad : Nat → Nat} {N : Nat} {ev : EV} {p1 : Int32} {p2 : Int32} {out : Int32} (h : M_X0_hasMove N ev p1 p2 = some out) : gM l yX0_hasMove cX0_hasMove 3 (some FieldType.boolean) R_X0_hasMove (fun _ => [.ref (ad 0), .int p1, .int p2]) (fun g => [wEV g ad ev]) (gQi (fun (_ : Unit) => out) (fun g (_ : Unit) => [wEV g ad ev])) := by
  refine gM.ofz (by decide +kernel) (fun _ => Nat.le_of_ble_eq_true rfl) (fun g p e s m args below meth c A ls Q X hret hw hl => ?_)
  have hx := X.1.1
  have hb := X.1.2.1
  have hl : lv_has ls 3 [(0, .ref (ad 0)), (1, .int p1), (2, .int p2)] := hl
  unfold M_X0_hasMove at h
  refine lv_iload_n hx hb dX0_hasMove_0 rfl (lv_at hl 2 rfl) ?_
  refine lv_bipush (v := 20) hx hb dX0_hasMove_1 (by decide) ?_
  refine lv_icmp_ne (tgt := 30) hx hb dX0_hasMove_3 (by decide) (fun k3 => ?_) (fun k3 => ?_)
  · have h := itt k3 h
    refine lv_aload_n hx hb dX0_hasMove_30 rfl (lv_at hl 0 rfl) ?_
    refine lv_iload_n hx hb dX0_hasMove_31 rfl (lv_at hl 1 rfl) ?_
    refine lv_iload_n hx hb dX0_hasMove_32 rfl (lv_at hl 2 rfl) ?_
    obtain ⟨r33, h33, h⟩ := bnd h
    refine g_calli0 (isC := [0]) (gn := fun _ => [wEV g ad ev]) (g_runV (isC := [0]) (rest := []) (As := [.int p1, .int p2]) X hw (c_X0_hasRing l (ad := ad) h33) rfl kM_X0_hasRing ki_X0_hasRing ks_X0_hasRing km_X0_66 ⟨(Nat.le_of_ble_eq_true rfl), (Nat.le_of_ble_eq_true rfl)⟩ ⟨(Nat.le_of_ble_eq_true rfl), (Nat.le_of_ble_eq_true rfl)⟩ rfl rfl ⟨_, _, _, _, rfl, rfl, rfl, rfl⟩ rfl hl.1 rfl (Nat.le_of_ble_eq_true rfl) dX0_hasMove_33) hw rfl rfl (fun _ => (Nat.le_of_ble_eq_true rfl)) (fun _ => rfl) rfl rfl (fun _ H locs hw => ?_)
    obtain ⟨q36, h⟩ := chk h
    have h := Option.some.inj h
    subst h
    exact hret () dX0_hasMove_36 (Decidable.not_not.mp q36) rfl hw
  · have h := itf (fun z => z k3) h
    refine lv_aload_n hx hb dX0_hasMove_6 rfl (lv_at hl 0 rfl) ?_
    refine lv_iload_n hx hb dX0_hasMove_7 rfl (lv_at hl 1 rfl) ?_
    obtain ⟨r8, h8, h⟩ := bnd h
    refine g_calli0 (isC := [0]) (gn := fun _ => [wEV g ad ev]) (g_runV (isC := [0]) (rest := []) (As := [.int p1]) X hw (c_X0_kindOf l (ad := ad) h8) rfl kM_X0_kindOf ki_X0_kindOf ks_X0_kindOf km_X0_59 ⟨(Nat.le_of_ble_eq_true rfl), (Nat.le_of_ble_eq_true rfl)⟩ ⟨(Nat.le_of_ble_eq_true rfl), (Nat.le_of_ble_eq_true rfl)⟩ rfl rfl ⟨_, _, _, _, rfl, rfl, rfl, rfl⟩ rfl hl.1 rfl (Nat.le_of_ble_eq_true rfl) dX0_hasMove_8) hw rfl rfl (fun _ => (Nat.le_of_ble_eq_true rfl)) (fun _ => rfl) rfl rfl (fun _ H locs hw => ?_)
    refine lv_iconst (v := 2) hx hb dX0_hasMove_11 (by decide) ?_
    refine lv_icmp_ne (tgt := 28) hx hb dX0_hasMove_12 (by decide) (fun k12 => ?_) (fun k12 => ?_)
    · have h := itt k12 h
      refine lv_iconst (v := 0) hx hb dX0_hasMove_28 (by decide) ?_
      have h := Option.some.inj h
      subst h
      exact hret () dX0_hasMove_29 (by decide) rfl hw
    · have h := itf (fun z => z k12) h
      refine lv_aload_n hx hb dX0_hasMove_15 rfl (lv_at hl 0 rfl) ?_
      refine lv_iload_n hx hb dX0_hasMove_16 rfl (lv_at hl 1 rfl) ?_
      obtain ⟨r17, h17, h⟩ := bnd h
      refine g_calli0 (isC := [0]) (gn := fun _ => [wEV g ad ev]) (g_runV (isC := [0]) (rest := []) (As := [.int p1]) X hw (c_X0_sizeOf l (ad := ad) h17) rfl kM_X0_sizeOf ki_X0_sizeOf ks_X0_sizeOf km_X0_63 ⟨(Nat.le_of_ble_eq_true rfl), (Nat.le_of_ble_eq_true rfl)⟩ ⟨(Nat.le_of_ble_eq_true rfl), (Nat.le_of_ble_eq_true rfl)⟩ rfl rfl ⟨_, _, _, _, rfl, rfl, rfl, rfl⟩ rfl hl.1 rfl (Nat.le_of_ble_eq_true rfl) dX0_hasMove_17) hw rfl rfl (fun _ => (Nat.le_of_ble_eq_true rfl)) (fun _ => rfl) rfl rfl (fun _ H locs hw => ?_)
      refine lv_iconst (v := 2) hx hb dX0_hasMove_20 (by decide) ?_
      refine lv_icmp_lt (tgt := 28) hx hb dX0_hasMove_21 (by decide) (fun k21 => ?_) (fun k21 => ?_)
      · have h := itt k21 h
        refine lv_iconst (v := 0) hx hb dX0_hasMove_28 (by decide) ?_
        have h := Option.some.inj h
        subst h
        exact hret () dX0_hasMove_29 (by decide) rfl hw
      · have h := itf k21 h
        refine lv_iconst (v := 1) hx hb dX0_hasMove_24 (by decide) ?_
        refine lv_goto (tgt := 29) hx hb dX0_hasMove_25 (by decide) ?_
        have h := Option.some.inj h
        subst h
        exact hret () dX0_hasMove_29 (by decide) rfl hw
theorem kM_X0_makeMove : kM yX0_makeMove cX0_makeMove 3 (none : Option Jvm.ClassFile.FieldType) 2 := ⟨kc_X0_makeMove, kn_RingsOff_Evening, by decide +kernel⟩
abbrev R_X0_makeMove : Room := { frames := 1, cells := 0, slots := 0, locals := 21 }
set_option maxHeartbeats 4000000 in
set_option maxRecDepth 100000 in
theorem c_X0_makeMove (l : Launch) {ad : Nat → Nat} {N : Nat} {ev : EV} {p1 : Int32} {p2 : Int32} {out : EV} (h : M_X0_makeMove N ev p1 p2 = some out) : gM l yX0_makeMove cX0_makeMove 3 (none : Option Jvm.ClassFile.FieldType) R_X0_makeMove (fun _ => [.ref (ad 0), .int p1, .int p2]) (fun g => [wEV g ad ev]) (gQv (fun g (_ : Unit) => [wEV g ad out])) := by
  refine gM.ofv (by decide +kernel) (fun _ => Nat.le_of_ble_eq_true rfl) (fun g p e s m args below meth c A ls Q X hret hw hl => ?_)
  have hx := X.1.1
  have hb := X.1.2.1
  have hl : lv_has ls 3 [(0, .ref (ad 0)), (1, .int p1), (2, .int p2)] := hl
  unfold M_X0_makeMove at h
  refine lv_aload_n hx hb dX0_makeMove_0 rfl (lv_at hl 0 rfl) ?_
  refine lv_iload_n hx hb dX0_makeMove_1 rfl (lv_at hl 1 rfl) ?_
  obtain ⟨r2, h2, h⟩ := bnd h
  refine g_calli0 (isC := [0]) (gn := fun _ => [wEV g ad ev]) (g_runV (isC := [0]) (rest := []) (As := [.int p1]) X hw (c_X0_hasBar l (ad := ad) h2) rfl kM_X0_hasBar ki_X0_hasBar ks_X0_hasBar km_X0_55 ⟨(Nat.le_of_ble_eq_true rfl), (Nat.le_of_ble_eq_true rfl)⟩ ⟨(Nat.le_of_ble_eq_true rfl), (Nat.le_of_ble_eq_true rfl)⟩ rfl rfl ⟨_, _, _, _, rfl, rfl, rfl, rfl⟩ rfl hl.1 rfl (Nat.le_of_ble_eq_true rfl) dX0_makeMove_2) hw rfl rfl (fun _ => (Nat.le_of_ble_eq_true rfl)) (fun _ => rfl) rfl rfl (fun _ H locs hw => ?_)
  refine lv_if_eq (tgt := 31) hx hb dX0_makeMove_5 (by decide) (fun k5 => ?_) (fun k5 => ?_)
  · have h := itt k5 h
    have h := Option.some.inj h
    subst h
    exact hret () dX0_makeMove_31 hw
  · have h := itf k5 h
    refine lv_aload_n hx hb dX0_makeMove_8 rfl (lv_at hl 0 rfl) ?_
    refine EV_g_ons X hw 0 rfl kf_X0_18 dX0_makeMove_9 ?_
    refine lv_iload_n hx hb dX0_makeMove_12 rfl (lv_at hl 1 rfl) ?_
    refine lv_dup2_11 hx hb dX0_makeMove_13 rfl rfl ?_
    obtain ⟨q14, h⟩ := chk h
    refine EV_l_ons X hw 0 rfl q14 dX0_makeMove_14 ?_
    refine lv_iload_n hx hb dX0_makeMove_15 rfl (lv_at hl 2 rfl) ?_
    obtain ⟨r16, h16, h⟩ := bnd h
    refine g_calli0 (isC := []) (gn := fun _ => [wEV g ad ev]) (g_runSN (isC := []) (rest := [.int (EV_ons ev p1.toNatClampNeg), .int p1, .ref (ad 3)]) (As := [.int p2]) X hw (c_X5_ringsOf l h16) rfl kM_X5_ringsOf kt_X5_ringsOf km_X0_77 ⟨(Nat.le_of_ble_eq_true rfl), (Nat.le_of_ble_eq_true rfl)⟩ ⟨(Nat.le_of_ble_eq_true rfl), (Nat.le_of_ble_eq_true rfl)⟩ rfl rfl rfl hl.1 rfl (Nat.le_of_ble_eq_true rfl) dX0_makeMove_16) hw rfl rfl (fun _ => (Nat.le_of_ble_eq_true rfl)) (fun _ => rfl) rfl rfl (fun _ H locs hw => ?_)
    refine lv_ixor hx hb dX0_makeMove_19 ?_
    obtain ⟨q20, h⟩ := chk h
    refine EV_a_ons (gs' := [wEV g ad (EV_s_ons ev (upd (EV_ons ev) p1.toNatClampNeg ((EV_ons ev p1.toNatClampNeg) ^^^ r16)))]) X hw 0 rfl q20 dX0_makeMove_20 rfl (fun H locs hw => ?_)
    refine lv_aload_n hx hb dX0_makeMove_21 rfl (lv_at hl 0 rfl) ?_
    refine lv_dup hx hb dX0_makeMove_22 rfl ?_
    refine EV_g_moved X hw 0 rfl kf_X0_37 dX0_makeMove_23 ?_
    refine lv_iconst (v := 1) hx hb dX0_makeMove_26 (by decide) ?_
    refine lv_iadd hx hb dX0_makeMove_27 ?_
    refine EV_p_moved (gs' := [wEV g ad (EV_s_moved (EV_s_ons ev (upd (EV_ons ev) p1.toNatClampNeg ((EV_ons ev p1.toNatClampNeg) ^^^ r16))) ((EV_moved (EV_s_ons ev (upd (EV_ons ev) p1.toNatClampNeg ((EV_ons ev p1.toNatClampNeg) ^^^ r16)))) + (1 : Int32)))]) X hw 0 rfl kf_X0_37 dX0_makeMove_28 rfl (fun H locs hw => ?_)
    have h := Option.some.inj h
    subst h
    exact hret () dX0_makeMove_31 hw
theorem kM_X0_minutesOfChain : kM yX0_minutesOfChain cX0_minutesOfChain 4 (some FieldType.int) 1 := ⟨kc_X0_minutesOfChain, kn_RingsOff_Evening, by decide +kernel⟩
abbrev R_X0_minutesOfChain : Room := { frames := 1, cells := 0, slots := 0, locals := 24 }
set_option maxHeartbeats 4000000 in
set_option maxRecDepth 100000 in
theorem c_X0_minutesOfChain (l : Launch) {ad : Nat → Nat} {N : Nat} {ev : EV} {p1 : Int32} {out : Int32} (h : M_X0_minutesOfChain N ev p1 = some out) : gM l yX0_minutesOfChain cX0_minutesOfChain 4 (some FieldType.int) R_X0_minutesOfChain (fun _ => [.ref (ad 0), .int p1]) (fun g => [wEV g ad ev]) (gQi (fun (_ : Unit) => out) (fun g (_ : Unit) => [wEV g ad ev])) := by
  refine gM.ofi (by decide +kernel) (fun _ => Nat.le_of_ble_eq_true rfl) (fun g p e s m args below meth c A ls Q X hret hw hl => ?_)
  have hx := X.1.1
  have hb := X.1.2.1
  have hl : lv_has ls 4 [(0, .ref (ad 0)), (1, .int p1)] := hl
  have L13 : ∀ (n : Nat) (z13 : Int32 × Int32), lp (M_X0_minutesOfChain_l13 N ev p1) n z13 = some out → ∀ (H : Heap) (locs : List Loc) (ls : Array Slot), gW g A s.heap [wEV g ad ev] H locs → lv_has ls 4 [(0, .ref (ad 0)), (2, .int z13.1), (3, .int z13.2)] → W p l e R_X0_minutesOfChain s m args below meth c H locs 0 0 Q (F0 m 13 ls []) := by
    refine lp_ind ?_
    intro rec13 ih13
    intro z13 h H locs ls hw hl
    unfold M_X0_minutesOfChain_l13 at h
    refine lv_iload_n hx hb dX0_minutesOfChain_13 rfl (lv_at hl 2 rfl) ?_
    refine lv_if_le (tgt := 34) hx hb dX0_minutesOfChain_14 (by decide) (fun k14 => ?_) (fun k14 => ?_)
    · have h := itt k14 h
      refine lv_iload_n hx hb dX0_minutesOfChain_34 rfl (lv_at hl 1 rfl) ?_
      have h := Option.some.inj h
      subst h
      exact hret () dX0_minutesOfChain_35 rfl hw
    · have h := itf k14 h
      refine lv_iload_n hx hb dX0_minutesOfChain_17 rfl (lv_at hl 1 rfl) ?_
      refine lv_aload_n hx hb dX0_minutesOfChain_18 rfl (lv_at hl 0 rfl) ?_
      refine lv_iload_n hx hb dX0_minutesOfChain_19 rfl (lv_at hl 2 rfl) ?_
      obtain ⟨r20, h20, h⟩ := bnd h
      refine g_calli0 (isC := []) (gn := fun _ => [wEV g ad ev]) (g_runS (isC := []) (rest := [.ref (ad 0), .int z13.1]) (As := [.int z13.2]) X hw (c_J6_numberOfTrailingZeros_0f7a4 l h20) rfl kM_J6_numberOfTrailingZeros_0f7a4 kt_J6_numberOfTrailingZeros_0f7a4 km_X0_93 ⟨(Nat.le_of_ble_eq_true rfl), (Nat.le_of_ble_eq_true rfl)⟩ ⟨(Nat.le_of_ble_eq_true rfl), (Nat.le_of_ble_eq_true rfl)⟩ rfl rfl rfl hl.1 rfl (Nat.le_of_ble_eq_true rfl) dX0_minutesOfChain_20) hw rfl rfl (fun _ => (Nat.le_of_ble_eq_true rfl)) (fun _ => rfl) rfl rfl (fun _ H locs hw => ?_)
      obtain ⟨r23, h23, h⟩ := bnd h
      refine g_calli0 (isC := [0]) (gn := fun _ => [wEV g ad ev]) (g_runV (isC := [0]) (rest := [.int z13.1]) (As := [.int r20]) X hw (c_X0_minutesOf l (ad := ad) h23) rfl kM_X0_minutesOf ki_X0_minutesOf ks_X0_minutesOf km_X0_81 ⟨(Nat.le_of_ble_eq_true rfl), (Nat.le_of_ble_eq_true rfl)⟩ ⟨(Nat.le_of_ble_eq_true rfl), (Nat.le_of_ble_eq_true rfl)⟩ rfl rfl ⟨_, _, _, _, rfl, rfl, rfl, rfl⟩ rfl hl.1 rfl (Nat.le_of_ble_eq_true rfl) dX0_minutesOfChain_23) hw rfl rfl (fun _ => (Nat.le_of_ble_eq_true rfl)) (fun _ => rfl) rfl rfl (fun _ H locs hw => ?_)
      refine lv_iadd hx hb dX0_minutesOfChain_26 ?_
      refine lv_istore_n (lv' := [(2, .int (z13.1 + r23)), (0, .ref (ad 0)), (3, .int z13.2)]) hx hb dX0_minutesOfChain_27 rfl hl (by decide) rfl (fun ls hl => ?_)
      obtain ⟨y28, e28⟩ : ∃ y : Int32, y = (z13.2 + (-1)) := ⟨_, rfl⟩
      try rw [← e28] at h
      refine lv_iinc (v := y28) (lv' := [(3, .int y28), (2, .int (z13.1 + r23)), (0, .ref (ad 0))]) hx hb dX0_minutesOfChain_28 hl (k := 2) rfl (by rw [ofI_m1, e28]) (by decide) rfl (fun ls hl => ?_)
      refine lv_goto (tgt := 13) hx hb dX0_minutesOfChain_31 (by decide) ?_
      exact ih13 _ h _ _ _ hw (lv_sub hl [2, 1, 0] rfl)
  unfold M_X0_minutesOfChain at h
  refine lv_iconst (v := 0) hx hb dX0_minutesOfChain_0 (by decide) ?_
  refine lv_istore_n (lv' := [(2, .int (0 : Int32)), (0, .ref (ad 0)), (1, .int p1)]) hx hb dX0_minutesOfChain_1 rfl hl (by decide) rfl (fun ls hl => ?_)
  refine lv_iconst (v := 1) hx hb dX0_minutesOfChain_2 (by decide) ?_
  refine lv_iload_n hx hb dX0_minutesOfChain_3 rfl (lv_at hl 2 rfl) ?_
  refine lv_ishl hx hb dX0_minutesOfChain_4 ?_
  refine lv_iconst (v := 1) hx hb dX0_minutesOfChain_5 (by decide) ?_
  refine lv_isub hx hb dX0_minutesOfChain_6 ?_
  refine lv_i2l (v := (((1 : Int32) <<< (p1 &&& 31)) - (1 : Int32)).toInt64) hx hb dX0_minutesOfChain_7 rfl ?_
  obtain ⟨r8, h8, h⟩ := bnd h
  refine g_calll0 (isC := []) (gn := fun _ => [wEV g ad ev]) (g_runSN (isC := []) (rest := []) (As := [.long (((1 : Int32) <<< (p1 &&& 31)) - (1 : Int32)).toInt64]) X hw (c_X5_grayPlace l h8) rfl kM_X5_grayPlace kt_X5_grayPlace km_X0_89 ⟨(Nat.le_of_ble_eq_true rfl), (Nat.le_of_ble_eq_true rfl)⟩ ⟨(Nat.le_of_ble_eq_true rfl), (Nat.le_of_ble_eq_true rfl)⟩ rfl rfl rfl hl.1 rfl (Nat.le_of_ble_eq_true rfl) dX0_minutesOfChain_8) hw rfl rfl (fun _ => (Nat.le_of_ble_eq_true rfl)) (fun _ => rfl) rfl rfl (fun _ H locs hw => ?_)
  refine lv_l2i (v := r8.toInt32) hx hb dX0_minutesOfChain_11 rfl ?_
  refine lv_istore_n (lv' := [(3, .int r8.toInt32), (2, .int (0 : Int32)), (0, .ref (ad 0)), (1, .int p1)]) hx hb dX0_minutesOfChain_12 rfl hl (by decide) rfl (fun ls hl => ?_)
  exact L13 N _ h _ _ _ hw (lv_sub hl [2, 1, 0] rfl)
theorem kM_X0_ringsOn : kM yX0_ringsOn cX0_ringsOn 3 (some FieldType.int) 0 := ⟨kc_X0_ringsOn, kn_RingsOff_Evening, by decide +kernel⟩
abbrev R_X0_ringsOn : Room := { frames := 2, cells := 0, slots := 0, locals := 42 }
set_option maxHeartbeats 4000000 in
set_option maxRecDepth 100000 in
theorem c_X0_ringsOn (l : Launch) {ad : Nat → Nat} {N : Nat} {ev : EV} {out : Int32} (h : M_X0_ringsOn N ev = some out) : gM l yX0_ringsOn cX0_ringsOn 3 (some FieldType.int) R_X0_ringsOn (fun _ => [.ref (ad 0)]) (fun g => [wEV g ad ev]) (gQi (fun (_ : Unit) => out) (fun g (_ : Unit) => [wEV g ad ev])) := by
  refine gM.ofi (by decide +kernel) (fun _ => Nat.le_of_ble_eq_true rfl) (fun g p e s m args below meth c A ls Q X hret hw hl => ?_)
  have hx := X.1.1
  have hb := X.1.2.1
  have hl : lv_has ls 3 [(0, .ref (ad 0))] := hl
  have L4 : ∀ (n : Nat) (z4 : Int32 × Int32), lp (M_X0_ringsOn_l4 N ev) n z4 = some out → ∀ (H : Heap) (locs : List Loc) (ls : Array Slot), gW g A s.heap [wEV g ad ev] H locs → lv_has ls 3 [(0, .ref (ad 0)), (1, .int z4.1), (2, .int z4.2)] → W p l e R_X0_ringsOn s m args below meth c H locs 0 0 Q (F0 m 4 ls []) := by
    refine lp_ind ?_
    intro rec4 ih4
    intro z4 h H locs ls hw hl
    unfold M_X0_ringsOn_l4 at h
    refine lv_iload_n hx hb dX0_ringsOn_4 rfl (lv_at hl 2 rfl) ?_
    refine lv_aload_n hx hb dX0_ringsOn_5 rfl (lv_at hl 0 rfl) ?_
    refine EV_g_bars X hw 0 rfl kf_X0_33 dX0_ringsOn_6 ?_
    refine lv_icmp_ge (tgt := 29) hx hb dX0_ringsOn_9 (by decide) (fun k9 => ?_) (fun k9 => ?_)
    · have h := itt k9 h
      refine lv_iload_n hx hb dX0_ringsOn_29 rfl (lv_at hl 1 rfl) ?_
      have h := Option.some.inj h
      subst h
      exact hret () dX0_ringsOn_30 rfl hw
    · have h := itf k9 h
      refine lv_iload_n hx hb dX0_ringsOn_12 rfl (lv_at hl 1 rfl) ?_
      refine lv_aload_n hx hb dX0_ringsOn_13 rfl (lv_at hl 0 rfl) ?_
      refine lv_iload_n hx hb dX0_ringsOn_14 rfl (lv_at hl 2 rfl) ?_
      obtain ⟨r15, h15, h⟩ := bnd h
      refine g_calli0 (isC := [0]) (gn := fun _ => [wEV g ad ev]) (g_runV (isC := [0]) (rest := [.int z4.1]) (As := [.int z4.2]) X hw (c_X0_onOf l (ad := ad) h15) rfl kM_X0_onOf ki_X0_onOf ks_X0_onOf km_X0_98 ⟨(Nat.le_of_ble_eq_true rfl), (Nat.le_of_ble_eq_true rfl)⟩ ⟨(Nat.le_of_ble_eq_true rfl), (Nat.le_of_ble_eq_true rfl)⟩ rfl rfl ⟨_, _, _, _, rfl, rfl, rfl, rfl⟩ rfl hl.1 rfl (Nat.le_of_ble_eq_true rfl) dX0_ringsOn_15) hw rfl rfl (fun _ => (Nat.le_of_ble_eq_true rfl)) (fun _ => rfl) rfl rfl (fun _ H locs hw => ?_)
      obtain ⟨r18, h18, h⟩ := bnd h
      refine g_calli0 (isC := []) (gn := fun _ => [wEV g ad ev]) (g_runS (isC := []) (rest := [.int z4.1]) (As := [.int r15]) X hw (c_J6_bitCount_0f7a4 l h18) rfl kM_J6_bitCount_0f7a4 kt_J6_bitCount_0f7a4 km_X0_101 ⟨(Nat.le_of_ble_eq_true rfl), (Nat.le_of_ble_eq_true rfl)⟩ ⟨(Nat.le_of_ble_eq_true rfl), (Nat.le_of_ble_eq_true rfl)⟩ rfl rfl rfl hl.1 rfl (Nat.le_of_ble_eq_true rfl) dX0_ringsOn_18) hw rfl rfl (fun _ => (Nat.le_of_ble_eq_true rfl)) (fun _ => rfl) rfl rfl (fun _ H locs hw => ?_)
      refine lv_iadd hx hb dX0_ringsOn_21 ?_
      refine lv_istore_n (lv' := [(1, .int (z4.1 + r18)), (0, .ref (ad 0)), (2, .int z4.2)]) hx hb dX0_ringsOn_22 rfl hl (by decide) rfl (fun ls hl => ?_)
      refine lv_iinc (v := (z4.2 + 1)) (lv' := [(2, .int (z4.2 + 1)), (1, .int (z4.1 + r18)), (0, .ref (ad 0))]) hx hb dX0_ringsOn_23 hl (k := 2) rfl rfl (by decide) rfl (fun ls hl => ?_)
      refine lv_goto (tgt := 4) hx hb dX0_ringsOn_26 (by decide) ?_
      exact ih4 _ h _ _ _ hw (lv_sub hl [2, 1, 0] rfl)
  unfold M_X0_ringsOn at h
  refine lv_iconst (v := 0) hx hb dX0_ringsOn_0 (by decide) ?_
  refine lv_istore_n (lv' := [(1, .int (0 : Int32)), (0, .ref (ad 0))]) hx hb dX0_ringsOn_1 rfl hl (by decide) rfl (fun ls hl => ?_)
  refine lv_iconst (v := 0) hx hb dX0_ringsOn_2 (by decide) ?_
  refine lv_istore_n (lv' := [(2, .int (0 : Int32)), (1, .int (0 : Int32)), (0, .ref (ad 0))]) hx hb dX0_ringsOn_3 rfl hl (by decide) rfl (fun ls hl => ?_)
  exact L4 N _ h _ _ _ hw (lv_sub hl [2, 1, 0] rfl)
theorem kM_X0_ringsStuck : kM yX0_ringsStuck cX0_ringsStuck 3 (some FieldType.int) 0 := ⟨kc_X0_ringsStuck, kn_RingsOff_Evening, by decide +kernel⟩
abbrev R_X0_ringsStuck : Room := { frames := 2, cells := 0, slots := 0, locals := 42 }
set_option maxHeartbeats 4000000 in
set_option maxRecDepth 100000 in
theorem c_X0_ringsStuck (l : Launch) {ad : Nat → Nat} {N : Nat} {ev : EV} {out : Int32} (h : M_X0_ringsStuck N ev = some out) : gM l yX0_ringsStuck cX0_ringsStuck 3 (some FieldType.int) R_X0_ringsStuck (fun _ => [.ref (ad 0)]) (fun g => [wEV g ad ev]) (gQi (fun (_ : Unit) => out) (fun g (_ : Unit) => [wEV g ad ev])) := by
  refine gM.ofi (by decide +kernel) (fun _ => Nat.le_of_ble_eq_true rfl) (fun g p e s m args below meth c A ls Q X hret hw hl => ?_)
  have hx := X.1.1
  have hb := X.1.2.1
  have hl : lv_has ls 3 [(0, .ref (ad 0))] := hl
  have L4 : ∀ (n : Nat) (z4 : Int32 × Int32), lp (M_X0_ringsStuck_l4 N ev) n z4 = some out → ∀ (H : Heap) (locs : List Loc) (ls : Array Slot), gW g A s.heap [wEV g ad ev] H locs → lv_has ls 3 [(0, .ref (ad 0)), (1, .int z4.1), (2, .int z4.2)] → W p l e R_X0_ringsStuck s m args below meth c H locs 0 0 Q (F0 m 4 ls []) := by
    refine lp_ind ?_
    intro rec4 ih4
    intro z4 h H locs ls hw hl
    unfold M_X0_ringsStuck_l4 at h
    refine lv_iload_n hx hb dX0_ringsStuck_4 rfl (lv_at hl 2 rfl) ?_
    refine lv_aload_n hx hb dX0_ringsStuck_5 rfl (lv_at hl 0 rfl) ?_
    refine EV_g_bars X hw 0 rfl kf_X0_33 dX0_ringsStuck_6 ?_
    refine lv_icmp_ge (tgt := 29) hx hb dX0_ringsStuck_9 (by decide) (fun k9 => ?_) (fun k9 => ?_)
    · have h := itt k9 h
      refine lv_iload_n hx hb dX0_ringsStuck_29 rfl (lv_at hl 1 rfl) ?_
      have h := Option.some.inj h
      subst h
      exact hret () dX0_ringsStuck_30 rfl hw
    · have h := itf k9 h
      refine lv_iload_n hx hb dX0_ringsStuck_12 rfl (lv_at hl 1 rfl) ?_
      refine lv_aload_n hx hb dX0_ringsStuck_13 rfl (lv_at hl 0 rfl) ?_
      refine lv_iload_n hx hb dX0_ringsStuck_14 rfl (lv_at hl 2 rfl) ?_
      obtain ⟨r15, h15, h⟩ := bnd h
      refine g_calli0 (isC := [0]) (gn := fun _ => [wEV g ad ev]) (g_runV (isC := [0]) (rest := [.int z4.1]) (As := [.int z4.2]) X hw (c_X0_stuckOf l (ad := ad) h15) rfl kM_X0_stuckOf ki_X0_stuckOf ks_X0_stuckOf km_X0_104 ⟨(Nat.le_of_ble_eq_true rfl), (Nat.le_of_ble_eq_true rfl)⟩ ⟨(Nat.le_of_ble_eq_true rfl), (Nat.le_of_ble_eq_true rfl)⟩ rfl rfl ⟨_, _, _, _, rfl, rfl, rfl, rfl⟩ rfl hl.1 rfl (Nat.le_of_ble_eq_true rfl) dX0_ringsStuck_15) hw rfl rfl (fun _ => (Nat.le_of_ble_eq_true rfl)) (fun _ => rfl) rfl rfl (fun _ H locs hw => ?_)
      obtain ⟨r18, h18, h⟩ := bnd h
      refine g_calli0 (isC := []) (gn := fun _ => [wEV g ad ev]) (g_runS (isC := []) (rest := [.int z4.1]) (As := [.int r15]) X hw (c_J6_bitCount_0f7a4 l h18) rfl kM_J6_bitCount_0f7a4 kt_J6_bitCount_0f7a4 km_X0_101 ⟨(Nat.le_of_ble_eq_true rfl), (Nat.le_of_ble_eq_true rfl)⟩ ⟨(Nat.le_of_ble_eq_true rfl), (Nat.le_of_ble_eq_true rfl)⟩ rfl rfl rfl hl.1 rfl (Nat.le_of_ble_eq_true rfl) dX0_ringsStuck_18) hw rfl rfl (fun _ => (Nat.le_of_ble_eq_true rfl)) (fun _ => rfl) rfl rfl (fun _ H locs hw => ?_)
      refine lv_iadd hx hb dX0_ringsStuck_21 ?_
      refine lv_istore_n (lv' := [(1, .int (z4.1 + r18)), (0, .ref (ad 0)), (2, .int z4.2)]) hx hb dX0_ringsStuck_22 rfl hl (by decide) rfl (fun ls hl => ?_)
      refine lv_iinc (v := (z4.2 + 1)) (lv' := [(2, .int (z4.2 + 1)), (1, .int (z4.1 + r18)), (0, .ref (ad 0))]) hx hb dX0_ringsStuck_23 hl (k := 2) rfl rfl (by decide) rfl (fun ls hl => ?_)
      refine lv_goto (tgt := 4) hx hb dX0_ringsStuck_26 (by decide) ?_
      exact ih4 _ h _ _ _ hw (lv_sub hl [2, 1, 0] rfl)
  unfold M_X0_ringsStuck at h
  refine lv_iconst (v := 0) hx hb dX0_ringsStuck_0 (by decide) ?_
  refine lv_istore_n (lv' := [(1, .int (0 : Int32)), (0, .ref (ad 0))]) hx hb dX0_ringsStuck_1 rfl hl (by decide) rfl (fun ls hl => ?_)
  refine lv_iconst (v := 0) hx hb dX0_ringsStuck_2 (by decide) ?_
  refine lv_istore_n (lv' := [(2, .int (0 : Int32)), (1, .int (0 : Int32)), (0, .ref (ad 0))]) hx hb dX0_ringsStuck_3 rfl hl (by decide) rfl (fun ls hl => ?_)
  exact L4 N _ h _ _ _ hw (lv_sub hl [2, 1, 0] rfl)
