theorem kM_X6_refuse : kM yX6_refuse cX6_refuse 2 (some FieldType.int) 1 := ⟨kc_X6_refuse, kn_RingsOffModel, by decide +kernel⟩
abbrev R_X6_refuse : Room := { frames := 0, cells := 0, slots := 0, locals := 0 }
set_option maxHeartbeats 4000000 in
set_option maxRecDepth 100000 in
theorem c_X6_refuse (l : Launch) {ad : Nat → Nat} {eK : Option Nat} {eT : Option Nat} {N : Nat} {rm : RM} {p1 : Int32} {out : Int32 × RM} (h : M_X6_refuse N rm p1 = some out) : gM l yX6_refuse cX6_refuse 2 (some FieldType.int) R_X6_refuse (fun _ => [.ref (ad 0), .int p1]) (fun g => [wRM g ad eK eT rm]) (gQi (fun (_ : Unit) => out.1) (fun g (_ : Unit) => [wRM g ad eK eT out.2])) := by
  refine gM.ofi (by decide +kernel) (fun _ => Nat.le_of_ble_eq_true rfl) (fun g p e s m args below meth c A ls Q X hret hw hl => ?_)
  have hx := X.1.1
  have hb := X.1.2.1
  have hl : lv_has ls 2 [(0, .ref (ad 0)), (1, .int p1)] := hl
  unfold M_X6_refuse at h
  refine lv_aload_n hx hb dX6_refuse_0 rfl (lv_at hl 0 rfl) ?_
  refine RM_g_refused X hw 0 rfl kf_X6_34 dX6_refuse_1 ?_
  refine lv_iload_n hx hb dX6_refuse_4 rfl (lv_at hl 1 rfl) ?_
  refine lv_ineg hx hb dX6_refuse_5 ?_
  refine lv_dup2_11 hx hb dX6_refuse_6 rfl rfl ?_
  obtain ⟨q7, h⟩ := chk h
  refine RM_l_refused X hw 0 rfl q7 dX6_refuse_7 ?_
  refine lv_iconst (v := 1) hx hb dX6_refuse_8 (by decide) ?_
  refine lv_iadd hx hb dX6_refuse_9 ?_
  obtain ⟨q10, h⟩ := chk h
  refine RM_a_refused (gs' := [wRM g ad eK eT (RM_s_refused rm (upd (RM_refused rm) (-p1).toNatClampNeg ((RM_refused rm (-p1).toNatClampNeg) + (1 : Int32))))]) X hw 0 rfl q10 dX6_refuse_10 rfl (fun H locs hw => ?_)
  refine lv_iload_n hx hb dX6_refuse_11 rfl (lv_at hl 1 rfl) ?_
  have h := Option.some.inj h
  subst h
  exact hret () dX6_refuse_12 rfl hw
theorem kM_X6_in : kM yX6_in cX6_in 6 (some FieldType.boolean) 3 := ⟨kc_X6_in, kn_RingsOffModel, by decide +kernel⟩
abbrev R_X6_in : Room := { frames := 0, cells := 0, slots := 0, locals := 0 }
set_option maxHeartbeats 4000000 in
set_option maxRecDepth 100000 in
theorem c_X6_in (l : Launch) {N : Nat} {p1 : Int64} {p2 : Int64} {p3 : Int64} {out : Int32} (h : M_X6_in N p1 p2 p3 = some out) : gM l yX6_in cX6_in 6 (some FieldType.boolean) R_X6_in (fun _ => [.long p1, .long p2, .long p3]) (fun g => []) (gQi (fun (_ : Unit) => out) (fun g (_ : Unit) => [])) := by
  refine gM.ofz (by decide +kernel) (fun _ => Nat.le_of_ble_eq_true rfl) (fun g p e s m args below meth c A ls Q X hret hw hl => ?_)
  have hx := X.1.1
  have hb := X.1.2.1
  have hl : lv_has ls 6 [(0, .long p1), (2, .long p2), (4, .long p3)] := hl
  unfold M_X6_in at h
  refine lv_lload_n hx hb dX6_in_0 rfl (lv_at hl 0 rfl) ?_
  refine lv_lload_n hx hb dX6_in_1 rfl (lv_at hl 1 rfl) ?_
  refine W.lcmp hx hb dX6_in_2 ?_
  refine lv_if_lt (tgt := 17) hx hb dX6_in_3 (by decide) (fun k3 => ?_) (fun k3 => ?_)
  · have h := itt k3 h
    refine lv_iconst (v := 0) hx hb dX6_in_17 (by decide) ?_
    have h := Option.some.inj h
    subst h
    exact hret () dX6_in_18 (by decide) rfl hw
  · have h := itf k3 h
    refine lv_lload_n hx hb dX6_in_6 rfl (lv_at hl 0 rfl) ?_
    refine lv_lload hx hb dX6_in_7 (lv_at hl 2 rfl) ?_
    refine W.lcmp hx hb dX6_in_9 ?_
    refine lv_if_gt (tgt := 17) hx hb dX6_in_10 (by decide) (fun k10 => ?_) (fun k10 => ?_)
    · have h := itt k10 h
      refine lv_iconst (v := 0) hx hb dX6_in_17 (by decide) ?_
      have h := Option.some.inj h
      subst h
      exact hret () dX6_in_18 (by decide) rfl hw
    · have h := itf k10 h
      refine lv_iconst (v := 1) hx hb dX6_in_13 (by decide) ?_
      refine lv_goto (tgt := 18) hx hb dX6_in_14 (by decide) ?_
      have h := Option.some.inj h
      subst h
      exact hret () dX6_in_18 (by decide) rfl hw
theorem kM_X6_isBar : kM yX6_isBar cX6_isBar 2 (some FieldType.boolean) 1 := ⟨kc_X6_isBar, kn_RingsOffModel, by decide +kernel⟩
abbrev R_X6_isBar : Room := { frames := 1, cells := 0, slots := 0, locals := 25 }
set_option maxHeartbeats 4000000 in
set_option maxRecDepth 100000 in
theorem c_X6_isBar (l : Launch) {ad : Nat → Nat} {eK : Option Nat} {eT : Option Nat} {N : Nat} {rm : RM} {p1 : Int32} {out : Int32} (h : M_X6_isBar N rm p1 = some out) : gM l yX6_isBar cX6_isBar 2 (some FieldType.boolean) R_X6_isBar (fun _ => [.ref (ad 0), .int p1]) (fun g => [wRM g ad eK eT rm]) (gQi (fun (_ : Unit) => out) (fun g (_ : Unit) => [wRM g ad eK eT rm])) := by
  refine gM.ofz (by decide +kernel) (fun _ => Nat.le_of_ble_eq_true rfl) (fun g p e s m args below meth c A ls Q X hret hw hl => ?_)
  have hx := X.1.1
  have hb := X.1.2.1
  have hl : lv_has ls 2 [(0, .ref (ad 0)), (1, .int p1)] := hl
  unfold M_X6_isBar at h
  refine lv_iload_n hx hb dX6_isBar_0 rfl (lv_at hl 1 rfl) ?_
  refine lv_i2l (v := p1.toInt64) hx hb dX6_isBar_1 rfl ?_
  refine lv_lconst (v := 0) hx hb dX6_isBar_2 (by decide) ?_
  refine lv_aload_n hx hb dX6_isBar_3 rfl (lv_at hl 0 rfl) ?_
  refine RM_g_bars X hw 0 rfl kf_X6_79 dX6_isBar_4 ?_
  refine lv_iconst (v := 1) hx hb dX6_isBar_7 (by decide) ?_
  refine lv_isub hx hb dX6_isBar_8 ?_
  refine lv_i2l (v := ((RM_bars rm) - (1 : Int32)).toInt64) hx hb dX6_isBar_9 rfl ?_
  obtain ⟨r10, h10, h⟩ := bnd h
  refine g_calli0 (isC := []) (gn := fun _ => [wRM g ad eK eT rm]) (g_runS (isC := []) (rest := []) (As := [.long p1.toInt64, .long (0 : Int64), .long ((RM_bars rm) - (1 : Int32)).toInt64]) X hw (c_X6_in l h10) rfl kM_X6_in kt_X6_in km_X6_82 ⟨(Nat.le_of_ble_eq_true rfl), (Nat.le_of_ble_eq_true rfl)⟩ ⟨(Nat.le_of_ble_eq_true rfl), (Nat.le_of_ble_eq_true rfl)⟩ rfl rfl rfl hl.1 rfl (Nat.le_of_ble_eq_true rfl) dX6_isBar_10) hw rfl rfl (fun _ => (Nat.le_of_ble_eq_true rfl)) (fun _ => rfl) rfl rfl (fun _ H locs hw => ?_)
  obtain ⟨q13, h⟩ := chk h
  have h := Option.some.inj h
  subst h
  exact hret () dX6_isBar_13 (Decidable.not_not.mp q13) rfl hw
theorem kM_X6_all : kM yX6_all cX6_all 2 (some FieldType.int) 1 := ⟨kc_X6_all, kn_RingsOffModel, by decide +kernel⟩
abbrev R_X6_all : Room := { frames := 0, cells := 0, slots := 0, locals := 0 }
set_option maxHeartbeats 4000000 in
set_option maxRecDepth 100000 in
theorem c_X6_all (l : Launch) {ad : Nat → Nat} {eK : Option Nat} {eT : Option Nat} {N : Nat} {rm : RM} {p1 : Int32} {out : Int32} (h : M_X6_all N rm p1 = some out) : gM l yX6_all cX6_all 2 (some FieldType.int) R_X6_all (fun _ => [.ref (ad 0), .int p1]) (fun g => [wRM g ad eK eT rm]) (gQi (fun (_ : Unit) => out) (fun g (_ : Unit) => [wRM g ad eK eT rm])) := by
  refine gM.ofi (by decide +kernel) (fun _ => Nat.le_of_ble_eq_true rfl) (fun g p e s m args below meth c A ls Q X hret hw hl => ?_)
  have hx := X.1.1
  have hb := X.1.2.1
  have hl : lv_has ls 2 [(0, .ref (ad 0)), (1, .int p1)] := hl
  unfold M_X6_all at h
  refine lv_iconst (v := 1) hx hb dX6_all_0 (by decide) ?_
  refine lv_aload_n hx hb dX6_all_1 rfl (lv_at hl 0 rfl) ?_
  refine RM_g_size X hw 0 rfl kf_X6_40 dX6_all_2 ?_
  refine lv_iload_n hx hb dX6_all_5 rfl (lv_at hl 1 rfl) ?_
  obtain ⟨q6, h⟩ := chk h
  refine RM_l_size X hw 0 rfl q6 dX6_all_6 ?_
  refine lv_ishl hx hb dX6_all_7 ?_
  refine lv_iconst (v := 1) hx hb dX6_all_8 (by decide) ?_
  refine lv_isub hx hb dX6_all_9 ?_
  have h := Option.some.inj h
  subst h
  exact hret () dX6_all_10 rfl hw
theorem kM_X6_isSet : kM yX6_isSet cX6_isSet 4 (some FieldType.boolean) 2 := ⟨kc_X6_isSet, kn_RingsOffModel, by decide +kernel⟩
abbrev R_X6_isSet : Room := { frames := 1, cells := 0, slots := 0, locals := 25 }
set_option maxHeartbeats 4000000 in
set_option maxRecDepth 100000 in
theorem c_X6_isSet (l : Launch) {ad : Nat → Nat} {eK : Option Nat} {eT : Option Nat} {N : Nat} {rm : RM} {p1 : Int32} {p2 : Int64} {out : Int32} (h : M_X6_isSet N rm p1 p2 = some out) : gM l yX6_isSet cX6_isSet 4 (some FieldType.boolean) R_X6_isSet (fun _ => [.ref (ad 0), .int p1, .long p2]) (fun g => [wRM g ad eK eT rm]) (gQi (fun (_ : Unit) => out) (fun g (_ : Unit) => [wRM g ad eK eT rm])) := by
  refine gM.ofz (by decide +kernel) (fun _ => Nat.le_of_ble_eq_true rfl) (fun g p e s m args below meth c A ls Q X hret hw hl => ?_)
  have hx := X.1.1
  have hb := X.1.2.1
  have hl : lv_has ls 4 [(0, .ref (ad 0)), (1, .int p1), (2, .long p2)] := hl
  unfold M_X6_isSet at h
  refine lv_lload_n hx hb dX6_isSet_0 rfl (lv_at hl 2 rfl) ?_
  refine lv_lconst (v := 0) hx hb dX6_isSet_1 (by decide) ?_
  refine lv_aload_n hx hb dX6_isSet_2 rfl (lv_at hl 0 rfl) ?_
  refine lv_iload_n hx hb dX6_isSet_3 rfl (lv_at hl 1 rfl) ?_
  obtain ⟨r4, h4, h⟩ := bnd h
  refine g_calli0 (isC := [0]) (gn := fun _ => [wRM g ad eK eT rm]) (g_runV (isC := [0]) (rest := [.long (0 : Int64), .long p2]) (As := [.int p1]) X hw (c_X6_all l (ad := ad) (eK := eK) (eT := eT) h4) rfl kM_X6_all ki_X6_all ks_X6_all km_X6_86 ⟨(Nat.le_of_ble_eq_true rfl), (Nat.le_of_ble_eq_true rfl)⟩ ⟨(Nat.le_of_ble_eq_true rfl), (Nat.le_of_ble_eq_true rfl)⟩ rfl rfl ⟨_, _, _, _, rfl, rfl, rfl, rfl⟩ rfl hl.1 rfl (Nat.le_of_ble_eq_true rfl) dX6_isSet_4) hw rfl rfl (fun _ => (Nat.le_of_ble_eq_true rfl)) (fun _ => rfl) rfl rfl (fun _ H locs hw => ?_)
  refine lv_i2l (v := r4.toInt64) hx hb dX6_isSet_7 rfl ?_
  obtain ⟨r8, h8, h⟩ := bnd h
  refine g_calli0 (isC := []) (gn := fun _ => [wRM g ad eK eT rm]) (g_runS (isC := []) (rest := []) (As := [.long p2, .long (0 : Int64), .long r4.toInt64]) X hw (c_X6_in l h8) rfl kM_X6_in kt_X6_in km_X6_82 ⟨(Nat.le_of_ble_eq_true rfl), (Nat.le_of_ble_eq_true rfl)⟩ ⟨(Nat.le_of_ble_eq_true rfl), (Nat.le_of_ble_eq_true rfl)⟩ rfl rfl rfl hl.1 rfl (Nat.le_of_ble_eq_true rfl) dX6_isSet_8) hw rfl rfl (fun _ => (Nat.le_of_ble_eq_true rfl)) (fun _ => rfl) rfl rfl (fun _ H locs hw => ?_)
  obtain ⟨q11, h⟩ := chk h
  have h := Option.some.inj h
  subst h
  exact hret () dX6_isSet_11 (Decidable.not_not.mp q11) rfl hw
theorem kM_X6_isRing : kM yX6_isRing cX6_isRing 3 (some FieldType.boolean) 2 := ⟨kc_X6_isRing, kn_RingsOffModel, by decide +kernel⟩
abbrev R_X6_isRing : Room := { frames := 1, cells := 0, slots := 0, locals := 25 }
set_option maxHeartbeats 4000000 in
set_option maxRecDepth 100000 in
theorem c_X6_isRing (l : Launch) {ad : Nat → Nat} {eK : Option Nat} {eT : Option Nat} {N : Nat} {rm : RM} {p1 : Int32} {p2 : Int32} {out : Int32} (h : M_X6_isRing N rm p1 p2 = some out) : gM l yX6_isRing cX6_isRing 3 (some FieldType.boolean) R_X6_isRing (fun _ => [.ref (ad 0), .int p1, .int p2]) (fun g => [wRM g ad eK eT rm]) (gQi (fun (_ : Unit) => out) (fun g (_ : Unit) => [wRM g ad eK eT rm])) := by
  refine gM.ofz (by decide +kernel) (fun _ => Nat.le_of_ble_eq_true rfl) (fun g p e s m args below meth c A ls Q X hret hw hl => ?_)
  have hx := X.1.1
  have hb := X.1.2.1
  have hl : lv_has ls 3 [(0, .ref (ad 0)), (1, .int p1), (2, .int p2)] := hl
  unfold M_X6_isRing at h
  refine lv_iload_n hx hb dX6_isRing_0 rfl (lv_at hl 2 rfl) ?_
  refine lv_i2l (v := p2.toInt64) hx hb dX6_isRing_1 rfl ?_
  refine lv_lconst (v := 0) hx hb dX6_isRing_2 (by decide) ?_
  refine lv_aload_n hx hb dX6_isRing_3 rfl (lv_at hl 0 rfl) ?_
  refine RM_g_size X hw 0 rfl kf_X6_40 dX6_isRing_4 ?_
  refine lv_iload_n hx hb dX6_isRing_7 rfl (lv_at hl 1 rfl) ?_
  obtain ⟨q8, h⟩ := chk h
  refine RM_l_size X hw 0 rfl q8 dX6_isRing_8 ?_
  refine lv_iconst (v := 1) hx hb dX6_isRing_9 (by decide) ?_
  refine lv_isub hx hb dX6_isRing_10 ?_
  refine lv_i2l (v := ((RM_size rm p1.toNatClampNeg) - (1 : Int32)).toInt64) hx hb dX6_isRing_11 rfl ?_
  obtain ⟨r12, h12, h⟩ := bnd h
  refine g_calli0 (isC := []) (gn := fun _ => [wRM g ad eK eT rm]) (g_runS (isC := []) (rest := []) (As := [.long p2.toInt64, .long (0 : Int64), .long ((RM_size rm p1.toNatClampNeg) - (1 : Int32)).toInt64]) X hw (c_X6_in l h12) rfl kM_X6_in kt_X6_in km_X6_82 ⟨(Nat.le_of_ble_eq_true rfl), (Nat.le_of_ble_eq_true rfl)⟩ ⟨(Nat.le_of_ble_eq_true rfl), (Nat.le_of_ble_eq_true rfl)⟩ rfl rfl rfl hl.1 rfl (Nat.le_of_ble_eq_true rfl) dX6_isRing_12) hw rfl rfl (fun _ => (Nat.le_of_ble_eq_true rfl)) (fun _ => rfl) rfl rfl (fun _ H locs hw => ?_)
  obtain ⟨q15, h⟩ := chk h
  have h := Option.some.inj h
  subst h
  exact hret () dX6_isRing_15 (Decidable.not_not.mp q15) rfl hw
theorem kM_X6_has : kM yX6_has cX6_has 2 (some FieldType.boolean) 2 := ⟨kc_X6_has, kn_RingsOffModel, by decide +kernel⟩
abbrev R_X6_has : Room := { frames := 0, cells := 0, slots := 0, locals := 0 }
set_option maxHeartbeats 4000000 in
set_option maxRecDepth 100000 in
theorem c_X6_has (l : Launch) {N : Nat} {p1 : Int32} {p2 : Int32} {out : Int32} (h : M_X6_has N p1 p2 = some out) : gM l yX6_has cX6_has 2 (some FieldType.boolean) R_X6_has (fun _ => [.int p1, .int p2]) (fun g => []) (gQi (fun (_ : Unit) => out) (fun g (_ : Unit) => [])) := by
  refine gM.ofz (by decide +kernel) (fun _ => Nat.le_of_ble_eq_true rfl) (fun g p e s m args below meth c A ls Q X hret hw hl => ?_)
  have hx := X.1.1
  have hb := X.1.2.1
  have hl : lv_has ls 2 [(0, .int p1), (1, .int p2)] := hl
  unfold M_X6_has at h
  refine lv_iload_n hx hb dX6_has_0 rfl (lv_at hl 0 rfl) ?_
  refine lv_iload_n hx hb dX6_has_1 rfl (lv_at hl 1 rfl) ?_
  refine lv_ishr hx hb dX6_has_2 ?_
  refine lv_iconst (v := 1) hx hb dX6_has_3 (by decide) ?_
  refine lv_iand hx hb dX6_has_4 ?_
  refine lv_if_eq (tgt := 12) hx hb dX6_has_5 (by decide) (fun k5 => ?_) (fun k5 => ?_)
  · have h := itt k5 h
    refine lv_iconst (v := 0) hx hb dX6_has_12 (by decide) ?_
    have h := Option.some.inj h
    subst h
    exact hret () dX6_has_13 (by decide) rfl hw
  · have h := itf k5 h
    refine lv_iconst (v := 1) hx hb dX6_has_8 (by decide) ?_
    refine lv_goto (tgt := 13) hx hb dX6_has_9 (by decide) ?_
    have h := Option.some.inj h
    subst h
    exact hret () dX6_has_13 (by decide) rfl hw
theorem kM_X6_bits : kM yX6_bits cX6_bits 3 (some FieldType.int) 1 := ⟨kc_X6_bits, kn_RingsOffModel, by decide +kernel⟩
abbrev R_X6_bits : Room := { frames := 0, cells := 0, slots := 0, locals := 0 }
set_option maxHeartbeats 4000000 in
set_option maxRecDepth 100000 in
theorem c_X6_bits (l : Launch) {N : Nat} {p1 : Int32} {out : Int32} (h : M_X6_bits N p1 = some out) : gM l yX6_bits cX6_bits 3 (some FieldType.int) R_X6_bits (fun _ => [.int p1]) (fun g => []) (gQi (fun (_ : Unit) => out) (fun g (_ : Unit) => [])) := by
  refine gM.ofi (by decide +kernel) (fun _ => Nat.le_of_ble_eq_true rfl) (fun g p e s m args below meth c A ls Q X hret hw hl => ?_)
  have hx := X.1.1
  have hb := X.1.2.1
  have hl : lv_has ls 3 [(0, .int p1)] := hl
  have L4 : ∀ (n : Nat) (z4 : Int32 × Int32), lp (M_X6_bits_l4 N p1) n z4 = some out → ∀ (H : Heap) (locs : List Loc) (ls : Array Slot), gW g A s.heap [] H locs → lv_has ls 3 [(0, .int p1), (1, .int z4.1), (2, .int z4.2)] → W p l e R_X6_bits s m args below meth c H locs 0 0 Q (F0 m 4 ls []) := by
    refine lp_ind ?_
    intro rec4 ih4
    intro z4 h H locs ls hw hl
    unfold M_X6_bits_l4 at h
    refine lv_iload_n hx hb dX6_bits_4 rfl (lv_at hl 2 rfl) ?_
    refine lv_bipush (v := 10) hx hb dX6_bits_5 (by decide) ?_
    refine lv_icmp_ge (tgt := 24) hx hb dX6_bits_7 (by decide) (fun k7 => ?_) (fun k7 => ?_)
    · have h := itt k7 h
      refine lv_iload_n hx hb dX6_bits_24 rfl (lv_at hl 1 rfl) ?_
      have h := Option.some.inj h
      subst h
      exact hret () dX6_bits_25 rfl hw
    · have h := itf k7 h
      refine lv_iload_n hx hb dX6_bits_10 rfl (lv_at hl 1 rfl) ?_
      refine lv_iload_n hx hb dX6_bits_11 rfl (lv_at hl 0 rfl) ?_
      refine lv_iload_n hx hb dX6_bits_12 rfl (lv_at hl 2 rfl) ?_
      refine lv_ishr hx hb dX6_bits_13 ?_
      refine lv_iconst (v := 1) hx hb dX6_bits_14 (by decide) ?_
      refine lv_iand hx hb dX6_bits_15 ?_
      refine lv_iadd hx hb dX6_bits_16 ?_
      refine lv_istore_n (lv' := [(1, .int (z4.1 + ((p1 >>> (z4.2 &&& 31)) &&& (1 : Int32)))), (0, .int p1), (2, .int z4.2)]) hx hb dX6_bits_17 rfl hl (by decide) rfl (fun ls hl => ?_)
      refine lv_iinc (v := (z4.2 + 1)) (lv' := [(2, .int (z4.2 + 1)), (1, .int (z4.1 + ((p1 >>> (z4.2 &&& 31)) &&& (1 : Int32)))), (0, .int p1)]) hx hb dX6_bits_18 hl (k := 2) rfl rfl (by decide) rfl (fun ls hl => ?_)
      refine lv_goto (tgt := 4) hx hb dX6_bits_21 (by decide) ?_
      exact ih4 _ h _ _ _ hw (lv_sub hl [2, 1, 0] rfl)
  unfold M_X6_bits at h
  refine lv_iconst (v := 0) hx hb dX6_bits_0 (by decide) ?_
  refine lv_istore_n (lv' := [(1, .int (0 : Int32)), (0, .int p1)]) hx hb dX6_bits_1 rfl hl (by decide) rfl (fun ls hl => ?_)
  refine lv_iconst (v := 0) hx hb dX6_bits_2 (by decide) ?_
  refine lv_istore_n (lv' := [(2, .int (0 : Int32)), (1, .int (0 : Int32)), (0, .int p1)]) hx hb dX6_bits_3 rfl hl (by decide) rfl (fun ls hl => ?_)
  exact L4 N _ h _ _ _ hw (lv_sub hl [2, 1, 0] rfl)
theorem kM_X6_row : kM yX6_row cX6_row 5 (some FieldType.int) 3 := ⟨kc_X6_row, kn_RingsOffModel, by decide +kernel⟩
abbrev R_X6_row : Room := { frames := 1, cells := 0, slots := 0, locals := 25 }
set_option maxHeartbeats 4000000 in
set_option maxRecDepth 100000 in
theorem c_X6_row (l : Launch) {ad : Nat → Nat} {eK : Option Nat} {eT : Option Nat} {N : Nat} {rm : RM} {p1 : Int32} {p2 : Int32} {p3 : Int32} {out : Int32 × RM} (h : M_X6_row N rm p1 p2 p3 = some out) : gM l yX6_row cX6_row 5 (some FieldType.int) R_X6_row (fun _ => [.ref (ad 0), .int p1, .int p2, .int p3]) (fun g => [wRM g ad eK eT rm]) (gQi (fun (_ : Unit) => out.1) (fun g (_ : Unit) => [wRM g ad eK eT out.2])) := by
  refine gM.ofi (by decide +kernel) (fun _ => Nat.le_of_ble_eq_true rfl) (fun g p e s m args below meth c A ls Q X hret hw hl => ?_)
  have hx := X.1.1
  have hb := X.1.2.1
  have hl : lv_has ls 5 [(0, .ref (ad 0)), (1, .int p1), (2, .int p2), (3, .int p3)] := hl
  have L67 : ∀ (n : Nat) (z67 : RM × Int32), lp (M_X6_row_l67 N p1 p2 p3) n z67 = some out → ∀ (H : Heap) (locs : List Loc) (ls : Array Slot), gW g A s.heap [wRM g ad eK eT z67.1] H locs → lv_has ls 5 [(0, .ref (ad 0)), (1, .int p1), (4, .int z67.2)] → W p l e R_X6_row s m args below meth c H locs 0 0 Q (F0 m 67 ls []) := by
    refine lp_ind ?_
    intro rec67 ih67
    intro z67 h H locs ls hw hl
    unfold M_X6_row_l67 at h
    refine lv_iload hx hb dX6_row_67 (lv_at hl 2 rfl) ?_
    refine lv_bipush (v := 40) hx hb dX6_row_69 (by decide) ?_
    refine lv_icmp_ge (tgt := 90) hx hb dX6_row_71 (by decide) (fun k71 => ?_) (fun k71 => ?_)
    · have h := itt k71 h
      refine lv_iconst (v := 1) hx hb dX6_row_90 (by decide) ?_
      have h := Option.some.inj h
      subst h
      exact hret () dX6_row_91 rfl hw
    · have h := itf k71 h
      refine lv_aload_n hx hb dX6_row_74 rfl (lv_at hl 0 rfl) ?_
      refine RM_g_rows X hw 0 rfl kf_X6_21 dX6_row_75 ?_
      refine lv_iload_n hx hb dX6_row_78 rfl (lv_at hl 1 rfl) ?_
      obtain ⟨q79, h⟩ := chk h
      have o79 := Nat.not_le.mp (fun z => q79 (Or.inr z))
      refine RM_q_rows X hw 0 rfl q79 dX6_row_79 ?_
      refine lv_iload hx hb dX6_row_80 (lv_at hl 2 rfl) ?_
      refine lv_lconst (v := 0) hx hb dX6_row_82 (by decide) ?_
      obtain ⟨q83, h⟩ := chk h
      refine RM_a_rows (gs' := [wRM g ad eK eT (RM_s_rows z67.1 (va_up (RM_rows z67.1) p1.toNatClampNeg (vp_updL (RM_rows z67.1 p1.toNatClampNeg) z67.2.toNatClampNeg (0 : Int64))))]) X hw 0 rfl o79 q83 dX6_row_83 rfl (fun H locs hw => ?_)
      refine lv_iinc (v := (z67.2 + 1)) (lv' := [(4, .int (z67.2 + 1)), (0, .ref (ad 0)), (1, .int p1)]) hx hb dX6_row_84 hl (k := 2) rfl rfl (by decide) rfl (fun ls hl => ?_)
      refine lv_goto (tgt := 67) hx hb dX6_row_87 (by decide) ?_
      exact ih67 _ h _ _ _ hw (lv_sub hl [1, 2, 0] rfl)
  have J36 : ∀ (z36 : RM), M_X6_row_j36 N p1 p2 p3 z36 = some out → ∀ (H : Heap) (locs : List Loc) (ls : Array Slot), gW g A s.heap [wRM g ad eK eT z36] H locs → lv_has ls 5 [(0, .ref (ad 0))] → W p l e R_X6_row s m args below meth c H locs 0 0 Q (F0 m 36 ls []) := by
    intro z36 h H locs ls hw hl
    unfold M_X6_row_j36 at h
    refine lv_aload_n hx hb dX6_row_36 rfl (lv_at hl 0 rfl) ?_
    refine lv_bipush (v := -2) hx hb dX6_row_37 (by decide) ?_
    obtain ⟨r39, h39, h⟩ := bnd h
    refine g_calli0 (isC := [0]) (gn := fun _ => [wRM g ad eK eT r39.2]) (g_runV (isC := [0]) (rest := []) (As := [.int (-2 : Int32)]) X hw (c_X6_refuse l (ad := ad) (eK := eK) (eT := eT) h39) rfl kM_X6_refuse ki_X6_refuse ks_X6_refuse km_X6_96 ⟨(Nat.le_of_ble_eq_true rfl), (Nat.le_of_ble_eq_true rfl)⟩ ⟨(Nat.le_of_ble_eq_true rfl), (Nat.le_of_ble_eq_true rfl)⟩ rfl rfl ⟨_, _, _, _, rfl, rfl, rfl, rfl⟩ rfl hl.1 rfl (Nat.le_of_ble_eq_true rfl) dX6_row_39) hw rfl rfl (fun _ => (Nat.le_of_ble_eq_true rfl)) (fun _ => rfl) rfl rfl (fun _ H locs hw => ?_)
    have h := Option.some.inj h
    subst h
    exact hret () dX6_row_42 rfl hw
  unfold M_X6_row at h
  refine lv_iload_n hx hb dX6_row_0 rfl (lv_at hl 1 rfl) ?_
  refine lv_i2l (v := p1.toInt64) hx hb dX6_row_1 rfl ?_
  refine lv_lconst (v := 0) hx hb dX6_row_2 (by decide) ?_
  refine lv_ldc2 hx hb X.1.2.2.2.1 (gK1 X _ kq_X6_90) dX6_row_3 ?_
  obtain ⟨r6, h6, h⟩ := bnd h
  refine g_calli0 (isC := []) (gn := fun _ => [wRM g ad eK eT rm]) (g_runS (isC := []) (rest := []) (As := [.long p1.toInt64, .long (0 : Int64), .long (7 : Int64)]) X hw (c_X6_in l h6) rfl kM_X6_in kt_X6_in km_X6_82 ⟨(Nat.le_of_ble_eq_true rfl), (Nat.le_of_ble_eq_true rfl)⟩ ⟨(Nat.le_of_ble_eq_true rfl), (Nat.le_of_ble_eq_true rfl)⟩ rfl rfl rfl hl.1 rfl (Nat.le_of_ble_eq_true rfl) dX6_row_6) hw rfl rfl (fun _ => (Nat.le_of_ble_eq_true rfl)) (fun _ => rfl) rfl rfl (fun _ H locs hw => ?_)
  refine lv_if_eq (tgt := 36) hx hb dX6_row_9 (by decide) (fun k9 => ?_) (fun k9 => ?_)
  · have h := itt k9 h
    exact J36 _ h _ _ _ hw (lv_sub hl [0] rfl)
  · have h := itf k9 h
    refine lv_iload_n hx hb dX6_row_12 rfl (lv_at hl 2 rfl) ?_
    refine lv_i2l (v := p2.toInt64) hx hb dX6_row_13 rfl ?_
    refine lv_lconst (v := 0) hx hb dX6_row_14 (by decide) ?_
    refine lv_ldc2 hx hb X.1.2.2.2.1 (gK1 X _ kq_X6_92) dX6_row_15 ?_
    obtain ⟨r18, h18, h⟩ := bnd h
    refine g_calli0 (isC := []) (gn := fun _ => [wRM g ad eK eT rm]) (g_runS (isC := []) (rest := []) (As := [.long p2.toInt64, .long (0 : Int64), .long (4 : Int64)]) X hw (c_X6_in l h18) rfl kM_X6_in kt_X6_in km_X6_82 ⟨(Nat.le_of_ble_eq_true rfl), (Nat.le_of_ble_eq_true rfl)⟩ ⟨(Nat.le_of_ble_eq_true rfl), (Nat.le_of_ble_eq_true rfl)⟩ rfl rfl rfl hl.1 rfl (Nat.le_of_ble_eq_true rfl) dX6_row_18) hw rfl rfl (fun _ => (Nat.le_of_ble_eq_true rfl)) (fun _ => rfl) rfl rfl (fun _ H locs hw => ?_)
    refine lv_if_eq (tgt := 36) hx hb dX6_row_21 (by decide) (fun k21 => ?_) (fun k21 => ?_)
    · have h := itt k21 h
      exact J36 _ h _ _ _ hw (lv_sub hl [0] rfl)
    · have h := itf k21 h
      refine lv_iload_n hx hb dX6_row_24 rfl (lv_at hl 3 rfl) ?_
      refine lv_i2l (v := p3.toInt64) hx hb dX6_row_25 rfl ?_
      refine lv_lconst (v := 0) hx hb dX6_row_26 (by decide) ?_
      refine lv_ldc2 hx hb X.1.2.2.2.1 (gK1 X _ kq_X6_94) dX6_row_27 ?_
      obtain ⟨r30, h30, h⟩ := bnd h
      refine g_calli0 (isC := []) (gn := fun _ => [wRM g ad eK eT rm]) (g_runS (isC := []) (rest := []) (As := [.long p3.toInt64, .long (0 : Int64), .long (40 : Int64)]) X hw (c_X6_in l h30) rfl kM_X6_in kt_X6_in km_X6_82 ⟨(Nat.le_of_ble_eq_true rfl), (Nat.le_of_ble_eq_true rfl)⟩ ⟨(Nat.le_of_ble_eq_true rfl), (Nat.le_of_ble_eq_true rfl)⟩ rfl rfl rfl hl.1 rfl (Nat.le_of_ble_eq_true rfl) dX6_row_30) hw rfl rfl (fun _ => (Nat.le_of_ble_eq_true rfl)) (fun _ => rfl) rfl rfl (fun _ H locs hw => ?_)
      refine lv_if_ne (tgt := 43) hx hb dX6_row_33 (by decide) (fun k33 => ?_) (fun k33 => ?_)
      · have h := itt k33 h
        refine lv_aload_n hx hb dX6_row_43 rfl (lv_at hl 0 rfl) ?_
        refine RM_g_shelf X hw 0 rfl kf_X6_7 dX6_row_44 ?_
        refine lv_iload_n hx hb dX6_row_47 rfl (lv_at hl 1 rfl) ?_
        refine lv_iconst (v := 1) hx hb dX6_row_48 (by decide) ?_
        obtain ⟨q49, h⟩ := chk h
        refine RM_a_shelf (gs' := [wRM g ad eK eT (RM_s_shelf rm (upd (RM_shelf rm) p1.toNatClampNeg (1 : Int32)))]) X hw 0 rfl q49 dX6_row_49 rfl (fun H locs hw => ?_)
        refine lv_aload_n hx hb dX6_row_50 rfl (lv_at hl 0 rfl) ?_
        refine RM_g_rowSort X hw 0 rfl kf_X6_13 dX6_row_51 ?_
        refine lv_iload_n hx hb dX6_row_54 rfl (lv_at hl 1 rfl) ?_
        refine lv_iload_n hx hb dX6_row_55 rfl (lv_at hl 2 rfl) ?_
        obtain ⟨q56, h⟩ := chk h
        refine RM_a_rowSort (gs' := [wRM g ad eK eT (RM_s_rowSort (RM_s_shelf rm (upd (RM_shelf rm) p1.toNatClampNeg (1 : Int32))) (upd (RM_rowSort (RM_s_shelf rm (upd (RM_shelf rm) p1.toNatClampNeg (1 : Int32)))) p1.toNatClampNeg p2))]) X hw 0 rfl q56 dX6_row_56 rfl (fun H locs hw => ?_)
        refine lv_aload_n hx hb dX6_row_57 rfl (lv_at hl 0 rfl) ?_
        refine RM_g_rowSize X hw 0 rfl kf_X6_16 dX6_row_58 ?_
        refine lv_iload_n hx hb dX6_row_61 rfl (lv_at hl 1 rfl) ?_
        refine lv_iload_n hx hb dX6_row_62 rfl (lv_at hl 3 rfl) ?_
        obtain ⟨q63, h⟩ := chk h
        refine RM_a_rowSize (gs' := [wRM g ad eK eT (RM_s_rowSize (RM_s_rowSort (RM_s_shelf rm (upd (RM_shelf rm) p1.toNatClampNeg (1 : Int32))) (upd (RM_rowSort (RM_s_shelf rm (upd (RM_shelf rm) p1.toNatClampNeg (1 : Int32)))) p1.toNatClampNeg p2)) (upd (RM_rowSize (RM_s_rowSort (RM_s_shelf rm (upd (RM_shelf rm) p1.toNatClampNeg (1 : Int32))) (upd (RM_rowSort (RM_s_shelf rm (upd (RM_shelf rm) p1.toNatClampNeg (1 : Int32)))) p1.toNatClampNeg p2))) p1.toNatClampNeg p3))]) X hw 0 rfl q63 dX6_row_63 rfl (fun H locs hw => ?_)
        refine lv_iconst (v := 0) hx hb dX6_row_64 (by decide) ?_
        refine lv_istore (lv' := [(4, .int (0 : Int32)), (0, .ref (ad 0)), (1, .int p1), (2, .int p2), (3, .int p3)]) hx hb dX6_row_65 hl (by decide) rfl (fun ls hl => ?_)
        exact L67 N _ h _ _ _ hw (lv_sub hl [1, 2, 0] rfl)
      · have h := itf (fun z => z k33) h
        exact J36 _ h _ _ _ hw (lv_sub hl [0] rfl)
theorem kM_X6_fit : kM yX6_fit cX6_fit 3 (some FieldType.long) 2 := ⟨kc_X6_fit, kn_RingsOffModel, by decide +kernel⟩
abbrev R_X6_fit : Room := { frames := 0, cells := 0, slots := 0, locals := 0 }
set_option maxHeartbeats 4000000 in
set_option maxRecDepth 100000 in
theorem c_X6_fit (l : Launch) {N : Nat} {p1 : Int32} {p2 : Int64} {out : Int64} (h : M_X6_fit N p1 p2 = some out) : gM l yX6_fit cX6_fit 3 (some FieldType.long) R_X6_fit (fun _ => [.int p1, .long p2]) (fun g => []) (gQl (fun (_ : Unit) => out) (fun g (_ : Unit) => [])) := by
  refine gM.ofl (by decide +kernel) (fun _ => Nat.le_of_ble_eq_true rfl) (fun g p e s m args below meth c A ls Q X hret hw hl => ?_)
  have hx := X.1.1
  have hb := X.1.2.1
  have hl : lv_has ls 3 [(0, .int p1), (1, .long p2)] := hl
  unfold M_X6_fit at h
  refine lv_iload_n hx hb dX6_fit_0 rfl (lv_at hl 0 rfl) ?_
  by_cases k1_0 : p1 = 0
  · have h := itt k1_0 h
    refine lv_tableIn (off := 31) (tgt := 32) hx hb dX6_fit_1 (by rw [k1_0]; decide) (by rw [k1_0]; decide) (by rw [k1_0]; rfl) (by decide) ?_
    refine lv_lload_n hx hb dX6_fit_32 rfl (lv_at hl 1 rfl) ?_
    refine lv_l2i (v := p2.toInt32) hx hb dX6_fit_33 rfl ?_
    refine lv_i2b (v := p2.toInt32.toInt8.toInt32) hx hb dX6_fit_34 rfl ?_
    refine lv_i2l (v := p2.toInt32.toInt8.toInt32.toInt64) hx hb dX6_fit_35 rfl ?_
    have h := Option.some.inj h
    subst h
    exact hret () dX6_fit_36 rfl hw
  have h := itf k1_0 h
  by_cases k1_1 : p1 = 1
  · have h := itt k1_1 h
    refine lv_tableIn (off := 36) (tgt := 37) hx hb dX6_fit_1 (by rw [k1_1]; decide) (by rw [k1_1]; decide) (by rw [k1_1]; rfl) (by decide) ?_
    refine lv_lload_n hx hb dX6_fit_37 rfl (lv_at hl 1 rfl) ?_
    refine lv_l2i (v := p2.toInt32) hx hb dX6_fit_38 rfl ?_
    refine lv_i2s (v := p2.toInt32.toInt16.toInt32) hx hb dX6_fit_39 rfl ?_
    refine lv_i2l (v := p2.toInt32.toInt16.toInt32.toInt64) hx hb dX6_fit_40 rfl ?_
    have h := Option.some.inj h
    subst h
    exact hret () dX6_fit_41 rfl hw
  have h := itf k1_1 h
  by_cases k1_2 : p1 = 2
  · have h := itt k1_2 h
    refine lv_tableIn (off := 41) (tgt := 42) hx hb dX6_fit_1 (by rw [k1_2]; decide) (by rw [k1_2]; decide) (by rw [k1_2]; rfl) (by decide) ?_
    refine lv_lload_n hx hb dX6_fit_42 rfl (lv_at hl 1 rfl) ?_
    refine lv_l2i (v := p2.toInt32) hx hb dX6_fit_43 rfl ?_
    refine lv_i2l (v := p2.toInt32.toInt64) hx hb dX6_fit_44 rfl ?_
    have h := Option.some.inj h
    subst h
    exact hret () dX6_fit_45 rfl hw
  have h := itf k1_2 h
  by_cases k1_3 : p1 = 3
  · have h := itt k1_3 h
    refine lv_tableIn (off := 45) (tgt := 46) hx hb dX6_fit_1 (by rw [k1_3]; decide) (by rw [k1_3]; decide) (by rw [k1_3]; rfl) (by decide) ?_
    refine lv_lload_n hx hb dX6_fit_46 rfl (lv_at hl 1 rfl) ?_
    have h := Option.some.inj h
    subst h
    exact hret () dX6_fit_47 rfl hw
  have h := itf k1_3 h
  refine lv_tableOut (tgt := 48) hx hb dX6_fit_1 (g_out (lo := 0) (hi := 3) p1 (fun q h1 h2 => ?_)) (by decide) ?_
  · rcases (show q = 0 ∨ q = 1 ∨ q = 2 ∨ q = 3 by omega) with rfl | rfl | rfl | rfl    
    · exact fun e => k1_0 (Int32.toInt_inj.mp (e.trans rfl))
    · exact fun e => k1_1 (Int32.toInt_inj.mp (e.trans rfl))
    · exact fun e => k1_2 (Int32.toInt_inj.mp (e.trans rfl))
    · exact fun e => k1_3 (Int32.toInt_inj.mp (e.trans rfl))
  refine lv_lload_n hx hb dX6_fit_48 rfl (lv_at hl 1 rfl) ?_
  refine lv_lconst (v := 0) hx hb dX6_fit_49 (by decide) ?_
  refine W.lcmp hx hb dX6_fit_50 ?_
  refine lv_if_eq (tgt := 58) hx hb dX6_fit_51 (by decide) (fun k51 => ?_) (fun k51 => ?_)
  · have h := itt k51 h
    refine lv_lconst (v := 0) hx hb dX6_fit_58 (by decide) ?_
    have h := Option.some.inj h
    subst h
    exact hret () dX6_fit_59 rfl hw
  · have h := itf k51 h
    refine lv_lconst (v := 1) hx hb dX6_fit_54 (by decide) ?_
    refine lv_goto (tgt := 59) hx hb dX6_fit_55 (by decide) ?_
    have h := Option.some.inj h
    subst h
    exact hret () dX6_fit_59 rfl hw
theorem kM_X6_noRow : kM yX6_noRow cX6_noRow 2 (some FieldType.int) 1 := ⟨kc_X6_noRow, kn_RingsOffModel, by decide +kernel⟩
abbrev R_X6_noRow : Room := { frames := 1, cells := 0, slots := 0, locals := 25 }
set_option maxHeartbeats 4000000 in
set_option maxRecDepth 100000 in
theorem c_X6_noRow (l : Launch) {ad : Nat → Nat} {eK : Option Nat} {eT : Option Nat} {N : Nat} {rm : RM} {p1 : Int32} {out : Int32 × RM} (h : M_X6_noRow N rm p1 = some out) : gM l yX6_noRow cX6_noRow 2 (some FieldType.int) R_X6_noRow (fun _ => [.ref (ad 0), .int p1]) (fun g => [wRM g ad eK eT rm]) (gQi (fun (_ : Unit) => out.1) (fun g (_ : Unit) => [wRM g ad eK eT out.2])) := by
  refine gM.ofi (by decide +kernel) (fun _ => Nat.le_of_ble_eq_true rfl) (fun g p e s m args below meth c A ls Q X hret hw hl => ?_)
  have hx := X.1.1
  have hb := X.1.2.1
  have hl : lv_has ls 2 [(0, .ref (ad 0)), (1, .int p1)] := hl
  unfold M_X6_noRow at h
  refine lv_iload_n hx hb dX6_noRow_0 rfl (lv_at hl 1 rfl) ?_
  refine lv_i2l (v := p1.toInt64) hx hb dX6_noRow_1 rfl ?_
  refine lv_lconst (v := 0) hx hb dX6_noRow_2 (by decide) ?_
  refine lv_ldc2 hx hb X.1.2.2.2.1 (gK1 X _ kq_X6_90) dX6_noRow_3 ?_
  obtain ⟨r6, h6, h⟩ := bnd h
  refine g_calli0 (isC := []) (gn := fun _ => [wRM g ad eK eT rm]) (g_runS (isC := []) (rest := []) (As := [.long p1.toInt64, .long (0 : Int64), .long (7 : Int64)]) X hw (c_X6_in l h6) rfl kM_X6_in kt_X6_in km_X6_82 ⟨(Nat.le_of_ble_eq_true rfl), (Nat.le_of_ble_eq_true rfl)⟩ ⟨(Nat.le_of_ble_eq_true rfl), (Nat.le_of_ble_eq_true rfl)⟩ rfl rfl rfl hl.1 rfl (Nat.le_of_ble_eq_true rfl) dX6_noRow_6) hw rfl rfl (fun _ => (Nat.le_of_ble_eq_true rfl)) (fun _ => rfl) rfl rfl (fun _ H locs hw => ?_)
  refine lv_if_ne (tgt := 19) hx hb dX6_noRow_9 (by decide) (fun k9 => ?_) (fun k9 => ?_)
  · have h := itt k9 h
    refine lv_aload_n hx hb dX6_noRow_19 rfl (lv_at hl 0 rfl) ?_
    refine RM_g_shelf X hw 0 rfl kf_X6_7 dX6_noRow_20 ?_
    refine lv_iload_n hx hb dX6_noRow_23 rfl (lv_at hl 1 rfl) ?_
    obtain ⟨q24, h⟩ := chk h
    refine RM_l_shelf X hw 0 rfl q24 dX6_noRow_24 ?_
    refine lv_iconst (v := 2) hx hb dX6_noRow_25 (by decide) ?_
    refine lv_icmp_ne (tgt := 36) hx hb dX6_noRow_26 (by decide) (fun k26 => ?_) (fun k26 => ?_)
    · have h := itt k26 h
      refine lv_aload_n hx hb dX6_noRow_36 rfl (lv_at hl 0 rfl) ?_
      refine RM_g_shelf X hw 0 rfl kf_X6_7 dX6_noRow_37 ?_
      refine lv_iload_n hx hb dX6_noRow_40 rfl (lv_at hl 1 rfl) ?_
      obtain ⟨q41, h⟩ := chk h
      refine RM_l_shelf X hw 0 rfl q41 dX6_noRow_41 ?_
      refine lv_if_ne (tgt := 54) hx hb dX6_noRow_42 (by decide) (fun k42 => ?_) (fun k42 => ?_)
      · have h := itt k42 h
        refine lv_iconst (v := 0) hx hb dX6_noRow_54 (by decide) ?_
        have h := Option.some.inj h
        subst h
        exact hret () dX6_noRow_55 rfl hw
      · have h := itf (fun z => z k42) h
        refine lv_aload_n hx hb dX6_noRow_45 rfl (lv_at hl 0 rfl) ?_
        refine lv_bipush (v := -4) hx hb dX6_noRow_46 (by decide) ?_
        obtain ⟨r48, h48, h⟩ := bnd h
        refine g_calli0 (isC := [0]) (gn := fun _ => [wRM g ad eK eT r48.2]) (g_runV (isC := [0]) (rest := []) (As := [.int (-4 : Int32)]) X hw (c_X6_refuse l (ad := ad) (eK := eK) (eT := eT) h48) rfl kM_X6_refuse ki_X6_refuse ks_X6_refuse km_X6_96 ⟨(Nat.le_of_ble_eq_true rfl), (Nat.le_of_ble_eq_true rfl)⟩ ⟨(Nat.le_of_ble_eq_true rfl), (Nat.le_of_ble_eq_true rfl)⟩ rfl rfl ⟨_, _, _, _, rfl, rfl, rfl, rfl⟩ rfl hl.1 rfl (Nat.le_of_ble_eq_true rfl) dX6_noRow_48) hw rfl rfl (fun _ => (Nat.le_of_ble_eq_true rfl)) (fun _ => rfl) rfl rfl (fun _ H locs hw => ?_)
        refine lv_goto (tgt := 55) hx hb dX6_noRow_51 (by decide) ?_
        have h := Option.some.inj h
        subst h
        exact hret () dX6_noRow_55 rfl hw
    · have h := itf (fun z => z k26) h
      refine lv_aload_n hx hb dX6_noRow_29 rfl (lv_at hl 0 rfl) ?_
      refine lv_bipush (v := -3) hx hb dX6_noRow_30 (by decide) ?_
      obtain ⟨r32, h32, h⟩ := bnd h
      refine g_calli0 (isC := [0]) (gn := fun _ => [wRM g ad eK eT r32.2]) (g_runV (isC := [0]) (rest := []) (As := [.int (-3 : Int32)]) X hw (c_X6_refuse l (ad := ad) (eK := eK) (eT := eT) h32) rfl kM_X6_refuse ki_X6_refuse ks_X6_refuse km_X6_96 ⟨(Nat.le_of_ble_eq_true rfl), (Nat.le_of_ble_eq_true rfl)⟩ ⟨(Nat.le_of_ble_eq_true rfl), (Nat.le_of_ble_eq_true rfl)⟩ rfl rfl ⟨_, _, _, _, rfl, rfl, rfl, rfl⟩ rfl hl.1 rfl (Nat.le_of_ble_eq_true rfl) dX6_noRow_32) hw rfl rfl (fun _ => (Nat.le_of_ble_eq_true rfl)) (fun _ => rfl) rfl rfl (fun _ H locs hw => ?_)
      have h := Option.some.inj h
      subst h
      exact hret () dX6_noRow_35 rfl hw
  · have h := itf (fun z => z k9) h
    refine lv_aload_n hx hb dX6_noRow_12 rfl (lv_at hl 0 rfl) ?_
    refine lv_bipush (v := -2) hx hb dX6_noRow_13 (by decide) ?_
    obtain ⟨r15, h15, h⟩ := bnd h
    refine g_calli0 (isC := [0]) (gn := fun _ => [wRM g ad eK eT r15.2]) (g_runV (isC := [0]) (rest := []) (As := [.int (-2 : Int32)]) X hw (c_X6_refuse l (ad := ad) (eK := eK) (eT := eT) h15) rfl kM_X6_refuse ki_X6_refuse ks_X6_refuse km_X6_96 ⟨(Nat.le_of_ble_eq_true rfl), (Nat.le_of_ble_eq_true rfl)⟩ ⟨(Nat.le_of_ble_eq_true rfl), (Nat.le_of_ble_eq_true rfl)⟩ rfl rfl ⟨_, _, _, _, rfl, rfl, rfl, rfl⟩ rfl hl.1 rfl (Nat.le_of_ble_eq_true rfl) dX6_noRow_15) hw rfl rfl (fun _ => (Nat.le_of_ble_eq_true rfl)) (fun _ => rfl) rfl rfl (fun _ H locs hw => ?_)
    have h := Option.some.inj h
    subst h
    exact hret () dX6_noRow_18 rfl hw
theorem kM_X6_set : kM yX6_set cX6_set 6 (some FieldType.int) 3 := ⟨kc_X6_set, kn_RingsOffModel, by decide +kernel⟩
abbrev R_X6_set : Room := { frames := 2, cells := 0, slots := 0, locals := 46 }
set_option maxHeartbeats 4000000 in
set_option maxRecDepth 100000 in
theorem c_X6_set (l : Launch) {ad : Nat → Nat} {eK : Option Nat} {eT : Option Nat} {N : Nat} {rm : RM} {p1 : Int32} {p2 : Int32} {p3 : Int64} {out : Int32 × RM} (h : M_X6_set N rm p1 p2 p3 = some out) : gM l yX6_set cX6_set 6 (some FieldType.int) R_X6_set (fun _ => [.ref (ad 0), .int p1, .int p2, .long p3]) (fun g => [wRM g ad eK eT rm]) (gQi (fun (_ : Unit) => out.1) (fun g (_ : Unit) => [wRM g ad eK eT out.2])) := by
  refine gM.ofi (by decide +kernel) (fun _ => Nat.le_of_ble_eq_true rfl) (fun g p e s m args below meth c A ls Q X hret hw hl => ?_)
  have hx := X.1.1
  have hb := X.1.2.1
  have hl : lv_has ls 6 [(0, .ref (ad 0)), (1, .int p1), (2, .int p2), (3, .long p3)] := hl
  unfold M_X6_set at h
  refine lv_aload_n hx hb dX6_set_0 rfl (lv_at hl 0 rfl) ?_
  refine lv_iload_n hx hb dX6_set_1 rfl (lv_at hl 1 rfl) ?_
  obtain ⟨r2, h2, h⟩ := bnd h
  refine g_calli0 (isC := [0]) (gn := fun _ => [wRM g ad eK eT r2.2]) (g_runV (isC := [0]) (rest := []) (As := [.int p1]) X hw (c_X6_noRow l (ad := ad) (eK := eK) (eT := eT) h2) rfl kM_X6_noRow ki_X6_noRow ks_X6_noRow km_X6_99 ⟨(Nat.le_of_ble_eq_true rfl), (Nat.le_of_ble_eq_true rfl)⟩ ⟨(Nat.le_of_ble_eq_true rfl), (Nat.le_of_ble_eq_true rfl)⟩ rfl rfl ⟨_, _, _, _, rfl, rfl, rfl, rfl⟩ rfl hl.1 rfl (Nat.le_of_ble_eq_true rfl) dX6_set_2) hw rfl rfl (fun _ => (Nat.le_of_ble_eq_true rfl)) (fun _ => rfl) rfl rfl (fun _ H locs hw => ?_)
  refine lv_istore (lv' := [(5, .int r2.1), (0, .ref (ad 0)), (1, .int p1), (2, .int p2), (3, .long p3)]) hx hb dX6_set_5 hl (by decide) rfl (fun ls hl => ?_)
  refine lv_iload hx hb dX6_set_7 (lv_at hl 0 rfl) ?_
  refine lv_if_eq (tgt := 15) hx hb dX6_set_9 (by decide) (fun k9 => ?_) (fun k9 => ?_)
  · have h := itt k9 h
    refine lv_iload_n hx hb dX6_set_15 rfl (lv_at hl 3 rfl) ?_
    refine lv_i2l (v := p2.toInt64) hx hb dX6_set_16 rfl ?_
    refine lv_lconst (v := 0) hx hb dX6_set_17 (by decide) ?_
    refine lv_aload_n hx hb dX6_set_18 rfl (lv_at hl 1 rfl) ?_
    refine RM_g_rowSize X hw 0 rfl kf_X6_16 dX6_set_19 ?_
    refine lv_iload_n hx hb dX6_set_22 rfl (lv_at hl 2 rfl) ?_
    obtain ⟨q23, h⟩ := chk h
    refine RM_l_rowSize X hw 0 rfl q23 dX6_set_23 ?_
    refine lv_iconst (v := 1) hx hb dX6_set_24 (by decide) ?_
    refine lv_isub hx hb dX6_set_25 ?_
    refine lv_i2l (v := ((RM_rowSize r2.2 p1.toNatClampNeg) - (1 : Int32)).toInt64) hx hb dX6_set_26 rfl ?_
    obtain ⟨r27, h27, h⟩ := bnd h
    refine g_calli0 (isC := []) (gn := fun _ => [wRM g ad eK eT r2.2]) (g_runS (isC := []) (rest := []) (As := [.long p2.toInt64, .long (0 : Int64), .long ((RM_rowSize r2.2 p1.toNatClampNeg) - (1 : Int32)).toInt64]) X hw (c_X6_in l h27) rfl kM_X6_in kt_X6_in km_X6_82 ⟨(Nat.le_of_ble_eq_true rfl), (Nat.le_of_ble_eq_true rfl)⟩ ⟨(Nat.le_of_ble_eq_true rfl), (Nat.le_of_ble_eq_true rfl)⟩ rfl rfl rfl hl.1 rfl (Nat.le_of_ble_eq_true rfl) dX6_set_27) hw rfl rfl (fun _ => (Nat.le_of_ble_eq_true rfl)) (fun _ => rfl) rfl rfl (fun _ H locs hw => ?_)
    refine lv_if_ne (tgt := 40) hx hb dX6_set_30 (by decide) (fun k30 => ?_) (fun k30 => ?_)
    · have h := itt k30 h
      refine lv_aload_n hx hb dX6_set_40 rfl (lv_at hl 1 rfl) ?_
      refine RM_g_rows X hw 0 rfl kf_X6_21 dX6_set_41 ?_
      refine lv_iload_n hx hb dX6_set_44 rfl (lv_at hl 2 rfl) ?_
      obtain ⟨q45, h⟩ := chk h
      have o45 := Nat.not_le.mp (fun z => q45 (Or.inr z))
      refine RM_q_rows X hw 0 rfl q45 dX6_set_45 ?_
      refine lv_iload_n hx hb dX6_set_46 rfl (lv_at hl 3 rfl) ?_
      refine lv_aload_n hx hb dX6_set_47 rfl (lv_at hl 1 rfl) ?_
      refine RM_g_rowSort X hw 0 rfl kf_X6_13 dX6_set_48 ?_
      refine lv_iload_n hx hb dX6_set_51 rfl (lv_at hl 2 rfl) ?_
      obtain ⟨q52, h⟩ := chk h
      refine RM_l_rowSort X hw 0 rfl q52 dX6_set_52 ?_
      refine lv_lload_n hx hb dX6_set_53 rfl (lv_at hl 4 rfl) ?_
      obtain ⟨r54, h54, h⟩ := bnd h
      refine g_calll0 (isC := []) (gn := fun _ => [wRM g ad eK eT r2.2]) (g_runS (isC := []) (rest := [.int p2, .ref (ad (5 + p1.toNatClampNeg))]) (As := [.int (RM_rowSort r2.2 p1.toNatClampNeg), .long p3]) X hw (c_X6_fit l h54) rfl kM_X6_fit kt_X6_fit km_X6_102 ⟨(Nat.le_of_ble_eq_true rfl), (Nat.le_of_ble_eq_true rfl)⟩ ⟨(Nat.le_of_ble_eq_true rfl), (Nat.le_of_ble_eq_true rfl)⟩ rfl rfl rfl hl.1 rfl (Nat.le_of_ble_eq_true rfl) dX6_set_54) hw rfl rfl (fun _ => (Nat.le_of_ble_eq_true rfl)) (fun _ => rfl) rfl rfl (fun _ H locs hw => ?_)
      obtain ⟨q57, h⟩ := chk h
      refine RM_a_rows (gs' := [wRM g ad eK eT (RM_s_rows r2.2 (va_up (RM_rows r2.2) p1.toNatClampNeg (vp_updL (RM_rows r2.2 p1.toNatClampNeg) p2.toNatClampNeg r54)))]) X hw 0 rfl o45 q57 dX6_set_57 rfl (fun H locs hw => ?_)
      refine lv_iconst (v := 1) hx hb dX6_set_58 (by decide) ?_
      have h := Option.some.inj h
      subst h
      exact hret () dX6_set_59 rfl hw
    · have h := itf (fun z => z k30) h
      refine lv_aload_n hx hb dX6_set_33 rfl (lv_at hl 1 rfl) ?_
      refine lv_bipush (v := -2) hx hb dX6_set_34 (by decide) ?_
      obtain ⟨r36, h36, h⟩ := bnd h
      refine g_calli0 (isC := [0]) (gn := fun _ => [wRM g ad eK eT r36.2]) (g_runV (isC := [0]) (rest := []) (As := [.int (-2 : Int32)]) X hw (c_X6_refuse l (ad := ad) (eK := eK) (eT := eT) h36) rfl kM_X6_refuse ki_X6_refuse ks_X6_refuse km_X6_96 ⟨(Nat.le_of_ble_eq_true rfl), (Nat.le_of_ble_eq_true rfl)⟩ ⟨(Nat.le_of_ble_eq_true rfl), (Nat.le_of_ble_eq_true rfl)⟩ rfl rfl ⟨_, _, _, _, rfl, rfl, rfl, rfl⟩ rfl hl.1 rfl (Nat.le_of_ble_eq_true rfl) dX6_set_36) hw rfl rfl (fun _ => (Nat.le_of_ble_eq_true rfl)) (fun _ => rfl) rfl rfl (fun _ H locs hw => ?_)
      have h := Option.some.inj h
      subst h
      exact hret () dX6_set_39 rfl hw
  · have h := itf k9 h
    refine lv_iload hx hb dX6_set_12 (lv_at hl 0 rfl) ?_
    have h := Option.some.inj h
    subst h
    exact hret () dX6_set_14 rfl hw
theorem kM_X6_copy : kM yX6_copy cX6_copy 7 (some FieldType.int) 5 := ⟨kc_X6_copy, kn_RingsOffModel, by decide +kernel⟩
abbrev R_X6_copy : Room := { frames := 1, cells := 0, slots := 0, locals := 25 }
set_option maxHeartbeats 4000000 in
set_option maxRecDepth 100000 in
theorem c_X6_copy (l : Launch) {ad : Nat → Nat} {eK : Option Nat} {eT : Option Nat} {N : Nat} {rm : RM} {p1 : Int32} {p2 : Int32} {p3 : Int32} {p4 : Int32} {p5 : Int32} {out : Int32 × RM} (h : M_X6_copy N rm p1 p2 p3 p4 p5 = some out) : gM l yX6_copy cX6_copy 7 (some FieldType.int) R_X6_copy (fun _ => [.ref (ad 0), .int p1, .int p2, .int p3, .int p4, .int p5]) (fun g => [wRM g ad eK eT rm]) (gQi (fun (_ : Unit) => out.1) (fun g (_ : Unit) => [wRM g ad eK eT out.2])) := by
  refine gM.ofi (by decide +kernel) (fun _ => Nat.le_of_ble_eq_true rfl) (fun g p e s m args below meth c A ls Q X hret hw hl => ?_)
  have hx := X.1.1
  have hb := X.1.2.1
  have hl : lv_has ls 7 [(0, .ref (ad 0)), (1, .int p1), (2, .int p2), (3, .int p3), (4, .int p4), (5, .int p5)] := hl
  have L225 : ∀ (n : Nat) (z225 : RM × Int32), lp (M_X6_copy_l225 N p1 p2 p3 p4 p5) n z225 = some out → ∀ (H : Heap) (locs : List Loc) (ls : Array Slot), gW g A s.heap [wRM g ad eK eT z225.1] H locs → lv_has ls 7 [(0, .ref (ad 0)), (2, .int p2), (4, .int p4), (5, .int p5), (6, .int z225.2)] → W p l e R_X6_copy s m args below meth c H locs 0 0 Q (F0 m 225 ls []) := by
    refine lp_ind ?_
    intro rec225 ih225
    intro z225 h H locs ls hw hl
    unfold M_X6_copy_l225 at h
    refine lv_iload hx hb dX6_copy_225 (lv_at hl 4 rfl) ?_
    refine lv_iload hx hb dX6_copy_227 (lv_at hl 3 rfl) ?_
    refine lv_icmp_ge (tgt := 257) hx hb dX6_copy_229 (by decide) (fun k229 => ?_) (fun k229 => ?_)
    · have h := itt k229 h
      refine lv_iload hx hb dX6_copy_257 (lv_at hl 3 rfl) ?_
      have h := Option.some.inj h
      subst h
      exact hret () dX6_copy_259 rfl hw
    · have h := itf k229 h
      refine lv_aload_n hx hb dX6_copy_232 rfl (lv_at hl 0 rfl) ?_
      refine RM_g_rows X hw 0 rfl kf_X6_21 dX6_copy_233 ?_
      refine lv_iload_n hx hb dX6_copy_236 rfl (lv_at hl 1 rfl) ?_
      obtain ⟨q237, h⟩ := chk h
      have o237 := Nat.not_le.mp (fun z => q237 (Or.inr z))
      refine RM_q_rows X hw 0 rfl q237 dX6_copy_237 ?_
      refine lv_iload hx hb dX6_copy_238 (lv_at hl 2 rfl) ?_
      refine lv_iload hx hb dX6_copy_240 (lv_at hl 4 rfl) ?_
      refine lv_iadd hx hb dX6_copy_242 ?_
      refine lv_aload_n hx hb dX6_copy_243 rfl (lv_at hl 0 rfl) ?_
      refine RM_g_moved1 X hw 0 rfl kf_X6_24 dX6_copy_244 ?_
      refine lv_iload hx hb dX6_copy_247 (lv_at hl 4 rfl) ?_
      obtain ⟨q249, h⟩ := chk h
      refine RM_l_moved1 X hw 0 rfl q249 dX6_copy_249 ?_
      obtain ⟨q250, h⟩ := chk h
      refine RM_a_rows (gs' := [wRM g ad eK eT (RM_s_rows z225.1 (va_up (RM_rows z225.1) p2.toNatClampNeg (vp_updL (RM_rows z225.1 p2.toNatClampNeg) (p4 + z225.2).toNatClampNeg (RM_moved1 z225.1 z225.2.toNatClampNeg))))]) X hw 0 rfl o237 q250 dX6_copy_250 rfl (fun H locs hw => ?_)
      refine lv_iinc (v := (z225.2 + 1)) (lv' := [(6, .int (z225.2 + 1)), (0, .ref (ad 0)), (2, .int p2), (4, .int p4), (5, .int p5)]) hx hb dX6_copy_251 hl (k := 4) rfl rfl (by decide) rfl (fun ls hl => ?_)
      refine lv_goto (tgt := 225) hx hb dX6_copy_254 (by decide) ?_
      exact ih225 _ h _ _ _ hw (lv_sub hl [1, 2, 3, 4, 0] rfl)
  have L191 : ∀ (n : Nat) (z191 : RM × Int32), lp (M_X6_copy_l191 N p1 p2 p3 p4 p5) n z191 = some out → ∀ (H : Heap) (locs : List Loc) (ls : Array Slot), gW g A s.heap [wRM g ad eK eT z191.1] H locs → lv_has ls 7 [(0, .ref (ad 0)), (1, .int p1), (2, .int p2), (3, .int p3), (4, .int p4), (5, .int p5), (6, .int z191.2)] → W p l e R_X6_copy s m args below meth c H locs 0 0 Q (F0 m 191 ls []) := by
    refine lp_ind ?_
    intro rec191 ih191
    intro z191 h H locs ls hw hl
    unfold M_X6_copy_l191 at h
    refine lv_iload hx hb dX6_copy_191 (lv_at hl 6 rfl) ?_
    refine lv_iload hx hb dX6_copy_193 (lv_at hl 5 rfl) ?_
    refine lv_icmp_ge (tgt := 222) hx hb dX6_copy_195 (by decide) (fun k195 => ?_) (fun k195 => ?_)
    · have h := itt k195 h
      refine lv_iconst (v := 0) hx hb dX6_copy_222 (by decide) ?_
      refine lv_istore (lv' := [(6, .int (0 : Int32)), (0, .ref (ad 0)), (1, .int p1), (2, .int p2), (3, .int p3), (4, .int p4), (5, .int p5)]) hx hb dX6_copy_223 hl (by decide) rfl (fun ls hl => ?_)
      exact L225 N _ h _ _ _ hw (lv_sub hl [1, 3, 5, 6, 0] rfl)
    · have h := itf k195 h
      refine lv_aload_n hx hb dX6_copy_198 rfl (lv_at hl 0 rfl) ?_
      refine RM_g_moved1 X hw 0 rfl kf_X6_24 dX6_copy_199 ?_
      refine lv_iload hx hb dX6_copy_202 (lv_at hl 6 rfl) ?_
      refine lv_aload_n hx hb dX6_copy_204 rfl (lv_at hl 0 rfl) ?_
      refine RM_g_rows X hw 0 rfl kf_X6_21 dX6_copy_205 ?_
      refine lv_iload_n hx hb dX6_copy_208 rfl (lv_at hl 1 rfl) ?_
      obtain ⟨q209, h⟩ := chk h
      have o209 := Nat.not_le.mp (fun z => q209 (Or.inr z))
      refine RM_q_rows X hw 0 rfl q209 dX6_copy_209 ?_
      refine lv_iload_n hx hb dX6_copy_210 rfl (lv_at hl 3 rfl) ?_
      refine lv_iload hx hb dX6_copy_211 (lv_at hl 6 rfl) ?_
      refine lv_iadd hx hb dX6_copy_213 ?_
      obtain ⟨q214, h⟩ := chk h
      refine RM_l_rows X hw 0 rfl o209 q214 dX6_copy_214 ?_
      obtain ⟨q215, h⟩ := chk h
      refine RM_a_moved1 (gs' := [wRM g ad eK eT (RM_s_moved1 z191.1 (vp_updL (RM_moved1 z191.1) z191.2.toNatClampNeg (RM_rows z191.1 p1.toNatClampNeg (p3 + z191.2).toNatClampNeg)))]) X hw 0 rfl q215 dX6_copy_215 rfl (fun H locs hw => ?_)
      refine lv_iinc (v := (z191.2 + 1)) (lv' := [(6, .int (z191.2 + 1)), (0, .ref (ad 0)), (1, .int p1), (2, .int p2), (3, .int p3), (4, .int p4), (5, .int p5)]) hx hb dX6_copy_216 hl (k := 6) rfl rfl (by decide) rfl (fun ls hl => ?_)
      refine lv_goto (tgt := 191) hx hb dX6_copy_219 (by decide) ?_
      exact ih191 _ h _ _ _ hw (lv_sub hl [1, 2, 3, 4, 5, 6, 0] rfl)
  have J181 : ∀ (z181 : RM), M_X6_copy_j181 N p1 p2 p3 p4 p5 z181 = some out → ∀ (H : Heap) (locs : List Loc) (ls : Array Slot), gW g A s.heap [wRM g ad eK eT z181] H locs → lv_has ls 7 [(0, .ref (ad 0))] → W p l e R_X6_copy s m args below meth c H locs 0 0 Q (F0 m 181 ls []) := by
    intro z181 h H locs ls hw hl
    unfold M_X6_copy_j181 at h
    refine lv_aload_n hx hb dX6_copy_181 rfl (lv_at hl 0 rfl) ?_
    refine lv_bipush (v := -2) hx hb dX6_copy_182 (by decide) ?_
    obtain ⟨r184, h184, h⟩ := bnd h
    refine g_calli0 (isC := [0]) (gn := fun _ => [wRM g ad eK eT r184.2]) (g_runV (isC := [0]) (rest := []) (As := [.int (-2 : Int32)]) X hw (c_X6_refuse l (ad := ad) (eK := eK) (eT := eT) h184) rfl kM_X6_refuse ki_X6_refuse ks_X6_refuse km_X6_96 ⟨(Nat.le_of_ble_eq_true rfl), (Nat.le_of_ble_eq_true rfl)⟩ ⟨(Nat.le_of_ble_eq_true rfl), (Nat.le_of_ble_eq_true rfl)⟩ rfl rfl ⟨_, _, _, _, rfl, rfl, rfl, rfl⟩ rfl hl.1 rfl (Nat.le_of_ble_eq_true rfl) dX6_copy_184) hw rfl rfl (fun _ => (Nat.le_of_ble_eq_true rfl)) (fun _ => rfl) rfl rfl (fun _ H locs hw => ?_)
    have h := Option.some.inj h
    subst h
    exact hret () dX6_copy_187 rfl hw
  have J111 : ∀ (z111 : RM), M_X6_copy_j111 N p1 p2 p3 p4 p5 z111 = some out → ∀ (H : Heap) (locs : List Loc) (ls : Array Slot), gW g A s.heap [wRM g ad eK eT z111] H locs → lv_has ls 7 [(0, .ref (ad 0))] → W p l e R_X6_copy s m args below meth c H locs 0 0 Q (F0 m 111 ls []) := by
    intro z111 h H locs ls hw hl
    unfold M_X6_copy_j111 at h
    refine lv_aload_n hx hb dX6_copy_111 rfl (lv_at hl 0 rfl) ?_
    refine lv_bipush (v := -4) hx hb dX6_copy_112 (by decide) ?_
    obtain ⟨r114, h114, h⟩ := bnd h
    refine g_calli0 (isC := [0]) (gn := fun _ => [wRM g ad eK eT r114.2]) (g_runV (isC := [0]) (rest := []) (As := [.int (-4 : Int32)]) X hw (c_X6_refuse l (ad := ad) (eK := eK) (eT := eT) h114) rfl kM_X6_refuse ki_X6_refuse ks_X6_refuse km_X6_96 ⟨(Nat.le_of_ble_eq_true rfl), (Nat.le_of_ble_eq_true rfl)⟩ ⟨(Nat.le_of_ble_eq_true rfl), (Nat.le_of_ble_eq_true rfl)⟩ rfl rfl ⟨_, _, _, _, rfl, rfl, rfl, rfl⟩ rfl hl.1 rfl (Nat.le_of_ble_eq_true rfl) dX6_copy_114) hw rfl rfl (fun _ => (Nat.le_of_ble_eq_true rfl)) (fun _ => rfl) rfl rfl (fun _ H locs hw => ?_)
    have h := Option.some.inj h
    subst h
    exact hret () dX6_copy_117 rfl hw
  have J93 : ∀ (z93 : RM), M_X6_copy_j93 N p1 p2 p3 p4 p5 z93 = some out → ∀ (H : Heap) (locs : List Loc) (ls : Array Slot), gW g A s.heap [wRM g ad eK eT z93] H locs → lv_has ls 7 [(0, .ref (ad 0)), (1, .int p1), (2, .int p2), (3, .int p3), (4, .int p4), (5, .int p5)] → W p l e R_X6_copy s m args below meth c H locs 0 0 Q (F0 m 93 ls []) := by
    intro z93 h H locs ls hw hl
    unfold M_X6_copy_j93 at h
    refine lv_aload_n hx hb dX6_copy_93 rfl (lv_at hl 0 rfl) ?_
    refine RM_g_shelf X hw 0 rfl kf_X6_7 dX6_copy_94 ?_
    refine lv_iload_n hx hb dX6_copy_97 rfl (lv_at hl 1 rfl) ?_
    obtain ⟨q98, h⟩ := chk h
    refine RM_l_shelf X hw 0 rfl q98 dX6_copy_98 ?_
    refine lv_if_eq (tgt := 111) hx hb dX6_copy_99 (by decide) (fun k99 => ?_) (fun k99 => ?_)
    · have h := itt k99 h
      exact J111 _ h _ _ _ hw (lv_sub hl [0] rfl)
    · have h := itf k99 h
      refine lv_aload_n hx hb dX6_copy_102 rfl (lv_at hl 0 rfl) ?_
      refine RM_g_shelf X hw 0 rfl kf_X6_7 dX6_copy_103 ?_
      refine lv_iload_n hx hb dX6_copy_106 rfl (lv_at hl 2 rfl) ?_
      obtain ⟨q107, h⟩ := chk h
      refine RM_l_shelf X hw 0 rfl q107 dX6_copy_107 ?_
      refine lv_if_ne (tgt := 118) hx hb dX6_copy_108 (by decide) (fun k108 => ?_) (fun k108 => ?_)
      · have h := itt k108 h
        refine lv_iload hx hb dX6_copy_118 (lv_at hl 5 rfl) ?_
        refine lv_if_lt (tgt := 181) hx hb dX6_copy_120 (by decide) (fun k120 => ?_) (fun k120 => ?_)
        · have h := itt k120 h
          exact J181 _ h _ _ _ hw (lv_sub hl [0] rfl)
        · have h := itf k120 h
          refine lv_iload_n hx hb dX6_copy_123 rfl (lv_at hl 3 rfl) ?_
          refine lv_if_lt (tgt := 181) hx hb dX6_copy_124 (by decide) (fun k124 => ?_) (fun k124 => ?_)
          · have h := itt k124 h
            exact J181 _ h _ _ _ hw (lv_sub hl [0] rfl)
          · have h := itf k124 h
            refine lv_iload hx hb dX6_copy_127 (lv_at hl 4 rfl) ?_
            refine lv_if_lt (tgt := 181) hx hb dX6_copy_129 (by decide) (fun k129 => ?_) (fun k129 => ?_)
            · have h := itt k129 h
              exact J181 _ h _ _ _ hw (lv_sub hl [0] rfl)
            · have h := itf k129 h
              refine lv_iload hx hb dX6_copy_132 (lv_at hl 5 rfl) ?_
              refine lv_aload_n hx hb dX6_copy_134 rfl (lv_at hl 0 rfl) ?_
              refine RM_g_rowSize X hw 0 rfl kf_X6_16 dX6_copy_135 ?_
              refine lv_iload_n hx hb dX6_copy_138 rfl (lv_at hl 1 rfl) ?_
              obtain ⟨q139, h⟩ := chk h
              refine RM_l_rowSize X hw 0 rfl q139 dX6_copy_139 ?_
              refine lv_icmp_gt (tgt := 181) hx hb dX6_copy_140 (by decide) (fun k140 => ?_) (fun k140 => ?_)
              · have h := itt k140 h
                exact J181 _ h _ _ _ hw (lv_sub hl [0] rfl)
              · have h := itf k140 h
                refine lv_iload hx hb dX6_copy_143 (lv_at hl 5 rfl) ?_
                refine lv_aload_n hx hb dX6_copy_145 rfl (lv_at hl 0 rfl) ?_
                refine RM_g_rowSize X hw 0 rfl kf_X6_16 dX6_copy_146 ?_
                refine lv_iload_n hx hb dX6_copy_149 rfl (lv_at hl 2 rfl) ?_
                obtain ⟨q150, h⟩ := chk h
                refine RM_l_rowSize X hw 0 rfl q150 dX6_copy_150 ?_
                refine lv_icmp_gt (tgt := 181) hx hb dX6_copy_151 (by decide) (fun k151 => ?_) (fun k151 => ?_)
                · have h := itt k151 h
                  exact J181 _ h _ _ _ hw (lv_sub hl [0] rfl)
                · have h := itf k151 h
                  refine lv_iload_n hx hb dX6_copy_154 rfl (lv_at hl 3 rfl) ?_
                  refine lv_aload_n hx hb dX6_copy_155 rfl (lv_at hl 0 rfl) ?_
                  refine RM_g_rowSize X hw 0 rfl kf_X6_16 dX6_copy_156 ?_
                  refine lv_iload_n hx hb dX6_copy_159 rfl (lv_at hl 1 rfl) ?_
                  obtain ⟨q160, h⟩ := chk h
                  refine RM_l_rowSize X hw 0 rfl q160 dX6_copy_160 ?_
                  refine lv_iload hx hb dX6_copy_161 (lv_at hl 5 rfl) ?_
                  refine lv_isub hx hb dX6_copy_163 ?_
                  refine lv_icmp_gt (tgt := 181) hx hb dX6_copy_164 (by decide) (fun k164 => ?_) (fun k164 => ?_)
                  · have h := itt k164 h
                    exact J181 _ h _ _ _ hw (lv_sub hl [0] rfl)
                  · have h := itf k164 h
                    refine lv_iload hx hb dX6_copy_167 (lv_at hl 4 rfl) ?_
                    refine lv_aload_n hx hb dX6_copy_169 rfl (lv_at hl 0 rfl) ?_
                    refine RM_g_rowSize X hw 0 rfl kf_X6_16 dX6_copy_170 ?_
                    refine lv_iload_n hx hb dX6_copy_173 rfl (lv_at hl 2 rfl) ?_
                    obtain ⟨q174, h⟩ := chk h
                    refine RM_l_rowSize X hw 0 rfl q174 dX6_copy_174 ?_
                    refine lv_iload hx hb dX6_copy_175 (lv_at hl 5 rfl) ?_
                    refine lv_isub hx hb dX6_copy_177 ?_
                    refine lv_icmp_le (tgt := 188) hx hb dX6_copy_178 (by decide) (fun k178 => ?_) (fun k178 => ?_)
                    · have h := itt k178 h
                      refine lv_iconst (v := 0) hx hb dX6_copy_188 (by decide) ?_
                      refine lv_istore (lv' := [(6, .int (0 : Int32)), (0, .ref (ad 0)), (1, .int p1), (2, .int p2), (3, .int p3), (4, .int p4), (5, .int p5)]) hx hb dX6_copy_189 hl (by decide) rfl (fun ls hl => ?_)
                      exact L191 N _ h _ _ _ hw (lv_sub hl [1, 2, 3, 4, 5, 6, 0] rfl)
                    · have h := itf k178 h
                      exact J181 _ h _ _ _ hw (lv_sub hl [0] rfl)
      · have h := itf (fun z => z k108) h
        exact J111 _ h _ _ _ hw (lv_sub hl [0] rfl)
  have J86 : ∀ (z86 : RM), M_X6_copy_j86 N p1 p2 p3 p4 p5 z86 = some out → ∀ (H : Heap) (locs : List Loc) (ls : Array Slot), gW g A s.heap [wRM g ad eK eT z86] H locs → lv_has ls 7 [(0, .ref (ad 0))] → W p l e R_X6_copy s m args below meth c H locs 0 0 Q (F0 m 86 ls []) := by
    intro z86 h H locs ls hw hl
    unfold M_X6_copy_j86 at h
    refine lv_aload_n hx hb dX6_copy_86 rfl (lv_at hl 0 rfl) ?_
    refine lv_bipush (v := -3) hx hb dX6_copy_87 (by decide) ?_
    obtain ⟨r89, h89, h⟩ := bnd h
    refine g_calli0 (isC := [0]) (gn := fun _ => [wRM g ad eK eT r89.2]) (g_runV (isC := [0]) (rest := []) (As := [.int (-3 : Int32)]) X hw (c_X6_refuse l (ad := ad) (eK := eK) (eT := eT) h89) rfl kM_X6_refuse ki_X6_refuse ks_X6_refuse km_X6_96 ⟨(Nat.le_of_ble_eq_true rfl), (Nat.le_of_ble_eq_true rfl)⟩ ⟨(Nat.le_of_ble_eq_true rfl), (Nat.le_of_ble_eq_true rfl)⟩ rfl rfl ⟨_, _, _, _, rfl, rfl, rfl, rfl⟩ rfl hl.1 rfl (Nat.le_of_ble_eq_true rfl) dX6_copy_89) hw rfl rfl (fun _ => (Nat.le_of_ble_eq_true rfl)) (fun _ => rfl) rfl rfl (fun _ H locs hw => ?_)
    have h := Option.some.inj h
    subst h
    exact hret () dX6_copy_92 rfl hw
  have J24 : ∀ (z24 : RM), M_X6_copy_j24 N p1 p2 p3 p4 p5 z24 = some out → ∀ (H : Heap) (locs : List Loc) (ls : Array Slot), gW g A s.heap [wRM g ad eK eT z24] H locs → lv_has ls 7 [(0, .ref (ad 0))] → W p l e R_X6_copy s m args below meth c H locs 0 0 Q (F0 m 24 ls []) := by
    intro z24 h H locs ls hw hl
    unfold M_X6_copy_j24 at h
    refine lv_aload_n hx hb dX6_copy_24 rfl (lv_at hl 0 rfl) ?_
    refine lv_bipush (v := -2) hx hb dX6_copy_25 (by decide) ?_
    obtain ⟨r27, h27, h⟩ := bnd h
    refine g_calli0 (isC := [0]) (gn := fun _ => [wRM g ad eK eT r27.2]) (g_runV (isC := [0]) (rest := []) (As := [.int (-2 : Int32)]) X hw (c_X6_refuse l (ad := ad) (eK := eK) (eT := eT) h27) rfl kM_X6_refuse ki_X6_refuse ks_X6_refuse km_X6_96 ⟨(Nat.le_of_ble_eq_true rfl), (Nat.le_of_ble_eq_true rfl)⟩ ⟨(Nat.le_of_ble_eq_true rfl), (Nat.le_of_ble_eq_true rfl)⟩ rfl rfl ⟨_, _, _, _, rfl, rfl, rfl, rfl⟩ rfl hl.1 rfl (Nat.le_of_ble_eq_true rfl) dX6_copy_27) hw rfl rfl (fun _ => (Nat.le_of_ble_eq_true rfl)) (fun _ => rfl) rfl rfl (fun _ H locs hw => ?_)
    have h := Option.some.inj h
    subst h
    exact hret () dX6_copy_30 rfl hw
  unfold M_X6_copy at h
  refine lv_iload_n hx hb dX6_copy_0 rfl (lv_at hl 1 rfl) ?_
  refine lv_i2l (v := p1.toInt64) hx hb dX6_copy_1 rfl ?_
  refine lv_lconst (v := 0) hx hb dX6_copy_2 (by decide) ?_
  refine lv_ldc2 hx hb X.1.2.2.2.1 (gK1 X _ kq_X6_90) dX6_copy_3 ?_
  obtain ⟨r6, h6, h⟩ := bnd h
  refine g_calli0 (isC := []) (gn := fun _ => [wRM g ad eK eT rm]) (g_runS (isC := []) (rest := []) (As := [.long p1.toInt64, .long (0 : Int64), .long (7 : Int64)]) X hw (c_X6_in l h6) rfl kM_X6_in kt_X6_in km_X6_82 ⟨(Nat.le_of_ble_eq_true rfl), (Nat.le_of_ble_eq_true rfl)⟩ ⟨(Nat.le_of_ble_eq_true rfl), (Nat.le_of_ble_eq_true rfl)⟩ rfl rfl rfl hl.1 rfl (Nat.le_of_ble_eq_true rfl) dX6_copy_6) hw rfl rfl (fun _ => (Nat.le_of_ble_eq_true rfl)) (fun _ => rfl) rfl rfl (fun _ H locs hw => ?_)
  refine lv_if_eq (tgt := 24) hx hb dX6_copy_9 (by decide) (fun k9 => ?_) (fun k9 => ?_)
  · have h := itt k9 h
    exact J24 _ h _ _ _ hw (lv_sub hl [0] rfl)
  · have h := itf k9 h
    refine lv_iload_n hx hb dX6_copy_12 rfl (lv_at hl 2 rfl) ?_
    refine lv_i2l (v := p2.toInt64) hx hb dX6_copy_13 rfl ?_
    refine lv_lconst (v := 0) hx hb dX6_copy_14 (by decide) ?_
    refine lv_ldc2 hx hb X.1.2.2.2.1 (gK1 X _ kq_X6_90) dX6_copy_15 ?_
    obtain ⟨r18, h18, h⟩ := bnd h
    refine g_calli0 (isC := []) (gn := fun _ => [wRM g ad eK eT rm]) (g_runS (isC := []) (rest := []) (As := [.long p2.toInt64, .long (0 : Int64), .long (7 : Int64)]) X hw (c_X6_in l h18) rfl kM_X6_in kt_X6_in km_X6_82 ⟨(Nat.le_of_ble_eq_true rfl), (Nat.le_of_ble_eq_true rfl)⟩ ⟨(Nat.le_of_ble_eq_true rfl), (Nat.le_of_ble_eq_true rfl)⟩ rfl rfl rfl hl.1 rfl (Nat.le_of_ble_eq_true rfl) dX6_copy_18) hw rfl rfl (fun _ => (Nat.le_of_ble_eq_true rfl)) (fun _ => rfl) rfl rfl (fun _ H locs hw => ?_)
    refine lv_if_ne (tgt := 31) hx hb dX6_copy_21 (by decide) (fun k21 => ?_) (fun k21 => ?_)
    · have h := itt k21 h
      refine lv_aload_n hx hb dX6_copy_31 rfl (lv_at hl 0 rfl) ?_
      refine RM_g_shelf X hw 0 rfl kf_X6_7 dX6_copy_32 ?_
      refine lv_iload_n hx hb dX6_copy_35 rfl (lv_at hl 1 rfl) ?_
      obtain ⟨q36, h⟩ := chk h
      refine RM_l_shelf X hw 0 rfl q36 dX6_copy_36 ?_
      refine lv_iconst (v := 2) hx hb dX6_copy_37 (by decide) ?_
      refine lv_icmp_eq (tgt := 86) hx hb dX6_copy_38 (by decide) (fun k38 => ?_) (fun k38 => ?_)
      · have h := itt k38 h
        exact J86 _ h _ _ _ hw (lv_sub hl [0] rfl)
      · have h := itf k38 h
        refine lv_aload_n hx hb dX6_copy_41 rfl (lv_at hl 0 rfl) ?_
        refine RM_g_shelf X hw 0 rfl kf_X6_7 dX6_copy_42 ?_
        refine lv_iload_n hx hb dX6_copy_45 rfl (lv_at hl 2 rfl) ?_
        obtain ⟨q46, h⟩ := chk h
        refine RM_l_shelf X hw 0 rfl q46 dX6_copy_46 ?_
        refine lv_iconst (v := 2) hx hb dX6_copy_47 (by decide) ?_
        refine lv_icmp_eq (tgt := 86) hx hb dX6_copy_48 (by decide) (fun k48 => ?_) (fun k48 => ?_)
        · have h := itt k48 h
          exact J86 _ h _ _ _ hw (lv_sub hl [0] rfl)
        · have h := itf k48 h
          refine lv_aload_n hx hb dX6_copy_51 rfl (lv_at hl 0 rfl) ?_
          refine RM_g_shelf X hw 0 rfl kf_X6_7 dX6_copy_52 ?_
          refine lv_iload_n hx hb dX6_copy_55 rfl (lv_at hl 1 rfl) ?_
          obtain ⟨q56, h⟩ := chk h
          refine RM_l_shelf X hw 0 rfl q56 dX6_copy_56 ?_
          refine lv_iconst (v := 1) hx hb dX6_copy_57 (by decide) ?_
          refine lv_icmp_ne (tgt := 93) hx hb dX6_copy_58 (by decide) (fun k58 => ?_) (fun k58 => ?_)
          · have h := itt k58 h
            exact J93 _ h _ _ _ hw (lv_sub hl [0, 1, 2, 3, 4, 5] rfl)
          · have h := itf (fun z => z k58) h
            refine lv_aload_n hx hb dX6_copy_61 rfl (lv_at hl 0 rfl) ?_
            refine RM_g_shelf X hw 0 rfl kf_X6_7 dX6_copy_62 ?_
            refine lv_iload_n hx hb dX6_copy_65 rfl (lv_at hl 2 rfl) ?_
            obtain ⟨q66, h⟩ := chk h
            refine RM_l_shelf X hw 0 rfl q66 dX6_copy_66 ?_
            refine lv_iconst (v := 1) hx hb dX6_copy_67 (by decide) ?_
            refine lv_icmp_ne (tgt := 93) hx hb dX6_copy_68 (by decide) (fun k68 => ?_) (fun k68 => ?_)
            · have h := itt k68 h
              exact J93 _ h _ _ _ hw (lv_sub hl [0, 1, 2, 3, 4, 5] rfl)
            · have h := itf (fun z => z k68) h
              refine lv_aload_n hx hb dX6_copy_71 rfl (lv_at hl 0 rfl) ?_
              refine RM_g_rowSort X hw 0 rfl kf_X6_13 dX6_copy_72 ?_
              refine lv_iload_n hx hb dX6_copy_75 rfl (lv_at hl 1 rfl) ?_
              obtain ⟨q76, h⟩ := chk h
              refine RM_l_rowSort X hw 0 rfl q76 dX6_copy_76 ?_
              refine lv_aload_n hx hb dX6_copy_77 rfl (lv_at hl 0 rfl) ?_
              refine RM_g_rowSort X hw 0 rfl kf_X6_13 dX6_copy_78 ?_
              refine lv_iload_n hx hb dX6_copy_81 rfl (lv_at hl 2 rfl) ?_
              obtain ⟨q82, h⟩ := chk h
              refine RM_l_rowSort X hw 0 rfl q82 dX6_copy_82 ?_
              refine lv_icmp_eq (tgt := 93) hx hb dX6_copy_83 (by decide) (fun k83 => ?_) (fun k83 => ?_)
              · have h := itt k83 h
                exact J93 _ h _ _ _ hw (lv_sub hl [0, 1, 2, 3, 4, 5] rfl)
              · have h := itf k83 h
                exact J86 _ h _ _ _ hw (lv_sub hl [0] rfl)
    · have h := itf (fun z => z k21) h
      exact J24 _ h _ _ _ hw (lv_sub hl [0] rfl)
theorem kM_X6_element : kM yX6_element cX6_element 3 (some FieldType.long) 2 := ⟨kc_X6_element, kn_RingsOffModel, by decide +kernel⟩
abbrev R_X6_element : Room := { frames := 1, cells := 0, slots := 0, locals := 25 }
set_option maxHeartbeats 4000000 in
set_option maxRecDepth 100000 in
theorem c_X6_element (l : Launch) {ad : Nat → Nat} {eK : Option Nat} {eT : Option Nat} {N : Nat} {rm : RM} {p1 : Int32} {p2 : Int32} {out : Int64} (h : M_X6_element N rm p1 p2 = some out) : gM l yX6_element cX6_element 3 (some FieldType.long) R_X6_element (fun _ => [.ref (ad 0), .int p1, .int p2]) (fun g => [wRM g ad eK eT rm]) (gQl (fun (_ : Unit) => out) (fun g (_ : Unit) => [wRM g ad eK eT rm])) := by
  refine gM.ofl (by decide +kernel) (fun _ => Nat.le_of_ble_eq_true rfl) (fun g p e s m args below meth c A ls Q X hret hw hl => ?_)
  have hx := X.1.1
  have hb := X.1.2.1
  have hl : lv_has ls 3 [(0, .ref (ad 0)), (1, .int p1), (2, .int p2)] := hl
  unfold M_X6_element at h
  refine lv_iload_n hx hb dX6_element_0 rfl (lv_at hl 1 rfl) ?_
  refine lv_i2l (v := p1.toInt64) hx hb dX6_element_1 rfl ?_
  refine lv_lconst (v := 0) hx hb dX6_element_2 (by decide) ?_
  refine lv_ldc2 hx hb X.1.2.2.2.1 (gK1 X _ kq_X6_90) dX6_element_3 ?_
  obtain ⟨r6, h6, h⟩ := bnd h
  refine g_calli0 (isC := []) (gn := fun _ => [wRM g ad eK eT rm]) (g_runS (isC := []) (rest := []) (As := [.long p1.toInt64, .long (0 : Int64), .long (7 : Int64)]) X hw (c_X6_in l h6) rfl kM_X6_in kt_X6_in km_X6_82 ⟨(Nat.le_of_ble_eq_true rfl), (Nat.le_of_ble_eq_true rfl)⟩ ⟨(Nat.le_of_ble_eq_true rfl), (Nat.le_of_ble_eq_true rfl)⟩ rfl rfl rfl hl.1 rfl (Nat.le_of_ble_eq_true rfl) dX6_element_6) hw rfl rfl (fun _ => (Nat.le_of_ble_eq_true rfl)) (fun _ => rfl) rfl rfl (fun _ H locs hw => ?_)
  refine lv_if_eq (tgt := 51) hx hb dX6_element_9 (by decide) (fun k9 => ?_) (fun k9 => ?_)
  · have h := itt k9 h
    refine lv_lconst (v := 0) hx hb dX6_element_51 (by decide) ?_
    have h := Option.some.inj h
    subst h
    exact hret () dX6_element_52 rfl hw
  · have h := itf k9 h
    refine lv_aload_n hx hb dX6_element_12 rfl (lv_at hl 0 rfl) ?_
    refine RM_g_shelf X hw 0 rfl kf_X6_7 dX6_element_13 ?_
    refine lv_iload_n hx hb dX6_element_16 rfl (lv_at hl 1 rfl) ?_
    obtain ⟨q17, h⟩ := chk h
    refine RM_l_shelf X hw 0 rfl q17 dX6_element_17 ?_
    refine lv_iconst (v := 1) hx hb dX6_element_18 (by decide) ?_
    refine lv_icmp_ne (tgt := 51) hx hb dX6_element_19 (by decide) (fun k19 => ?_) (fun k19 => ?_)
    · have h := itt k19 h
      refine lv_lconst (v := 0) hx hb dX6_element_51 (by decide) ?_
      have h := Option.some.inj h
      subst h
      exact hret () dX6_element_52 rfl hw
    · have h := itf (fun z => z k19) h
      refine lv_iload_n hx hb dX6_element_22 rfl (lv_at hl 2 rfl) ?_
      refine lv_i2l (v := p2.toInt64) hx hb dX6_element_23 rfl ?_
      refine lv_lconst (v := 0) hx hb dX6_element_24 (by decide) ?_
      refine lv_aload_n hx hb dX6_element_25 rfl (lv_at hl 0 rfl) ?_
      refine RM_g_rowSize X hw 0 rfl kf_X6_16 dX6_element_26 ?_
      refine lv_iload_n hx hb dX6_element_29 rfl (lv_at hl 1 rfl) ?_
      obtain ⟨q30, h⟩ := chk h
      refine RM_l_rowSize X hw 0 rfl q30 dX6_element_30 ?_
      refine lv_iconst (v := 1) hx hb dX6_element_31 (by decide) ?_
      refine lv_isub hx hb dX6_element_32 ?_
      refine lv_i2l (v := ((RM_rowSize rm p1.toNatClampNeg) - (1 : Int32)).toInt64) hx hb dX6_element_33 rfl ?_
      obtain ⟨r34, h34, h⟩ := bnd h
      refine g_calli0 (isC := []) (gn := fun _ => [wRM g ad eK eT rm]) (g_runS (isC := []) (rest := []) (As := [.long p2.toInt64, .long (0 : Int64), .long ((RM_rowSize rm p1.toNatClampNeg) - (1 : Int32)).toInt64]) X hw (c_X6_in l h34) rfl kM_X6_in kt_X6_in km_X6_82 ⟨(Nat.le_of_ble_eq_true rfl), (Nat.le_of_ble_eq_true rfl)⟩ ⟨(Nat.le_of_ble_eq_true rfl), (Nat.le_of_ble_eq_true rfl)⟩ rfl rfl rfl hl.1 rfl (Nat.le_of_ble_eq_true rfl) dX6_element_34) hw rfl rfl (fun _ => (Nat.le_of_ble_eq_true rfl)) (fun _ => rfl) rfl rfl (fun _ H locs hw => ?_)
      refine lv_if_eq (tgt := 51) hx hb dX6_element_37 (by decide) (fun k37 => ?_) (fun k37 => ?_)
      · have h := itt k37 h
        refine lv_lconst (v := 0) hx hb dX6_element_51 (by decide) ?_
        have h := Option.some.inj h
        subst h
        exact hret () dX6_element_52 rfl hw
      · have h := itf k37 h
        refine lv_aload_n hx hb dX6_element_40 rfl (lv_at hl 0 rfl) ?_
        refine RM_g_rows X hw 0 rfl kf_X6_21 dX6_element_41 ?_
        refine lv_iload_n hx hb dX6_element_44 rfl (lv_at hl 1 rfl) ?_
        obtain ⟨q45, h⟩ := chk h
        have o45 := Nat.not_le.mp (fun z => q45 (Or.inr z))
        refine RM_q_rows X hw 0 rfl q45 dX6_element_45 ?_
        refine lv_iload_n hx hb dX6_element_46 rfl (lv_at hl 2 rfl) ?_
        obtain ⟨q47, h⟩ := chk h
        refine RM_l_rows X hw 0 rfl o45 q47 dX6_element_47 ?_
        refine lv_goto (tgt := 52) hx hb dX6_element_48 (by decide) ?_
        have h := Option.some.inj h
        subst h
        exact hret () dX6_element_52 rfl hw
theorem kM_X6_holds : kM yX6_holds cX6_holds 2 (some FieldType.int) 1 := ⟨kc_X6_holds, kn_RingsOffModel, by decide +kernel⟩
abbrev R_X6_holds : Room := { frames := 1, cells := 0, slots := 0, locals := 25 }
set_option maxHeartbeats 4000000 in
set_option maxRecDepth 100000 in
theorem c_X6_holds (l : Launch) {ad : Nat → Nat} {eK : Option Nat} {eT : Option Nat} {N : Nat} {rm : RM} {p1 : Int32} {out : Int32} (h : M_X6_holds N rm p1 = some out) : gM l yX6_holds cX6_holds 2 (some FieldType.int) R_X6_holds (fun _ => [.ref (ad 0), .int p1]) (fun g => [wRM g ad eK eT rm]) (gQi (fun (_ : Unit) => out) (fun g (_ : Unit) => [wRM g ad eK eT rm])) := by
  refine gM.ofi (by decide +kernel) (fun _ => Nat.le_of_ble_eq_true rfl) (fun g p e s m args below meth c A ls Q X hret hw hl => ?_)
  have hx := X.1.1
  have hb := X.1.2.1
  have hl : lv_has ls 2 [(0, .ref (ad 0)), (1, .int p1)] := hl
  unfold M_X6_holds at h
  refine lv_iload_n hx hb dX6_holds_0 rfl (lv_at hl 1 rfl) ?_
  refine lv_i2l (v := p1.toInt64) hx hb dX6_holds_1 rfl ?_
  refine lv_lconst (v := 0) hx hb dX6_holds_2 (by decide) ?_
  refine lv_ldc2 hx hb X.1.2.2.2.1 (gK1 X _ kq_X6_90) dX6_holds_3 ?_
  obtain ⟨r6, h6, h⟩ := bnd h
  refine g_calli0 (isC := []) (gn := fun _ => [wRM g ad eK eT rm]) (g_runS (isC := []) (rest := []) (As := [.long p1.toInt64, .long (0 : Int64), .long (7 : Int64)]) X hw (c_X6_in l h6) rfl kM_X6_in kt_X6_in km_X6_82 ⟨(Nat.le_of_ble_eq_true rfl), (Nat.le_of_ble_eq_true rfl)⟩ ⟨(Nat.le_of_ble_eq_true rfl), (Nat.le_of_ble_eq_true rfl)⟩ rfl rfl rfl hl.1 rfl (Nat.le_of_ble_eq_true rfl) dX6_holds_6) hw rfl rfl (fun _ => (Nat.le_of_ble_eq_true rfl)) (fun _ => rfl) rfl rfl (fun _ H locs hw => ?_)
  refine lv_if_eq (tgt := 21) hx hb dX6_holds_9 (by decide) (fun k9 => ?_) (fun k9 => ?_)
  · have h := itt k9 h
    refine lv_iconst (v := -1) hx hb dX6_holds_21 (by decide) ?_
    have h := Option.some.inj h
    subst h
    exact hret () dX6_holds_22 rfl hw
  · have h := itf k9 h
    refine lv_aload_n hx hb dX6_holds_12 rfl (lv_at hl 0 rfl) ?_
    refine RM_g_shelf X hw 0 rfl kf_X6_7 dX6_holds_13 ?_
    refine lv_iload_n hx hb dX6_holds_16 rfl (lv_at hl 1 rfl) ?_
    obtain ⟨q17, h⟩ := chk h
    refine RM_l_shelf X hw 0 rfl q17 dX6_holds_17 ?_
    refine lv_if_ne (tgt := 23) hx hb dX6_holds_18 (by decide) (fun k18 => ?_) (fun k18 => ?_)
    · have h := itt k18 h
      refine lv_aload_n hx hb dX6_holds_23 rfl (lv_at hl 0 rfl) ?_
      refine RM_g_shelf X hw 0 rfl kf_X6_7 dX6_holds_24 ?_
      refine lv_iload_n hx hb dX6_holds_27 rfl (lv_at hl 1 rfl) ?_
      obtain ⟨q28, h⟩ := chk h
      refine RM_l_shelf X hw 0 rfl q28 dX6_holds_28 ?_
      refine lv_iconst (v := 1) hx hb dX6_holds_29 (by decide) ?_
      refine lv_icmp_ne (tgt := 42) hx hb dX6_holds_30 (by decide) (fun k30 => ?_) (fun k30 => ?_)
      · have h := itt k30 h
        refine lv_bipush (v := 10) hx hb dX6_holds_42 (by decide) ?_
        refine lv_aload_n hx hb dX6_holds_44 rfl (lv_at hl 0 rfl) ?_
        refine RM_g_shown X hw 0 rfl kf_X6_28 dX6_holds_45 ?_
        refine lv_iload_n hx hb dX6_holds_48 rfl (lv_at hl 1 rfl) ?_
        obtain ⟨q49, h⟩ := chk h
        refine RM_l_shown X hw 0 rfl q49 dX6_holds_49 ?_
        refine lv_iadd hx hb dX6_holds_50 ?_
        have h := Option.some.inj h
        subst h
        exact hret () dX6_holds_51 rfl hw
      · have h := itf (fun z => z k30) h
        refine lv_aload_n hx hb dX6_holds_33 rfl (lv_at hl 0 rfl) ?_
        refine RM_g_rowSort X hw 0 rfl kf_X6_13 dX6_holds_34 ?_
        refine lv_iload_n hx hb dX6_holds_37 rfl (lv_at hl 1 rfl) ?_
        obtain ⟨q38, h⟩ := chk h
        refine RM_l_rowSort X hw 0 rfl q38 dX6_holds_38 ?_
        refine lv_goto (tgt := 51) hx hb dX6_holds_39 (by decide) ?_
        have h := Option.some.inj h
        subst h
        exact hret () dX6_holds_51 rfl hw
    · have h := itf (fun z => z k18) h
      refine lv_iconst (v := -1) hx hb dX6_holds_21 (by decide) ?_
      have h := Option.some.inj h
      subst h
      exact hret () dX6_holds_22 rfl hw
theorem kM_X6_show : kM yX6_show cX6_show 3 (some FieldType.int) 2 := ⟨kc_X6_show, kn_RingsOffModel, by decide +kernel⟩
abbrev R_X6_show : Room := { frames := 2, cells := 0, slots := 0, locals := 46 }
set_option maxHeartbeats 4000000 in
set_option maxRecDepth 100000 in
theorem c_X6_show (l : Launch) {ad : Nat → Nat} {eK : Option Nat} {eT : Option Nat} {N : Nat} {rm : RM} {p1 : Int32} {p2 : Int32} {out : Int32 × RM} (h : M_X6_show N rm p1 p2 = some out) : gM l yX6_show cX6_show 3 (some FieldType.int) R_X6_show (fun _ => [.ref (ad 0), .int p1, .int p2]) (fun g => [wRM g ad eK eT rm]) (gQi (fun (_ : Unit) => out.1) (fun g (_ : Unit) => [wRM g ad eK eT out.2])) := by
  refine gM.ofi (by decide +kernel) (fun _ => Nat.le_of_ble_eq_true rfl) (fun g p e s m args below meth c A ls Q X hret hw hl => ?_)
  have hx := X.1.1
  have hb := X.1.2.1
  have hl : lv_has ls 3 [(0, .ref (ad 0)), (1, .int p1), (2, .int p2)] := hl
  have J47 : ∀ (z47 : RM × Int32 × Int32), M_X6_show_j47 N p1 p2 z47 = some out → ∀ (H : Heap) (locs : List Loc) (ls : Array Slot), gW g A s.heap [wRM g ad eK eT z47.1] H locs → lv_has ls 3 [(0, .ref (ad 0)), (1, .int p1), (2, .int p2)] → W p l e R_X6_show s m args below meth c H locs 0 0 Q (F0 m 47 ls [.int z47.2.2, .int z47.2.1, .ref (ad 1)]) := by
    intro z47 h H locs ls hw hl
    unfold M_X6_show_j47 at h
    obtain ⟨q47, h⟩ := chk h
    refine RM_a_shelf (gs' := [wRM g ad eK eT (RM_s_shelf z47.1 (upd (RM_shelf z47.1) z47.2.1.toNatClampNeg z47.2.2))]) X hw 0 rfl q47 dX6_show_47 rfl (fun H locs hw => ?_)
    refine lv_aload_n hx hb dX6_show_48 rfl (lv_at hl 0 rfl) ?_
    refine RM_g_shown X hw 0 rfl kf_X6_28 dX6_show_49 ?_
    refine lv_iload_n hx hb dX6_show_52 rfl (lv_at hl 1 rfl) ?_
    refine lv_iload_n hx hb dX6_show_53 rfl (lv_at hl 2 rfl) ?_
    obtain ⟨q54, h⟩ := chk h
    refine RM_a_shown (gs' := [wRM g ad eK eT (RM_s_shown (RM_s_shelf z47.1 (upd (RM_shelf z47.1) z47.2.1.toNatClampNeg z47.2.2)) (upd (RM_shown (RM_s_shelf z47.1 (upd (RM_shelf z47.1) z47.2.1.toNatClampNeg z47.2.2))) p1.toNatClampNeg p2))]) X hw 0 rfl q54 dX6_show_54 rfl (fun H locs hw => ?_)
    refine lv_iconst (v := 1) hx hb dX6_show_55 (by decide) ?_
    have h := Option.some.inj h
    subst h
    exact hret () dX6_show_56 rfl hw
  have J32 : ∀ (z32 : RM), M_X6_show_j32 N p1 p2 z32 = some out → ∀ (H : Heap) (locs : List Loc) (ls : Array Slot), gW g A s.heap [wRM g ad eK eT z32] H locs → lv_has ls 3 [(0, .ref (ad 0)), (1, .int p1), (2, .int p2)] → W p l e R_X6_show s m args below meth c H locs 0 0 Q (F0 m 32 ls []) := by
    intro z32 h H locs ls hw hl
    unfold M_X6_show_j32 at h
    refine lv_aload_n hx hb dX6_show_32 rfl (lv_at hl 0 rfl) ?_
    refine RM_g_shelf X hw 0 rfl kf_X6_7 dX6_show_33 ?_
    refine lv_iload_n hx hb dX6_show_36 rfl (lv_at hl 1 rfl) ?_
    refine lv_iload_n hx hb dX6_show_37 rfl (lv_at hl 2 rfl) ?_
    refine lv_iconst (v := -1) hx hb dX6_show_38 (by decide) ?_
    refine lv_icmp_ne (tgt := 46) hx hb dX6_show_39 (by decide) (fun k39 => ?_) (fun k39 => ?_)
    · have h := itt k39 h
      refine lv_iconst (v := 2) hx hb dX6_show_46 (by decide) ?_
      exact J47 _ h _ _ _ hw (lv_sub hl [0, 1, 2] rfl)
    · have h := itf (fun z => z k39) h
      refine lv_iconst (v := 0) hx hb dX6_show_42 (by decide) ?_
      refine lv_goto (tgt := 47) hx hb dX6_show_43 (by decide) ?_
      exact J47 _ h _ _ _ hw (lv_sub hl [0, 1, 2] rfl)
  have J25 : ∀ (z25 : RM), M_X6_show_j25 N p1 p2 z25 = some out → ∀ (H : Heap) (locs : List Loc) (ls : Array Slot), gW g A s.heap [wRM g ad eK eT z25] H locs → lv_has ls 3 [(0, .ref (ad 0))] → W p l e R_X6_show s m args below meth c H locs 0 0 Q (F0 m 25 ls []) := by
    intro z25 h H locs ls hw hl
    unfold M_X6_show_j25 at h
    refine lv_aload_n hx hb dX6_show_25 rfl (lv_at hl 0 rfl) ?_
    refine lv_bipush (v := -2) hx hb dX6_show_26 (by decide) ?_
    obtain ⟨r28, h28, h⟩ := bnd h
    refine g_calli0 (isC := [0]) (gn := fun _ => [wRM g ad eK eT r28.2]) (g_runV (isC := [0]) (rest := []) (As := [.int (-2 : Int32)]) X hw (c_X6_refuse l (ad := ad) (eK := eK) (eT := eT) h28) rfl kM_X6_refuse ki_X6_refuse ks_X6_refuse km_X6_96 ⟨(Nat.le_of_ble_eq_true rfl), (Nat.le_of_ble_eq_true rfl)⟩ ⟨(Nat.le_of_ble_eq_true rfl), (Nat.le_of_ble_eq_true rfl)⟩ rfl rfl ⟨_, _, _, _, rfl, rfl, rfl, rfl⟩ rfl hl.1 rfl (Nat.le_of_ble_eq_true rfl) dX6_show_28) hw rfl rfl (fun _ => (Nat.le_of_ble_eq_true rfl)) (fun _ => rfl) rfl rfl (fun _ H locs hw => ?_)
    have h := Option.some.inj h
    subst h
    exact hret () dX6_show_31 rfl hw
  unfold M_X6_show at h
  refine lv_iload_n hx hb dX6_show_0 rfl (lv_at hl 1 rfl) ?_
  refine lv_i2l (v := p1.toInt64) hx hb dX6_show_1 rfl ?_
  refine lv_lconst (v := 0) hx hb dX6_show_2 (by decide) ?_
  refine lv_ldc2 hx hb X.1.2.2.2.1 (gK1 X _ kq_X6_90) dX6_show_3 ?_
  obtain ⟨r6, h6, h⟩ := bnd h
  refine g_calli0 (isC := []) (gn := fun _ => [wRM g ad eK eT rm]) (g_runS (isC := []) (rest := []) (As := [.long p1.toInt64, .long (0 : Int64), .long (7 : Int64)]) X hw (c_X6_in l h6) rfl kM_X6_in kt_X6_in km_X6_82 ⟨(Nat.le_of_ble_eq_true rfl), (Nat.le_of_ble_eq_true rfl)⟩ ⟨(Nat.le_of_ble_eq_true rfl), (Nat.le_of_ble_eq_true rfl)⟩ rfl rfl rfl hl.1 rfl (Nat.le_of_ble_eq_true rfl) dX6_show_6) hw rfl rfl (fun _ => (Nat.le_of_ble_eq_true rfl)) (fun _ => rfl) rfl rfl (fun _ H locs hw => ?_)
  refine lv_if_eq (tgt := 25) hx hb dX6_show_9 (by decide) (fun k9 => ?_) (fun k9 => ?_)
  · have h := itt k9 h
    exact J25 _ h _ _ _ hw (lv_sub hl [0] rfl)
  · have h := itf k9 h
    refine lv_iload_n hx hb dX6_show_12 rfl (lv_at hl 2 rfl) ?_
    refine lv_iconst (v := -1) hx hb dX6_show_13 (by decide) ?_
    refine lv_icmp_eq (tgt := 32) hx hb dX6_show_14 (by decide) (fun k14 => ?_) (fun k14 => ?_)
    · have h := itt k14 h
      exact J32 _ h _ _ _ hw (lv_sub hl [0, 1, 2] rfl)
    · have h := itf k14 h
      refine lv_aload_n hx hb dX6_show_17 rfl (lv_at hl 0 rfl) ?_
      refine lv_iload_n hx hb dX6_show_18 rfl (lv_at hl 2 rfl) ?_
      obtain ⟨r19, h19, h⟩ := bnd h
      refine g_calli0 (isC := [0]) (gn := fun _ => [wRM g ad eK eT rm]) (g_runV (isC := [0]) (rest := []) (As := [.int p2]) X hw (c_X6_isBar l (ad := ad) (eK := eK) (eT := eT) h19) rfl kM_X6_isBar ki_X6_isBar ks_X6_isBar km_X6_106 ⟨(Nat.le_of_ble_eq_true rfl), (Nat.le_of_ble_eq_true rfl)⟩ ⟨(Nat.le_of_ble_eq_true rfl), (Nat.le_of_ble_eq_true rfl)⟩ rfl rfl ⟨_, _, _, _, rfl, rfl, rfl, rfl⟩ rfl hl.1 rfl (Nat.le_of_ble_eq_true rfl) dX6_show_19) hw rfl rfl (fun _ => (Nat.le_of_ble_eq_true rfl)) (fun _ => rfl) rfl rfl (fun _ H locs hw => ?_)
      refine lv_if_ne (tgt := 32) hx hb dX6_show_22 (by decide) (fun k22 => ?_) (fun k22 => ?_)
      · have h := itt k22 h
        exact J32 _ h _ _ _ hw (lv_sub hl [0, 1, 2] rfl)
      · have h := itf (fun z => z k22) h
        exact J25 _ h _ _ _ hw (lv_sub hl [0] rfl)
theorem kM_X6_shelvesFollow : kM yX6_shelvesFollow cX6_shelvesFollow 2 (none : Option Jvm.ClassFile.FieldType) 0 := ⟨kc_X6_shelvesFollow, kn_RingsOffModel, by decide +kernel⟩
abbrev R_X6_shelvesFollow : Room := { frames := 0, cells := 0, slots := 0, locals := 0 }
set_option maxHeartbeats 4000000 in
set_option maxRecDepth 100000 in
theorem c_X6_shelvesFollow (l : Launch) {ad : Nat → Nat} {eK : Option Nat} {eT : Option Nat} {N : Nat} {rm : RM} {out : RM} (h : M_X6_shelvesFollow N rm = some out) : gM l yX6_shelvesFollow cX6_shelvesFollow 2 (none : Option Jvm.ClassFile.FieldType) R_X6_shelvesFollow (fun _ => [.ref (ad 0)]) (fun g => [wRM g ad eK eT rm]) (gQv (fun g (_ : Unit) => [wRM g ad eK eT out])) := by
  refine gM.ofv (by decide +kernel) (fun _ => Nat.le_of_ble_eq_true rfl) (fun g p e s m args below meth c A ls Q X hret hw hl => ?_)
  have hx := X.1.1
  have hb := X.1.2.1
  have hl : lv_has ls 2 [(0, .ref (ad 0))] := hl
  have L2 : ∀ (n : Nat) (z2 : RM × Int32), lp (M_X6_shelvesFollow_l2 N) n z2 = some out → ∀ (H : Heap) (locs : List Loc) (ls : Array Slot), gW g A s.heap [wRM g ad eK eT z2.1] H locs → lv_has ls 2 [(0, .ref (ad 0)), (1, .int z2.2)] → W p l e R_X6_shelvesFollow s m args below meth c H locs 0 0 Q (F0 m 2 ls []) := by
    refine lp_ind ?_
    intro rec2 ih2
    have J38 : ∀ (z38 : RM × Int32), M_X6_shelvesFollow_j38 N rec2 z38 = some out → ∀ (H : Heap) (locs : List Loc) (ls : Array Slot), gW g A s.heap [wRM g ad eK eT z38.1] H locs → lv_has ls 2 [(0, .ref (ad 0)), (1, .int z38.2)] → W p l e R_X6_shelvesFollow s m args below meth c H locs 0 0 Q (F0 m 38 ls []) := by
      intro z38 h H locs ls hw hl
      unfold M_X6_shelvesFollow_j38 at h
      refine lv_iinc (v := (z38.2 + 1)) (lv' := [(1, .int (z38.2 + 1)), (0, .ref (ad 0))]) hx hb dX6_shelvesFollow_38 hl (k := 1) rfl rfl (by decide) rfl (fun ls hl => ?_)
      refine lv_goto (tgt := 2) hx hb dX6_shelvesFollow_41 (by decide) ?_
      exact ih2 _ h _ _ _ hw (lv_sub hl [1, 0] rfl)
    intro z2 h H locs ls hw hl
    unfold M_X6_shelvesFollow_l2 at h
    refine lv_iload_n hx hb dX6_shelvesFollow_2 rfl (lv_at hl 1 rfl) ?_
    refine lv_bipush (v := 8) hx hb dX6_shelvesFollow_3 (by decide) ?_
    refine lv_icmp_ge (tgt := 44) hx hb dX6_shelvesFollow_5 (by decide) (fun k5 => ?_) (fun k5 => ?_)
    · have h := itt k5 h
      have h := Option.some.inj h
      subst h
      exact hret () dX6_shelvesFollow_44 hw
    · have h := itf k5 h
      refine lv_aload_n hx hb dX6_shelvesFollow_8 rfl (lv_at hl 0 rfl) ?_
      refine RM_g_shelf X hw 0 rfl kf_X6_7 dX6_shelvesFollow_9 ?_
      refine lv_iload_n hx hb dX6_shelvesFollow_12 rfl (lv_at hl 1 rfl) ?_
      obtain ⟨q13, h⟩ := chk h
      refine RM_l_shelf X hw 0 rfl q13 dX6_shelvesFollow_13 ?_
      refine lv_iconst (v := 2) hx hb dX6_shelvesFollow_14 (by decide) ?_
      refine lv_icmp_ne (tgt := 38) hx hb dX6_shelvesFollow_15 (by decide) (fun k15 => ?_) (fun k15 => ?_)
      · have h := itt k15 h
        exact J38 _ h _ _ _ hw (lv_sub hl [0, 1] rfl)
      · have h := itf (fun z => z k15) h
        refine lv_aload_n hx hb dX6_shelvesFollow_18 rfl (lv_at hl 0 rfl) ?_
        refine RM_g_shown X hw 0 rfl kf_X6_28 dX6_shelvesFollow_19 ?_
        refine lv_iload_n hx hb dX6_shelvesFollow_22 rfl (lv_at hl 1 rfl) ?_
        obtain ⟨q23, h⟩ := chk h
        refine RM_l_shown X hw 0 rfl q23 dX6_shelvesFollow_23 ?_
        refine lv_aload_n hx hb dX6_shelvesFollow_24 rfl (lv_at hl 0 rfl) ?_
        refine RM_g_bars X hw 0 rfl kf_X6_79 dX6_shelvesFollow_25 ?_
        refine lv_icmp_lt (tgt := 38) hx hb dX6_shelvesFollow_28 (by decide) (fun k28 => ?_) (fun k28 => ?_)
        · have h := itt k28 h
          exact J38 _ h _ _ _ hw (lv_sub hl [0, 1] rfl)
        · have h := itf k28 h
          refine lv_aload_n hx hb dX6_shelvesFollow_31 rfl (lv_at hl 0 rfl) ?_
          refine RM_g_shelf X hw 0 rfl kf_X6_7 dX6_shelvesFollow_32 ?_
          refine lv_iload_n hx hb dX6_shelvesFollow_35 rfl (lv_at hl 1 rfl) ?_
          refine lv_iconst (v := 0) hx hb dX6_shelvesFollow_36 (by decide) ?_
          obtain ⟨q37, h⟩ := chk h
          refine RM_a_shelf (gs' := [wRM g ad eK eT (RM_s_shelf z2.1 (upd (RM_shelf z2.1) z2.2.toNatClampNeg (0 : Int32)))]) X hw 0 rfl q37 dX6_shelvesFollow_37 rfl (fun H locs hw => ?_)
          exact J38 _ h _ _ _ hw (lv_sub hl [0, 1] rfl)
  unfold M_X6_shelvesFollow at h
  refine lv_iconst (v := 0) hx hb dX6_shelvesFollow_0 (by decide) ?_
  refine lv_istore_n (lv' := [(1, .int (0 : Int32)), (0, .ref (ad 0))]) hx hb dX6_shelvesFollow_1 rfl hl (by decide) rfl (fun ls hl => ?_)
  exact L2 N _ h _ _ _ hw (lv_sub hl [1, 0] rfl)
theorem kM_X6_isUnder : kM yX6_isUnder cX6_isUnder 2 (some FieldType.boolean) 2 := ⟨kc_X6_isUnder, kn_RingsOffModel, by decide +kernel⟩
abbrev R_X6_isUnder : Room := { frames := 0, cells := 0, slots := 0, locals := 0 }
set_option maxHeartbeats 4000000 in
set_option maxRecDepth 100000 in
theorem c_X6_isUnder (l : Launch) {N : Nat} {p1 : Int32} {p2 : Int32} {out : Int32} (h : M_X6_isUnder N p1 p2 = some out) : gM l yX6_isUnder cX6_isUnder 2 (some FieldType.boolean) R_X6_isUnder (fun _ => [.int p1, .int p2]) (fun g => []) (gQi (fun (_ : Unit) => out) (fun g (_ : Unit) => [])) := by
  refine gM.ofz (by decide +kernel) (fun _ => Nat.le_of_ble_eq_true rfl) (fun g p e s m args below meth c A ls Q X hret hw hl => ?_)
  have hx := X.1.1
  have hb := X.1.2.1
  have hl : lv_has ls 2 [(0, .int p1), (1, .int p2)] := hl
  unfold M_X6_isUnder at h
  refine lv_iload_n hx hb dX6_isUnder_0 rfl (lv_at hl 1 rfl) ?_
  refine lv_if_eq (tgt := 24) hx hb dX6_isUnder_1 (by decide) (fun k1 => ?_) (fun k1 => ?_)
  · have h := itt k1 h
    refine lv_iconst (v := 1) hx hb dX6_isUnder_24 (by decide) ?_
    refine lv_goto (tgt := 29) hx hb dX6_isUnder_25 (by decide) ?_
    have h := Option.some.inj h
    subst h
    exact hret () dX6_isUnder_29 (by decide) rfl hw
  · have h := itf k1 h
    refine lv_iload_n hx hb dX6_isUnder_4 rfl (lv_at hl 0 rfl) ?_
    refine lv_iload_n hx hb dX6_isUnder_5 rfl (lv_at hl 1 rfl) ?_
    refine lv_icmp_eq (tgt := 24) hx hb dX6_isUnder_6 (by decide) (fun k6 => ?_) (fun k6 => ?_)
    · have h := itt k6 h
      refine lv_iconst (v := 1) hx hb dX6_isUnder_24 (by decide) ?_
      refine lv_goto (tgt := 29) hx hb dX6_isUnder_25 (by decide) ?_
      have h := Option.some.inj h
      subst h
      exact hret () dX6_isUnder_29 (by decide) rfl hw
    · have h := itf k6 h
      refine lv_iload_n hx hb dX6_isUnder_9 rfl (lv_at hl 1 rfl) ?_
      refine lv_iconst (v := 1) hx hb dX6_isUnder_10 (by decide) ?_
      refine lv_icmp_ne (tgt := 28) hx hb dX6_isUnder_11 (by decide) (fun k11 => ?_) (fun k11 => ?_)
      · have h := itt k11 h
        refine lv_iconst (v := 0) hx hb dX6_isUnder_28 (by decide) ?_
        have h := Option.some.inj h
        subst h
        exact hret () dX6_isUnder_29 (by decide) rfl hw
      · have h := itf (fun z => z k11) h
        refine lv_iload_n hx hb dX6_isUnder_14 rfl (lv_at hl 0 rfl) ?_
        refine lv_iconst (v := 2) hx hb dX6_isUnder_15 (by decide) ?_
        refine lv_icmp_eq (tgt := 24) hx hb dX6_isUnder_16 (by decide) (fun k16 => ?_) (fun k16 => ?_)
        · have h := itt k16 h
          refine lv_iconst (v := 1) hx hb dX6_isUnder_24 (by decide) ?_
          refine lv_goto (tgt := 29) hx hb dX6_isUnder_25 (by decide) ?_
          have h := Option.some.inj h
          subst h
          exact hret () dX6_isUnder_29 (by decide) rfl hw
        · have h := itf k16 h
          refine lv_iload_n hx hb dX6_isUnder_19 rfl (lv_at hl 0 rfl) ?_
          refine lv_iconst (v := 4) hx hb dX6_isUnder_20 (by decide) ?_
          refine lv_icmp_ne (tgt := 28) hx hb dX6_isUnder_21 (by decide) (fun k21 => ?_) (fun k21 => ?_)
          · have h := itt k21 h
            refine lv_iconst (v := 0) hx hb dX6_isUnder_28 (by decide) ?_
            have h := Option.some.inj h
            subst h
            exact hret () dX6_isUnder_29 (by decide) rfl hw
          · have h := itf (fun z => z k21) h
            refine lv_iconst (v := 1) hx hb dX6_isUnder_24 (by decide) ?_
            refine lv_goto (tgt := 29) hx hb dX6_isUnder_25 (by decide) ?_
            have h := Option.some.inj h
            subst h
            exact hret () dX6_isUnder_29 (by decide) rfl hw
theorem kM_X6_addBar : kM yX6_addBar cX6_addBar 4 (none : Option Jvm.ClassFile.FieldType) 2 := ⟨kc_X6_addBar, kn_RingsOffModel, by decide +kernel⟩
abbrev R_X6_addBar : Room := { frames := 0, cells := 0, slots := 0, locals := 0 }
set_option maxHeartbeats 4000000 in
set_option maxRecDepth 100000 in
theorem c_X6_addBar (l : Launch) {ad : Nat → Nat} {eK : Option Nat} {eT : Option Nat} {N : Nat} {rm : RM} {p1 : Int32} {p2 : Int32} {out : RM} (h : M_X6_addBar N rm p1 p2 = some out) : gM l yX6_addBar cX6_addBar 4 (none : Option Jvm.ClassFile.FieldType) R_X6_addBar (fun _ => [.ref (ad 0), .int p1, .int p2]) (fun g => [wRM g ad eK eT rm]) (gQv (fun g (_ : Unit) => [wRM g ad eK eT out])) := by
  refine gM.ofv (by decide +kernel) (fun _ => Nat.le_of_ble_eq_true rfl) (fun g p e s m args below meth c A ls Q X hret hw hl => ?_)
  have hx := X.1.1
  have hb := X.1.2.1
  have hl : lv_has ls 4 [(0, .ref (ad 0)), (1, .int p1), (2, .int p2)] := hl
  have L46 : ∀ (n : Nat) (z46 : RM × Int32), lp (M_X6_addBar_l46 N p1 p2) n z46 = some out → ∀ (H : Heap) (locs : List Loc) (ls : Array Slot), gW g A s.heap [wRM g ad eK eT z46.1] H locs → lv_has ls 4 [(0, .ref (ad 0)), (3, .int z46.2)] → W p l e R_X6_addBar s m args below meth c H locs 0 0 Q (F0 m 46 ls []) := by
    refine lp_ind ?_
    intro rec46 ih46
    intro z46 h H locs ls hw hl
    unfold M_X6_addBar_l46 at h
    refine lv_iload_n hx hb dX6_addBar_46 rfl (lv_at hl 1 rfl) ?_
    refine lv_bipush (v := 10) hx hb dX6_addBar_47 (by decide) ?_
    refine lv_icmp_ge (tgt := 82) hx hb dX6_addBar_49 (by decide) (fun k49 => ?_) (fun k49 => ?_)
    · have h := itt k49 h
      refine lv_aload_n hx hb dX6_addBar_82 rfl (lv_at hl 0 rfl) ?_
      refine lv_dup hx hb dX6_addBar_83 rfl ?_
      refine RM_g_bars X hw 0 rfl kf_X6_79 dX6_addBar_84 ?_
      refine lv_iconst (v := 1) hx hb dX6_addBar_87 (by decide) ?_
      refine lv_iadd hx hb dX6_addBar_88 ?_
      refine RM_p_bars (gs' := [wRM g ad eK eT (RM_s_bars z46.1 ((RM_bars z46.1) + (1 : Int32)))]) X hw 0 rfl kf_X6_79 dX6_addBar_89 rfl (fun H locs hw => ?_)
      have h := Option.some.inj h
      subst h
      exact hret () dX6_addBar_92 hw
    · have h := itf k49 h
      refine lv_aload_n hx hb dX6_addBar_52 rfl (lv_at hl 0 rfl) ?_
      refine RM_g_must X hw 0 rfl kf_X6_51 dX6_addBar_53 ?_
      refine lv_aload_n hx hb dX6_addBar_56 rfl (lv_at hl 0 rfl) ?_
      refine RM_g_bars X hw 0 rfl kf_X6_79 dX6_addBar_57 ?_
      obtain ⟨q60, h⟩ := chk h
      have o60 := Nat.not_le.mp (fun z => q60 (Or.inr z))
      refine RM_q_must X hw 0 rfl q60 dX6_addBar_60 ?_
      refine lv_iload_n hx hb dX6_addBar_61 rfl (lv_at hl 1 rfl) ?_
      refine lv_iconst (v := 0) hx hb dX6_addBar_62 (by decide) ?_
      obtain ⟨q63, h⟩ := chk h
      refine RM_a_must (gs' := [wRM g ad eK eT (RM_s_must z46.1 (va_up (RM_must z46.1) ((RM_bars z46.1).toNatClampNeg) (upd (RM_must z46.1 ((RM_bars z46.1).toNatClampNeg)) z46.2.toNatClampNeg (0 : Int32))))]) X hw 0 rfl o60 q63 dX6_addBar_63 rfl (fun H locs hw => ?_)
      refine lv_aload_n hx hb dX6_addBar_64 rfl (lv_at hl 0 rfl) ?_
      refine RM_g_not X hw 0 rfl kf_X6_54 dX6_addBar_65 ?_
      refine lv_aload_n hx hb dX6_addBar_68 rfl (lv_at hl 0 rfl) ?_
      refine RM_g_bars X hw 0 rfl kf_X6_79 dX6_addBar_69 ?_
      obtain ⟨q72, h⟩ := chk h
      have o72 := Nat.not_le.mp (fun z => q72 (Or.inr z))
      refine RM_q_not X hw 0 rfl q72 dX6_addBar_72 ?_
      refine lv_iload_n hx hb dX6_addBar_73 rfl (lv_at hl 1 rfl) ?_
      refine lv_iconst (v := 0) hx hb dX6_addBar_74 (by decide) ?_
      obtain ⟨q75, h⟩ := chk h
      refine RM_a_not (gs' := [wRM g ad eK eT (RM_s_not (RM_s_must z46.1 (va_up (RM_must z46.1) ((RM_bars z46.1).toNatClampNeg) (upd (RM_must z46.1 ((RM_bars z46.1).toNatClampNeg)) z46.2.toNatClampNeg (0 : Int32)))) (va_up (RM_not (RM_s_must z46.1 (va_up (RM_must z46.1) ((RM_bars z46.1).toNatClampNeg) (upd (RM_must z46.1 ((RM_bars z46.1).toNatClampNeg)) z46.2.toNatClampNeg (0 : Int32))))) ((RM_bars (RM_s_must z46.1 (va_up (RM_must z46.1) ((RM_bars z46.1).toNatClampNeg) (upd (RM_must z46.1 ((RM_bars z46.1).toNatClampNeg)) z46.2.toNatClampNeg (0 : Int32))))).toNatClampNeg) (upd (RM_not (RM_s_must z46.1 (va_up (RM_must z46.1) ((RM_bars z46.1).toNatClampNeg) (upd (RM_must z46.1 ((RM_bars z46.1).toNatClampNeg)) z46.2.toNatClampNeg (0 : Int32)))) ((RM_bars (RM_s_must z46.1 (va_up (RM_must z46.1) ((RM_bars z46.1).toNatClampNeg) (upd (RM_must z46.1 ((RM_bars z46.1).toNatClampNeg)) z46.2.toNatClampNeg (0 : Int32))))).toNatClampNeg)) z46.2.toNatClampNeg (0 : Int32))))]) X hw 0 rfl o72 q75 dX6_addBar_75 rfl (fun H locs hw => ?_)
      refine lv_iinc (v := (z46.2 + 1)) (lv' := [(3, .int (z46.2 + 1)), (0, .ref (ad 0))]) hx hb dX6_addBar_76 hl (k := 1) rfl rfl (by decide) rfl (fun ls hl => ?_)
      refine lv_goto (tgt := 46) hx hb dX6_addBar_79 (by decide) ?_
      exact ih46 _ h _ _ _ hw (lv_sub hl [1, 0] rfl)
  unfold M_X6_addBar at h
  refine lv_aload_n hx hb dX6_addBar_0 rfl (lv_at hl 0 rfl) ?_
  refine RM_g_kind X hw 0 rfl kf_X6_37 dX6_addBar_1 ?_
  refine lv_aload_n hx hb dX6_addBar_4 rfl (lv_at hl 0 rfl) ?_
  refine RM_g_bars X hw 0 rfl kf_X6_79 dX6_addBar_5 ?_
  refine lv_iload_n hx hb dX6_addBar_8 rfl (lv_at hl 1 rfl) ?_
  obtain ⟨q9, h⟩ := chk h
  refine RM_a_kind (gs' := [wRM g ad eK eT (RM_s_kind rm (upd (RM_kind rm) (RM_bars rm).toNatClampNeg p1))]) X hw 0 rfl q9 dX6_addBar_9 rfl (fun H locs hw => ?_)
  refine lv_aload_n hx hb dX6_addBar_10 rfl (lv_at hl 0 rfl) ?_
  refine RM_g_size X hw 0 rfl kf_X6_40 dX6_addBar_11 ?_
  refine lv_aload_n hx hb dX6_addBar_14 rfl (lv_at hl 0 rfl) ?_
  refine RM_g_bars X hw 0 rfl kf_X6_79 dX6_addBar_15 ?_
  refine lv_iload_n hx hb dX6_addBar_18 rfl (lv_at hl 2 rfl) ?_
  obtain ⟨q19, h⟩ := chk h
  refine RM_a_size (gs' := [wRM g ad eK eT (RM_s_size (RM_s_kind rm (upd (RM_kind rm) (RM_bars rm).toNatClampNeg p1)) (upd (RM_size (RM_s_kind rm (upd (RM_kind rm) (RM_bars rm).toNatClampNeg p1))) (RM_bars (RM_s_kind rm (upd (RM_kind rm) (RM_bars rm).toNatClampNeg p1))).toNatClampNeg p2))]) X hw 0 rfl q19 dX6_addBar_19 rfl (fun H locs hw => ?_)
  refine lv_aload_n hx hb dX6_addBar_20 rfl (lv_at hl 0 rfl) ?_
  refine RM_g_on X hw 0 rfl kf_X6_43 dX6_addBar_21 ?_
  refine lv_aload_n hx hb dX6_addBar_24 rfl (lv_at hl 0 rfl) ?_
  refine RM_g_bars X hw 0 rfl kf_X6_79 dX6_addBar_25 ?_
  refine lv_iconst (v := 1) hx hb dX6_addBar_28 (by decide) ?_
  refine lv_iload_n hx hb dX6_addBar_29 rfl (lv_at hl 2 rfl) ?_
  refine lv_ishl hx hb dX6_addBar_30 ?_
  refine lv_iconst (v := 1) hx hb dX6_addBar_31 (by decide) ?_
  refine lv_isub hx hb dX6_addBar_32 ?_
  obtain ⟨q33, h⟩ := chk h
  refine RM_a_on (gs' := [wRM g ad eK eT (RM_s_on (RM_s_size (RM_s_kind rm (upd (RM_kind rm) (RM_bars rm).toNatClampNeg p1)) (upd (RM_size (RM_s_kind rm (upd (RM_kind rm) (RM_bars rm).toNatClampNeg p1))) (RM_bars (RM_s_kind rm (upd (RM_kind rm) (RM_bars rm).toNatClampNeg p1))).toNatClampNeg p2)) (upd (RM_on (RM_s_size (RM_s_kind rm (upd (RM_kind rm) (RM_bars rm).toNatClampNeg p1)) (upd (RM_size (RM_s_kind rm (upd (RM_kind rm) (RM_bars rm).toNatClampNeg p1))) (RM_bars (RM_s_kind rm (upd (RM_kind rm) (RM_bars rm).toNatClampNeg p1))).toNatClampNeg p2))) (RM_bars (RM_s_size (RM_s_kind rm (upd (RM_kind rm) (RM_bars rm).toNatClampNeg p1)) (upd (RM_size (RM_s_kind rm (upd (RM_kind rm) (RM_bars rm).toNatClampNeg p1))) (RM_bars (RM_s_kind rm (upd (RM_kind rm) (RM_bars rm).toNatClampNeg p1))).toNatClampNeg p2))).toNatClampNeg (((1 : Int32) <<< (p2 &&& 31)) - (1 : Int32))))]) X hw 0 rfl q33 dX6_addBar_33 rfl (fun H locs hw => ?_)
  refine lv_aload_n hx hb dX6_addBar_34 rfl (lv_at hl 0 rfl) ?_
  refine RM_g_stuck X hw 0 rfl kf_X6_46 dX6_addBar_35 ?_
  refine lv_aload_n hx hb dX6_addBar_38 rfl (lv_at hl 0 rfl) ?_
  refine RM_g_bars X hw 0 rfl kf_X6_79 dX6_addBar_39 ?_
  refine lv_iconst (v := 0) hx hb dX6_addBar_42 (by decide) ?_
  obtain ⟨q43, h⟩ := chk h
  refine RM_a_stuck (gs' := [wRM g ad eK eT (RM_s_stuck (RM_s_on (RM_s_size (RM_s_kind rm (upd (RM_kind rm) (RM_bars rm).toNatClampNeg p1)) (upd (RM_size (RM_s_kind rm (upd (RM_kind rm) (RM_bars rm).toNatClampNeg p1))) (RM_bars (RM_s_kind rm (upd (RM_kind rm) (RM_bars rm).toNatClampNeg p1))).toNatClampNeg p2)) (upd (RM_on (RM_s_size (RM_s_kind rm (upd (RM_kind rm) (RM_bars rm).toNatClampNeg p1)) (upd (RM_size (RM_s_kind rm (upd (RM_kind rm) (RM_bars rm).toNatClampNeg p1))) (RM_bars (RM_s_kind rm (upd (RM_kind rm) (RM_bars rm).toNatClampNeg p1))).toNatClampNeg p2))) (RM_bars (RM_s_size (RM_s_kind rm (upd (RM_kind rm) (RM_bars rm).toNatClampNeg p1)) (upd (RM_size (RM_s_kind rm (upd (RM_kind rm) (RM_bars rm).toNatClampNeg p1))) (RM_bars (RM_s_kind rm (upd (RM_kind rm) (RM_bars rm).toNatClampNeg p1))).toNatClampNeg p2))).toNatClampNeg (((1 : Int32) <<< (p2 &&& 31)) - (1 : Int32)))) (upd (RM_stuck (RM_s_on (RM_s_size (RM_s_kind rm (upd (RM_kind rm) (RM_bars rm).toNatClampNeg p1)) (upd (RM_size (RM_s_kind rm (upd (RM_kind rm) (RM_bars rm).toNatClampNeg p1))) (RM_bars (RM_s_kind rm (upd (RM_kind rm) (RM_bars rm).toNatClampNeg p1))).toNatClampNeg p2)) (upd (RM_on (RM_s_size (RM_s_kind rm (upd (RM_kind rm) (RM_bars rm).toNatClampNeg p1)) (upd (RM_size (RM_s_kind rm (upd (RM_kind rm) (RM_bars rm).toNatClampNeg p1))) (RM_bars (RM_s_kind rm (upd (RM_kind rm) (RM_bars rm).toNatClampNeg p1))).toNatClampNeg p2))) (RM_bars (RM_s_size (RM_s_kind rm (upd (RM_kind rm) (RM_bars rm).toNatClampNeg p1)) (upd (RM_size (RM_s_kind rm (upd (RM_kind rm) (RM_bars rm).toNatClampNeg p1))) (RM_bars (RM_s_kind rm (upd (RM_kind rm) (RM_bars rm).toNatClampNeg p1))).toNatClampNeg p2))).toNatClampNeg (((1 : Int32) <<< (p2 &&& 31)) - (1 : Int32))))) (RM_bars (RM_s_on (RM_s_size (RM_s_kind rm (upd (RM_kind rm) (RM_bars rm).toNatClampNeg p1)) (upd (RM_size (RM_s_kind rm (upd (RM_kind rm) (RM_bars rm).toNatClampNeg p1))) (RM_bars (RM_s_kind rm (upd (RM_kind rm) (RM_bars rm).toNatClampNeg p1))).toNatClampNeg p2)) (upd (RM_on (RM_s_size (RM_s_kind rm (upd (RM_kind rm) (RM_bars rm).toNatClampNeg p1)) (upd (RM_size (RM_s_kind rm (upd (RM_kind rm) (RM_bars rm).toNatClampNeg p1))) (RM_bars (RM_s_kind rm (upd (RM_kind rm) (RM_bars rm).toNatClampNeg p1))).toNatClampNeg p2))) (RM_bars (RM_s_size (RM_s_kind rm (upd (RM_kind rm) (RM_bars rm).toNatClampNeg p1)) (upd (RM_size (RM_s_kind rm (upd (RM_kind rm) (RM_bars rm).toNatClampNeg p1))) (RM_bars (RM_s_kind rm (upd (RM_kind rm) (RM_bars rm).toNatClampNeg p1))).toNatClampNeg p2))).toNatClampNeg (((1 : Int32) <<< (p2 &&& 31)) - (1 : Int32))))).toNatClampNeg (0 : Int32)))]) X hw 0 rfl q43 dX6_addBar_43 rfl (fun H locs hw => ?_)
  refine lv_iconst (v := 0) hx hb dX6_addBar_44 (by decide) ?_
  refine lv_istore_n (lv' := [(3, .int (0 : Int32)), (0, .ref (ad 0)), (1, .int p1), (2, .int p2)]) hx hb dX6_addBar_45 rfl hl (by decide) rfl (fun ls hl => ?_)
  exact L46 N _ h _ _ _ hw (lv_sub hl [1, 0] rfl)
theorem kM_X6_bar : kM yX6_bar cX6_bar 3 (some FieldType.int) 2 := ⟨kc_X6_bar, kn_RingsOffModel, by decide +kernel⟩
abbrev R_X6_bar : Room := { frames := 1, cells := 0, slots := 0, locals := 25 }
set_option maxHeartbeats 4000000 in
set_option maxRecDepth 100000 in
theorem c_X6_bar (l : Launch) {ad : Nat → Nat} {eK : Option Nat} {eT : Option Nat} {N : Nat} {rm : RM} {p1 : Int32} {p2 : Int32} {out : Int32 × RM} (h : M_X6_bar N rm p1 p2 = some out) : gM l yX6_bar cX6_bar 3 (some FieldType.int) R_X6_bar (fun _ => [.ref (ad 0), .int p1, .int p2]) (fun g => [wRM g ad eK eT rm]) (gQi (fun (_ : Unit) => out.1) (fun g (_ : Unit) => [wRM g ad eK eT out.2])) := by
  refine gM.ofi (by decide +kernel) (fun _ => Nat.le_of_ble_eq_true rfl) (fun g p e s m args below meth c A ls Q X hret hw hl => ?_)
  have hx := X.1.1
  have hb := X.1.2.1
  have hl : lv_has ls 3 [(0, .ref (ad 0)), (1, .int p1), (2, .int p2)] := hl
  have J24 : ∀ (z24 : RM), M_X6_bar_j24 N p1 p2 z24 = some out → ∀ (H : Heap) (locs : List Loc) (ls : Array Slot), gW g A s.heap [wRM g ad eK eT z24] H locs → lv_has ls 3 [(0, .ref (ad 0))] → W p l e R_X6_bar s m args below meth c H locs 0 0 Q (F0 m 24 ls []) := by
    intro z24 h H locs ls hw hl
    unfold M_X6_bar_j24 at h
    refine lv_aload_n hx hb dX6_bar_24 rfl (lv_at hl 0 rfl) ?_
    refine lv_bipush (v := -2) hx hb dX6_bar_25 (by decide) ?_
    obtain ⟨r27, h27, h⟩ := bnd h
    refine g_calli0 (isC := [0]) (gn := fun _ => [wRM g ad eK eT r27.2]) (g_runV (isC := [0]) (rest := []) (As := [.int (-2 : Int32)]) X hw (c_X6_refuse l (ad := ad) (eK := eK) (eT := eT) h27) rfl kM_X6_refuse ki_X6_refuse ks_X6_refuse km_X6_96 ⟨(Nat.le_of_ble_eq_true rfl), (Nat.le_of_ble_eq_true rfl)⟩ ⟨(Nat.le_of_ble_eq_true rfl), (Nat.le_of_ble_eq_true rfl)⟩ rfl rfl ⟨_, _, _, _, rfl, rfl, rfl, rfl⟩ rfl hl.1 rfl (Nat.le_of_ble_eq_true rfl) dX6_bar_27) hw rfl rfl (fun _ => (Nat.le_of_ble_eq_true rfl)) (fun _ => rfl) rfl rfl (fun _ H locs hw => ?_)
    have h := Option.some.inj h
    subst h
    exact hret () dX6_bar_30 rfl hw
  unfold M_X6_bar at h
  refine lv_iload_n hx hb dX6_bar_0 rfl (lv_at hl 1 rfl) ?_
  refine lv_i2l (v := p1.toInt64) hx hb dX6_bar_1 rfl ?_
  refine lv_lconst (v := 0) hx hb dX6_bar_2 (by decide) ?_
  refine lv_ldc2 hx hb X.1.2.2.2.1 (gK1 X _ kq_X6_110) dX6_bar_3 ?_
  obtain ⟨r6, h6, h⟩ := bnd h
  refine g_calli0 (isC := []) (gn := fun _ => [wRM g ad eK eT rm]) (g_runS (isC := []) (rest := []) (As := [.long p1.toInt64, .long (0 : Int64), .long (5 : Int64)]) X hw (c_X6_in l h6) rfl kM_X6_in kt_X6_in km_X6_82 ⟨(Nat.le_of_ble_eq_true rfl), (Nat.le_of_ble_eq_true rfl)⟩ ⟨(Nat.le_of_ble_eq_true rfl), (Nat.le_of_ble_eq_true rfl)⟩ rfl rfl rfl hl.1 rfl (Nat.le_of_ble_eq_true rfl) dX6_bar_6) hw rfl rfl (fun _ => (Nat.le_of_ble_eq_true rfl)) (fun _ => rfl) rfl rfl (fun _ H locs hw => ?_)
  refine lv_if_eq (tgt := 24) hx hb dX6_bar_9 (by decide) (fun k9 => ?_) (fun k9 => ?_)
  · have h := itt k9 h
    exact J24 _ h _ _ _ hw (lv_sub hl [0] rfl)
  · have h := itf k9 h
    refine lv_iload_n hx hb dX6_bar_12 rfl (lv_at hl 2 rfl) ?_
    refine lv_i2l (v := p2.toInt64) hx hb dX6_bar_13 rfl ?_
    refine lv_lconst (v := 1) hx hb dX6_bar_14 (by decide) ?_
    refine lv_ldc2 hx hb X.1.2.2.2.1 (gK1 X _ kq_X6_138) dX6_bar_15 ?_
    obtain ⟨r18, h18, h⟩ := bnd h
    refine g_calli0 (isC := []) (gn := fun _ => [wRM g ad eK eT rm]) (g_runS (isC := []) (rest := []) (As := [.long p2.toInt64, .long (1 : Int64), .long (10 : Int64)]) X hw (c_X6_in l h18) rfl kM_X6_in kt_X6_in km_X6_82 ⟨(Nat.le_of_ble_eq_true rfl), (Nat.le_of_ble_eq_true rfl)⟩ ⟨(Nat.le_of_ble_eq_true rfl), (Nat.le_of_ble_eq_true rfl)⟩ rfl rfl rfl hl.1 rfl (Nat.le_of_ble_eq_true rfl) dX6_bar_18) hw rfl rfl (fun _ => (Nat.le_of_ble_eq_true rfl)) (fun _ => rfl) rfl rfl (fun _ H locs hw => ?_)
    refine lv_if_ne (tgt := 31) hx hb dX6_bar_21 (by decide) (fun k21 => ?_) (fun k21 => ?_)
    · have h := itt k21 h
      refine lv_aload_n hx hb dX6_bar_31 rfl (lv_at hl 0 rfl) ?_
      refine RM_g_bars X hw 0 rfl kf_X6_79 dX6_bar_32 ?_
      refine lv_iconst (v := 4) hx hb dX6_bar_35 (by decide) ?_
      refine lv_icmp_ne (tgt := 46) hx hb dX6_bar_36 (by decide) (fun k36 => ?_) (fun k36 => ?_)
      · have h := itt k36 h
        refine lv_aload_n hx hb dX6_bar_46 rfl (lv_at hl 0 rfl) ?_
        refine lv_iload_n hx hb dX6_bar_47 rfl (lv_at hl 1 rfl) ?_
        refine lv_iload_n hx hb dX6_bar_48 rfl (lv_at hl 2 rfl) ?_
        obtain ⟨r49, h49, h⟩ := bnd h
        refine g_callv0 (isC := [0]) (gn := fun _ => [wRM g ad eK eT r49]) (g_runV (isC := [0]) (rest := []) (As := [.int p1, .int p2]) X hw (c_X6_addBar l (ad := ad) (eK := eK) (eT := eT) h49) rfl kM_X6_addBar ki_X6_addBar ks_X6_addBar km_X6_140 ⟨(Nat.le_of_ble_eq_true rfl), (Nat.le_of_ble_eq_true rfl)⟩ ⟨(Nat.le_of_ble_eq_true rfl), (Nat.le_of_ble_eq_true rfl)⟩ rfl rfl ⟨_, _, _, _, rfl, rfl, rfl, rfl⟩ rfl hl.1 rfl (Nat.le_of_ble_eq_true rfl) dX6_bar_49) hw rfl rfl (fun _ => (Nat.le_of_ble_eq_true rfl)) (fun _ => rfl) rfl rfl (fun _ H locs hw => ?_)
        refine lv_aload_n hx hb dX6_bar_52 rfl (lv_at hl 0 rfl) ?_
        refine RM_g_bars X hw 0 rfl kf_X6_79 dX6_bar_53 ?_
        refine lv_iconst (v := 1) hx hb dX6_bar_56 (by decide) ?_
        refine lv_isub hx hb dX6_bar_57 ?_
        have h := Option.some.inj h
        subst h
        exact hret () dX6_bar_58 rfl hw
      · have h := itf (fun z => z k36) h
        refine lv_aload_n hx hb dX6_bar_39 rfl (lv_at hl 0 rfl) ?_
        refine lv_bipush (v := -6) hx hb dX6_bar_40 (by decide) ?_
        obtain ⟨r42, h42, h⟩ := bnd h
        refine g_calli0 (isC := [0]) (gn := fun _ => [wRM g ad eK eT r42.2]) (g_runV (isC := [0]) (rest := []) (As := [.int (-6 : Int32)]) X hw (c_X6_refuse l (ad := ad) (eK := eK) (eT := eT) h42) rfl kM_X6_refuse ki_X6_refuse ks_X6_refuse km_X6_96 ⟨(Nat.le_of_ble_eq_true rfl), (Nat.le_of_ble_eq_true rfl)⟩ ⟨(Nat.le_of_ble_eq_true rfl), (Nat.le_of_ble_eq_true rfl)⟩ rfl rfl ⟨_, _, _, _, rfl, rfl, rfl, rfl⟩ rfl hl.1 rfl (Nat.le_of_ble_eq_true rfl) dX6_bar_42) hw rfl rfl (fun _ => (Nat.le_of_ble_eq_true rfl)) (fun _ => rfl) rfl rfl (fun _ H locs hw => ?_)
        have h := Option.some.inj h
        subst h
        exact hret () dX6_bar_45 rfl hw
    · have h := itf (fun z => z k21) h
      exact J24 _ h _ _ _ hw (lv_sub hl [0] rfl)
theorem kM_X6_put : kM yX6_put cX6_put 4 (some FieldType.int) 2 := ⟨kc_X6_put, kn_RingsOffModel, by decide +kernel⟩
abbrev R_X6_put : Room := { frames := 2, cells := 0, slots := 0, locals := 48 }
set_option maxHeartbeats 4000000 in
set_option maxRecDepth 100000 in
theorem c_X6_put (l : Launch) {ad : Nat → Nat} {eK : Option Nat} {eT : Option Nat} {N : Nat} {rm : RM} {p1 : Int32} {p2 : Int32} {out : Int32 × RM} (h : M_X6_put N rm p1 p2 = some out) : gM l yX6_put cX6_put 4 (some FieldType.int) R_X6_put (fun _ => [.ref (ad 0), .int p1, .int p2]) (fun g => [wRM g ad eK eT rm]) (gQi (fun (_ : Unit) => out.1) (fun g (_ : Unit) => [wRM g ad eK eT out.2])) := by
  refine gM.ofi (by decide +kernel) (fun _ => Nat.le_of_ble_eq_true rfl) (fun g p e s m args below meth c A ls Q X hret hw hl => ?_)
  have hx := X.1.1
  have hb := X.1.2.1
  have hl : lv_has ls 4 [(0, .ref (ad 0)), (1, .int p1), (2, .int p2)] := hl
  have J18 : ∀ (z18 : RM), M_X6_put_j18 N p1 p2 z18 = some out → ∀ (H : Heap) (locs : List Loc) (ls : Array Slot), gW g A s.heap [wRM g ad eK eT z18] H locs → lv_has ls 4 [(0, .ref (ad 0))] → W p l e R_X6_put s m args below meth c H locs 0 0 Q (F0 m 18 ls []) := by
    intro z18 h H locs ls hw hl
    unfold M_X6_put_j18 at h
    refine lv_aload_n hx hb dX6_put_18 rfl (lv_at hl 0 rfl) ?_
    refine lv_bipush (v := -2) hx hb dX6_put_19 (by decide) ?_
    obtain ⟨r21, h21, h⟩ := bnd h
    refine g_calli0 (isC := [0]) (gn := fun _ => [wRM g ad eK eT r21.2]) (g_runV (isC := [0]) (rest := []) (As := [.int (-2 : Int32)]) X hw (c_X6_refuse l (ad := ad) (eK := eK) (eT := eT) h21) rfl kM_X6_refuse ki_X6_refuse ks_X6_refuse km_X6_96 ⟨(Nat.le_of_ble_eq_true rfl), (Nat.le_of_ble_eq_true rfl)⟩ ⟨(Nat.le_of_ble_eq_true rfl), (Nat.le_of_ble_eq_true rfl)⟩ rfl rfl ⟨_, _, _, _, rfl, rfl, rfl, rfl⟩ rfl hl.1 rfl (Nat.le_of_ble_eq_true rfl) dX6_put_21) hw rfl rfl (fun _ => (Nat.le_of_ble_eq_true rfl)) (fun _ => rfl) rfl rfl (fun _ H locs hw => ?_)
    have h := Option.some.inj h
    subst h
    exact hret () dX6_put_24 rfl hw
  unfold M_X6_put at h
  refine lv_aload_n hx hb dX6_put_0 rfl (lv_at hl 0 rfl) ?_
  refine lv_iload_n hx hb dX6_put_1 rfl (lv_at hl 1 rfl) ?_
  obtain ⟨r2, h2, h⟩ := bnd h
  refine g_calli0 (isC := [0]) (gn := fun _ => [wRM g ad eK eT rm]) (g_runV (isC := [0]) (rest := []) (As := [.int p1]) X hw (c_X6_isBar l (ad := ad) (eK := eK) (eT := eT) h2) rfl kM_X6_isBar ki_X6_isBar ks_X6_isBar km_X6_106 ⟨(Nat.le_of_ble_eq_true rfl), (Nat.le_of_ble_eq_true rfl)⟩ ⟨(Nat.le_of_ble_eq_true rfl), (Nat.le_of_ble_eq_true rfl)⟩ rfl rfl ⟨_, _, _, _, rfl, rfl, rfl, rfl⟩ rfl hl.1 rfl (Nat.le_of_ble_eq_true rfl) dX6_put_2) hw rfl rfl (fun _ => (Nat.le_of_ble_eq_true rfl)) (fun _ => rfl) rfl rfl (fun _ H locs hw => ?_)
  refine lv_if_eq (tgt := 18) hx hb dX6_put_5 (by decide) (fun k5 => ?_) (fun k5 => ?_)
  · have h := itt k5 h
    exact J18 _ h _ _ _ hw (lv_sub hl [0] rfl)
  · have h := itf k5 h
    refine lv_aload_n hx hb dX6_put_8 rfl (lv_at hl 0 rfl) ?_
    refine lv_iload_n hx hb dX6_put_9 rfl (lv_at hl 1 rfl) ?_
    refine lv_iload_n hx hb dX6_put_10 rfl (lv_at hl 2 rfl) ?_
    refine lv_i2l (v := p2.toInt64) hx hb dX6_put_11 rfl ?_
    obtain ⟨r12, h12, h⟩ := bnd h
    refine g_calli0 (isC := [0]) (gn := fun _ => [wRM g ad eK eT rm]) (g_runV (isC := [0]) (rest := []) (As := [.int p1, .long p2.toInt64]) X hw (c_X6_isSet l (ad := ad) (eK := eK) (eT := eT) h12) rfl kM_X6_isSet ki_X6_isSet ks_X6_isSet km_X6_144 ⟨(Nat.le_of_ble_eq_true rfl), (Nat.le_of_ble_eq_true rfl)⟩ ⟨(Nat.le_of_ble_eq_true rfl), (Nat.le_of_ble_eq_true rfl)⟩ rfl rfl ⟨_, _, _, _, rfl, rfl, rfl, rfl⟩ rfl hl.1 rfl (Nat.le_of_ble_eq_true rfl) dX6_put_12) hw rfl rfl (fun _ => (Nat.le_of_ble_eq_true rfl)) (fun _ => rfl) rfl rfl (fun _ H locs hw => ?_)
    refine lv_if_ne (tgt := 25) hx hb dX6_put_15 (by decide) (fun k15 => ?_) (fun k15 => ?_)
    · have h := itt k15 h
      refine lv_aload_n hx hb dX6_put_25 rfl (lv_at hl 0 rfl) ?_
      refine RM_g_on X hw 0 rfl kf_X6_43 dX6_put_26 ?_
      refine lv_iload_n hx hb dX6_put_29 rfl (lv_at hl 1 rfl) ?_
      obtain ⟨q30, h⟩ := chk h
      refine RM_l_on X hw 0 rfl q30 dX6_put_30 ?_
      refine lv_istore_n (lv' := [(3, .int (RM_on rm p1.toNatClampNeg)), (0, .ref (ad 0)), (1, .int p1), (2, .int p2)]) hx hb dX6_put_31 rfl hl (by decide) rfl (fun ls hl => ?_)
      refine lv_aload_n hx hb dX6_put_32 rfl (lv_at hl 1 rfl) ?_
      refine RM_g_on X hw 0 rfl kf_X6_43 dX6_put_33 ?_
      refine lv_iload_n hx hb dX6_put_36 rfl (lv_at hl 2 rfl) ?_
      refine lv_iload_n hx hb dX6_put_37 rfl (lv_at hl 3 rfl) ?_
      obtain ⟨q38, h⟩ := chk h
      refine RM_a_on (gs' := [wRM g ad eK eT (RM_s_on rm (upd (RM_on rm) p1.toNatClampNeg p2))]) X hw 0 rfl q38 dX6_put_38 rfl (fun H locs hw => ?_)
      refine lv_iload_n hx hb dX6_put_39 rfl (lv_at hl 0 rfl) ?_
      have h := Option.some.inj h
      subst h
      exact hret () dX6_put_40 rfl hw
    · have h := itf (fun z => z k15) h
      exact J18 _ h _ _ _ hw (lv_sub hl [0] rfl)
theorem kM_X6_stick : kM yX6_stick cX6_stick 4 (some FieldType.int) 2 := ⟨kc_X6_stick, kn_RingsOffModel, by decide +kernel⟩
abbrev R_X6_stick : Room := { frames := 2, cells := 0, slots := 0, locals := 48 }
set_option maxHeartbeats 4000000 in
set_option maxRecDepth 100000 in
theorem c_X6_stick (l : Launch) {ad : Nat → Nat} {eK : Option Nat} {eT : Option Nat} {N : Nat} {rm : RM} {p1 : Int32} {p2 : Int32} {out : Int32 × RM} (h : M_X6_stick N rm p1 p2 = some out) : gM l yX6_stick cX6_stick 4 (some FieldType.int) R_X6_stick (fun _ => [.ref (ad 0), .int p1, .int p2]) (fun g => [wRM g ad eK eT rm]) (gQi (fun (_ : Unit) => out.1) (fun g (_ : Unit) => [wRM g ad eK eT out.2])) := by
  refine gM.ofi (by decide +kernel) (fun _ => Nat.le_of_ble_eq_true rfl) (fun g p e s m args below meth c A ls Q X hret hw hl => ?_)
  have hx := X.1.1
  have hb := X.1.2.1
  have hl : lv_has ls 4 [(0, .ref (ad 0)), (1, .int p1), (2, .int p2)] := hl
  have J18 : ∀ (z18 : RM), M_X6_stick_j18 N p1 p2 z18 = some out → ∀ (H : Heap) (locs : List Loc) (ls : Array Slot), gW g A s.heap [wRM g ad eK eT z18] H locs → lv_has ls 4 [(0, .ref (ad 0))] → W p l e R_X6_stick s m args below meth c H locs 0 0 Q (F0 m 18 ls []) := by
    intro z18 h H locs ls hw hl
    unfold M_X6_stick_j18 at h
    refine lv_aload_n hx hb dX6_stick_18 rfl (lv_at hl 0 rfl) ?_
    refine lv_bipush (v := -2) hx hb dX6_stick_19 (by decide) ?_
    obtain ⟨r21, h21, h⟩ := bnd h
    refine g_calli0 (isC := [0]) (gn := fun _ => [wRM g ad eK eT r21.2]) (g_runV (isC := [0]) (rest := []) (As := [.int (-2 : Int32)]) X hw (c_X6_refuse l (ad := ad) (eK := eK) (eT := eT) h21) rfl kM_X6_refuse ki_X6_refuse ks_X6_refuse km_X6_96 ⟨(Nat.le_of_ble_eq_true rfl), (Nat.le_of_ble_eq_true rfl)⟩ ⟨(Nat.le_of_ble_eq_true rfl), (Nat.le_of_ble_eq_true rfl)⟩ rfl rfl ⟨_, _, _, _, rfl, rfl, rfl, rfl⟩ rfl hl.1 rfl (Nat.le_of_ble_eq_true rfl) dX6_stick_21) hw rfl rfl (fun _ => (Nat.le_of_ble_eq_true rfl)) (fun _ => rfl) rfl rfl (fun _ H locs hw => ?_)
    have h := Option.some.inj h
    subst h
    exact hret () dX6_stick_24 rfl hw
  unfold M_X6_stick at h
  refine lv_aload_n hx hb dX6_stick_0 rfl (lv_at hl 0 rfl) ?_
  refine lv_iload_n hx hb dX6_stick_1 rfl (lv_at hl 1 rfl) ?_
  obtain ⟨r2, h2, h⟩ := bnd h
  refine g_calli0 (isC := [0]) (gn := fun _ => [wRM g ad eK eT rm]) (g_runV (isC := [0]) (rest := []) (As := [.int p1]) X hw (c_X6_isBar l (ad := ad) (eK := eK) (eT := eT) h2) rfl kM_X6_isBar ki_X6_isBar ks_X6_isBar km_X6_106 ⟨(Nat.le_of_ble_eq_true rfl), (Nat.le_of_ble_eq_true rfl)⟩ ⟨(Nat.le_of_ble_eq_true rfl), (Nat.le_of_ble_eq_true rfl)⟩ rfl rfl ⟨_, _, _, _, rfl, rfl, rfl, rfl⟩ rfl hl.1 rfl (Nat.le_of_ble_eq_true rfl) dX6_stick_2) hw rfl rfl (fun _ => (Nat.le_of_ble_eq_true rfl)) (fun _ => rfl) rfl rfl (fun _ H locs hw => ?_)
  refine lv_if_eq (tgt := 18) hx hb dX6_stick_5 (by decide) (fun k5 => ?_) (fun k5 => ?_)
  · have h := itt k5 h
    exact J18 _ h _ _ _ hw (lv_sub hl [0] rfl)
  · have h := itf k5 h
    refine lv_aload_n hx hb dX6_stick_8 rfl (lv_at hl 0 rfl) ?_
    refine lv_iload_n hx hb dX6_stick_9 rfl (lv_at hl 1 rfl) ?_
    refine lv_iload_n hx hb dX6_stick_10 rfl (lv_at hl 2 rfl) ?_
    refine lv_i2l (v := p2.toInt64) hx hb dX6_stick_11 rfl ?_
    obtain ⟨r12, h12, h⟩ := bnd h
    refine g_calli0 (isC := [0]) (gn := fun _ => [wRM g ad eK eT rm]) (g_runV (isC := [0]) (rest := []) (As := [.int p1, .long p2.toInt64]) X hw (c_X6_isSet l (ad := ad) (eK := eK) (eT := eT) h12) rfl kM_X6_isSet ki_X6_isSet ks_X6_isSet km_X6_144 ⟨(Nat.le_of_ble_eq_true rfl), (Nat.le_of_ble_eq_true rfl)⟩ ⟨(Nat.le_of_ble_eq_true rfl), (Nat.le_of_ble_eq_true rfl)⟩ rfl rfl ⟨_, _, _, _, rfl, rfl, rfl, rfl⟩ rfl hl.1 rfl (Nat.le_of_ble_eq_true rfl) dX6_stick_12) hw rfl rfl (fun _ => (Nat.le_of_ble_eq_true rfl)) (fun _ => rfl) rfl rfl (fun _ H locs hw => ?_)
    refine lv_if_ne (tgt := 25) hx hb dX6_stick_15 (by decide) (fun k15 => ?_) (fun k15 => ?_)
    · have h := itt k15 h
      refine lv_aload_n hx hb dX6_stick_25 rfl (lv_at hl 0 rfl) ?_
      refine RM_g_stuck X hw 0 rfl kf_X6_46 dX6_stick_26 ?_
      refine lv_iload_n hx hb dX6_stick_29 rfl (lv_at hl 1 rfl) ?_
      obtain ⟨q30, h⟩ := chk h
      refine RM_l_stuck X hw 0 rfl q30 dX6_stick_30 ?_
      refine lv_istore_n (lv' := [(3, .int (RM_stuck rm p1.toNatClampNeg)), (0, .ref (ad 0)), (1, .int p1), (2, .int p2)]) hx hb dX6_stick_31 rfl hl (by decide) rfl (fun ls hl => ?_)
      refine lv_aload_n hx hb dX6_stick_32 rfl (lv_at hl 1 rfl) ?_
      refine RM_g_stuck X hw 0 rfl kf_X6_46 dX6_stick_33 ?_
      refine lv_iload_n hx hb dX6_stick_36 rfl (lv_at hl 2 rfl) ?_
      refine lv_iload_n hx hb dX6_stick_37 rfl (lv_at hl 3 rfl) ?_
      obtain ⟨q38, h⟩ := chk h
      refine RM_a_stuck (gs' := [wRM g ad eK eT (RM_s_stuck rm (upd (RM_stuck rm) p1.toNatClampNeg p2))]) X hw 0 rfl q38 dX6_stick_38 rfl (fun H locs hw => ?_)
      refine lv_iload_n hx hb dX6_stick_39 rfl (lv_at hl 0 rfl) ?_
      have h := Option.some.inj h
      subst h
      exact hret () dX6_stick_40 rfl hw
    · have h := itf (fun z => z k15) h
      exact J18 _ h _ _ _ hw (lv_sub hl [0] rfl)
theorem kM_X6_table : kM yX6_table cX6_table 5 (some FieldType.int) 4 := ⟨kc_X6_table, kn_RingsOffModel, by decide +kernel⟩
abbrev R_X6_table : Room := { frames := 2, cells := 0, slots := 0, locals := 48 }
set_option maxHeartbeats 4000000 in
set_option maxRecDepth 100000 in
theorem c_X6_table (l : Launch) {ad : Nat → Nat} {eK : Option Nat} {eT : Option Nat} {N : Nat} {rm : RM} {p1 : Int32} {p2 : Int32} {p3 : Int32} {p4 : Int32} {out : Int32 × RM} (h : M_X6_table N rm p1 p2 p3 p4 = some out) : gM l yX6_table cX6_table 5 (some FieldType.int) R_X6_table (fun _ => [.ref (ad 0), .int p1, .int p2, .int p3, .int p4]) (fun g => [wRM g ad eK eT rm]) (gQi (fun (_ : Unit) => out.1) (fun g (_ : Unit) => [wRM g ad eK eT out.2])) := by
  refine gM.ofi (by decide +kernel) (fun _ => Nat.le_of_ble_eq_true rfl) (fun g p e s m args below meth c A ls Q X hret hw hl => ?_)
  have hx := X.1.1
  have hb := X.1.2.1
  have hl : lv_has ls 5 [(0, .ref (ad 0)), (1, .int p1), (2, .int p2), (3, .int p3), (4, .int p4)] := hl
  have J38 : ∀ (z38 : RM), M_X6_table_j38 N p1 p2 p3 p4 z38 = some out → ∀ (H : Heap) (locs : List Loc) (ls : Array Slot), gW g A s.heap [wRM g ad eK eT z38] H locs → lv_has ls 5 [(0, .ref (ad 0))] → W p l e R_X6_table s m args below meth c H locs 0 0 Q (F0 m 38 ls []) := by
    intro z38 h H locs ls hw hl
    unfold M_X6_table_j38 at h
    refine lv_aload_n hx hb dX6_table_38 rfl (lv_at hl 0 rfl) ?_
    refine lv_bipush (v := -2) hx hb dX6_table_39 (by decide) ?_
    obtain ⟨r41, h41, h⟩ := bnd h
    refine g_calli0 (isC := [0]) (gn := fun _ => [wRM g ad eK eT r41.2]) (g_runV (isC := [0]) (rest := []) (As := [.int (-2 : Int32)]) X hw (c_X6_refuse l (ad := ad) (eK := eK) (eT := eT) h41) rfl kM_X6_refuse ki_X6_refuse ks_X6_refuse km_X6_96 ⟨(Nat.le_of_ble_eq_true rfl), (Nat.le_of_ble_eq_true rfl)⟩ ⟨(Nat.le_of_ble_eq_true rfl), (Nat.le_of_ble_eq_true rfl)⟩ rfl rfl ⟨_, _, _, _, rfl, rfl, rfl, rfl⟩ rfl hl.1 rfl (Nat.le_of_ble_eq_true rfl) dX6_table_41) hw rfl rfl (fun _ => (Nat.le_of_ble_eq_true rfl)) (fun _ => rfl) rfl rfl (fun _ H locs hw => ?_)
    have h := Option.some.inj h
    subst h
    exact hret () dX6_table_44 rfl hw
  unfold M_X6_table at h
  refine lv_aload_n hx hb dX6_table_0 rfl (lv_at hl 0 rfl) ?_
  refine lv_iload_n hx hb dX6_table_1 rfl (lv_at hl 1 rfl) ?_
  obtain ⟨r2, h2, h⟩ := bnd h
  refine g_calli0 (isC := [0]) (gn := fun _ => [wRM g ad eK eT rm]) (g_runV (isC := [0]) (rest := []) (As := [.int p1]) X hw (c_X6_isBar l (ad := ad) (eK := eK) (eT := eT) h2) rfl kM_X6_isBar ki_X6_isBar ks_X6_isBar km_X6_106 ⟨(Nat.le_of_ble_eq_true rfl), (Nat.le_of_ble_eq_true rfl)⟩ ⟨(Nat.le_of_ble_eq_true rfl), (Nat.le_of_ble_eq_true rfl)⟩ rfl rfl ⟨_, _, _, _, rfl, rfl, rfl, rfl⟩ rfl hl.1 rfl (Nat.le_of_ble_eq_true rfl) dX6_table_2) hw rfl rfl (fun _ => (Nat.le_of_ble_eq_true rfl)) (fun _ => rfl) rfl rfl (fun _ H locs hw => ?_)
  refine lv_if_eq (tgt := 38) hx hb dX6_table_5 (by decide) (fun k5 => ?_) (fun k5 => ?_)
  · have h := itt k5 h
    exact J38 _ h _ _ _ hw (lv_sub hl [0] rfl)
  · have h := itf k5 h
    refine lv_aload_n hx hb dX6_table_8 rfl (lv_at hl 0 rfl) ?_
    refine lv_iload_n hx hb dX6_table_9 rfl (lv_at hl 1 rfl) ?_
    refine lv_iload_n hx hb dX6_table_10 rfl (lv_at hl 2 rfl) ?_
    obtain ⟨r11, h11, h⟩ := bnd h
    refine g_calli0 (isC := [0]) (gn := fun _ => [wRM g ad eK eT rm]) (g_runV (isC := [0]) (rest := []) (As := [.int p1, .int p2]) X hw (c_X6_isRing l (ad := ad) (eK := eK) (eT := eT) h11) rfl kM_X6_isRing ki_X6_isRing ks_X6_isRing km_X6_148 ⟨(Nat.le_of_ble_eq_true rfl), (Nat.le_of_ble_eq_true rfl)⟩ ⟨(Nat.le_of_ble_eq_true rfl), (Nat.le_of_ble_eq_true rfl)⟩ rfl rfl ⟨_, _, _, _, rfl, rfl, rfl, rfl⟩ rfl hl.1 rfl (Nat.le_of_ble_eq_true rfl) dX6_table_11) hw rfl rfl (fun _ => (Nat.le_of_ble_eq_true rfl)) (fun _ => rfl) rfl rfl (fun _ H locs hw => ?_)
    refine lv_if_eq (tgt := 38) hx hb dX6_table_14 (by decide) (fun k14 => ?_) (fun k14 => ?_)
    · have h := itt k14 h
      exact J38 _ h _ _ _ hw (lv_sub hl [0] rfl)
    · have h := itf k14 h
      refine lv_aload_n hx hb dX6_table_17 rfl (lv_at hl 0 rfl) ?_
      refine lv_iload_n hx hb dX6_table_18 rfl (lv_at hl 1 rfl) ?_
      refine lv_iload_n hx hb dX6_table_19 rfl (lv_at hl 3 rfl) ?_
      refine lv_i2l (v := p3.toInt64) hx hb dX6_table_20 rfl ?_
      obtain ⟨r21, h21, h⟩ := bnd h
      refine g_calli0 (isC := [0]) (gn := fun _ => [wRM g ad eK eT rm]) (g_runV (isC := [0]) (rest := []) (As := [.int p1, .long p3.toInt64]) X hw (c_X6_isSet l (ad := ad) (eK := eK) (eT := eT) h21) rfl kM_X6_isSet ki_X6_isSet ks_X6_isSet km_X6_144 ⟨(Nat.le_of_ble_eq_true rfl), (Nat.le_of_ble_eq_true rfl)⟩ ⟨(Nat.le_of_ble_eq_true rfl), (Nat.le_of_ble_eq_true rfl)⟩ rfl rfl ⟨_, _, _, _, rfl, rfl, rfl, rfl⟩ rfl hl.1 rfl (Nat.le_of_ble_eq_true rfl) dX6_table_21) hw rfl rfl (fun _ => (Nat.le_of_ble_eq_true rfl)) (fun _ => rfl) rfl rfl (fun _ H locs hw => ?_)
      refine lv_if_eq (tgt := 38) hx hb dX6_table_24 (by decide) (fun k24 => ?_) (fun k24 => ?_)
      · have h := itt k24 h
        exact J38 _ h _ _ _ hw (lv_sub hl [0] rfl)
      · have h := itf k24 h
        refine lv_aload_n hx hb dX6_table_27 rfl (lv_at hl 0 rfl) ?_
        refine lv_iload_n hx hb dX6_table_28 rfl (lv_at hl 1 rfl) ?_
        refine lv_iload hx hb dX6_table_29 (lv_at hl 4 rfl) ?_
        refine lv_i2l (v := p4.toInt64) hx hb dX6_table_31 rfl ?_
        obtain ⟨r32, h32, h⟩ := bnd h
        refine g_calli0 (isC := [0]) (gn := fun _ => [wRM g ad eK eT rm]) (g_runV (isC := [0]) (rest := []) (As := [.int p1, .long p4.toInt64]) X hw (c_X6_isSet l (ad := ad) (eK := eK) (eT := eT) h32) rfl kM_X6_isSet ki_X6_isSet ks_X6_isSet km_X6_144 ⟨(Nat.le_of_ble_eq_true rfl), (Nat.le_of_ble_eq_true rfl)⟩ ⟨(Nat.le_of_ble_eq_true rfl), (Nat.le_of_ble_eq_true rfl)⟩ rfl rfl ⟨_, _, _, _, rfl, rfl, rfl, rfl⟩ rfl hl.1 rfl (Nat.le_of_ble_eq_true rfl) dX6_table_32) hw rfl rfl (fun _ => (Nat.le_of_ble_eq_true rfl)) (fun _ => rfl) rfl rfl (fun _ H locs hw => ?_)
        refine lv_if_ne (tgt := 45) hx hb dX6_table_35 (by decide) (fun k35 => ?_) (fun k35 => ?_)
        · have h := itt k35 h
          refine lv_aload_n hx hb dX6_table_45 rfl (lv_at hl 0 rfl) ?_
          refine RM_g_kind X hw 0 rfl kf_X6_37 dX6_table_46 ?_
          refine lv_iload_n hx hb dX6_table_49 rfl (lv_at hl 1 rfl) ?_
          obtain ⟨q50, h⟩ := chk h
          refine RM_l_kind X hw 0 rfl q50 dX6_table_50 ?_
          refine lv_iconst (v := 5) hx hb dX6_table_51 (by decide) ?_
          refine lv_icmp_eq (tgt := 62) hx hb dX6_table_52 (by decide) (fun k52 => ?_) (fun k52 => ?_)
          · have h := itt k52 h
            refine lv_aload_n hx hb dX6_table_62 rfl (lv_at hl 0 rfl) ?_
            refine RM_g_must X hw 0 rfl kf_X6_51 dX6_table_63 ?_
            refine lv_iload_n hx hb dX6_table_66 rfl (lv_at hl 1 rfl) ?_
            obtain ⟨q67, h⟩ := chk h
            have o67 := Nat.not_le.mp (fun z => q67 (Or.inr z))
            refine RM_q_must X hw 0 rfl q67 dX6_table_67 ?_
            refine lv_iload_n hx hb dX6_table_68 rfl (lv_at hl 2 rfl) ?_
            refine lv_iload_n hx hb dX6_table_69 rfl (lv_at hl 3 rfl) ?_
            obtain ⟨q70, h⟩ := chk h
            refine RM_a_must (gs' := [wRM g ad eK eT (RM_s_must rm (va_up (RM_must rm) p1.toNatClampNeg (upd (RM_must rm p1.toNatClampNeg) p2.toNatClampNeg p3)))]) X hw 0 rfl o67 q70 dX6_table_70 rfl (fun H locs hw => ?_)
            refine lv_aload_n hx hb dX6_table_71 rfl (lv_at hl 0 rfl) ?_
            refine RM_g_not X hw 0 rfl kf_X6_54 dX6_table_72 ?_
            refine lv_iload_n hx hb dX6_table_75 rfl (lv_at hl 1 rfl) ?_
            obtain ⟨q76, h⟩ := chk h
            have o76 := Nat.not_le.mp (fun z => q76 (Or.inr z))
            refine RM_q_not X hw 0 rfl q76 dX6_table_76 ?_
            refine lv_iload_n hx hb dX6_table_77 rfl (lv_at hl 2 rfl) ?_
            refine lv_iload hx hb dX6_table_78 (lv_at hl 4 rfl) ?_
            obtain ⟨q80, h⟩ := chk h
            refine RM_a_not (gs' := [wRM g ad eK eT (RM_s_not (RM_s_must rm (va_up (RM_must rm) p1.toNatClampNeg (upd (RM_must rm p1.toNatClampNeg) p2.toNatClampNeg p3))) (va_up (RM_not (RM_s_must rm (va_up (RM_must rm) p1.toNatClampNeg (upd (RM_must rm p1.toNatClampNeg) p2.toNatClampNeg p3)))) p1.toNatClampNeg (upd (RM_not (RM_s_must rm (va_up (RM_must rm) p1.toNatClampNeg (upd (RM_must rm p1.toNatClampNeg) p2.toNatClampNeg p3))) p1.toNatClampNeg) p2.toNatClampNeg p4)))]) X hw 0 rfl o76 q80 dX6_table_80 rfl (fun H locs hw => ?_)
            refine lv_iconst (v := 1) hx hb dX6_table_81 (by decide) ?_
            have h := Option.some.inj h
            subst h
            exact hret () dX6_table_82 rfl hw
          · have h := itf k52 h
            refine lv_aload_n hx hb dX6_table_55 rfl (lv_at hl 0 rfl) ?_
            refine lv_bipush (v := -5) hx hb dX6_table_56 (by decide) ?_
            obtain ⟨r58, h58, h⟩ := bnd h
            refine g_calli0 (isC := [0]) (gn := fun _ => [wRM g ad eK eT r58.2]) (g_runV (isC := [0]) (rest := []) (As := [.int (-5 : Int32)]) X hw (c_X6_refuse l (ad := ad) (eK := eK) (eT := eT) h58) rfl kM_X6_refuse ki_X6_refuse ks_X6_refuse km_X6_96 ⟨(Nat.le_of_ble_eq_true rfl), (Nat.le_of_ble_eq_true rfl)⟩ ⟨(Nat.le_of_ble_eq_true rfl), (Nat.le_of_ble_eq_true rfl)⟩ rfl rfl ⟨_, _, _, _, rfl, rfl, rfl, rfl⟩ rfl hl.1 rfl (Nat.le_of_ble_eq_true rfl) dX6_table_58) hw rfl rfl (fun _ => (Nat.le_of_ble_eq_true rfl)) (fun _ => rfl) rfl rfl (fun _ H locs hw => ?_)
            have h := Option.some.inj h
            subst h
            exact hret () dX6_table_61 rfl hw
        · have h := itf (fun z => z k35) h
          exact J38 _ h _ _ _ hw (lv_sub hl [0] rfl)
theorem kM_X6_minutes : kM yX6_minutes cX6_minutes 4 (some FieldType.int) 2 := ⟨kc_X6_minutes, kn_RingsOffModel, by decide +kernel⟩
abbrev R_X6_minutes : Room := { frames := 1, cells := 0, slots := 0, locals := 25 }
set_option maxHeartbeats 4000000 in
set_option maxRecDepth 100000 in
theorem c_X6_minutes (l : Launch) {ad : Nat → Nat} {eK : Option Nat} {eT : Option Nat} {N : Nat} {rm : RM} {p1 : Int32} {p2 : Int32} {out : Int32 × RM} (h : M_X6_minutes N rm p1 p2 = some out) : gM l yX6_minutes cX6_minutes 4 (some FieldType.int) R_X6_minutes (fun _ => [.ref (ad 0), .int p1, .int p2]) (fun g => [wRM g ad eK eT rm]) (gQi (fun (_ : Unit) => out.1) (fun g (_ : Unit) => [wRM g ad eK eT out.2])) := by
  refine gM.ofi (by decide +kernel) (fun _ => Nat.le_of_ble_eq_true rfl) (fun g p e s m args below meth c A ls Q X hret hw hl => ?_)
  have hx := X.1.1
  have hb := X.1.2.1
  have hl : lv_has ls 4 [(0, .ref (ad 0)), (1, .int p1), (2, .int p2)] := hl
  have J24 : ∀ (z24 : RM), M_X6_minutes_j24 N p1 p2 z24 = some out → ∀ (H : Heap) (locs : List Loc) (ls : Array Slot), gW g A s.heap [wRM g ad eK eT z24] H locs → lv_has ls 4 [(0, .ref (ad 0))] → W p l e R_X6_minutes s m args below meth c H locs 0 0 Q (F0 m 24 ls []) := by
    intro z24 h H locs ls hw hl
    unfold M_X6_minutes_j24 at h
    refine lv_aload_n hx hb dX6_minutes_24 rfl (lv_at hl 0 rfl) ?_
    refine lv_bipush (v := -2) hx hb dX6_minutes_25 (by decide) ?_
    obtain ⟨r27, h27, h⟩ := bnd h
    refine g_calli0 (isC := [0]) (gn := fun _ => [wRM g ad eK eT r27.2]) (g_runV (isC := [0]) (rest := []) (As := [.int (-2 : Int32)]) X hw (c_X6_refuse l (ad := ad) (eK := eK) (eT := eT) h27) rfl kM_X6_refuse ki_X6_refuse ks_X6_refuse km_X6_96 ⟨(Nat.le_of_ble_eq_true rfl), (Nat.le_of_ble_eq_true rfl)⟩ ⟨(Nat.le_of_ble_eq_true rfl), (Nat.le_of_ble_eq_true rfl)⟩ rfl rfl ⟨_, _, _, _, rfl, rfl, rfl, rfl⟩ rfl hl.1 rfl (Nat.le_of_ble_eq_true rfl) dX6_minutes_27) hw rfl rfl (fun _ => (Nat.le_of_ble_eq_true rfl)) (fun _ => rfl) rfl rfl (fun _ H locs hw => ?_)
    have h := Option.some.inj h
    subst h
    exact hret () dX6_minutes_30 rfl hw
  unfold M_X6_minutes at h
  refine lv_iload_n hx hb dX6_minutes_0 rfl (lv_at hl 1 rfl) ?_
  refine lv_i2l (v := p1.toInt64) hx hb dX6_minutes_1 rfl ?_
  refine lv_lconst (v := 0) hx hb dX6_minutes_2 (by decide) ?_
  refine lv_ldc2 hx hb X.1.2.2.2.1 (gK1 X _ kq_X6_151) dX6_minutes_3 ?_
  obtain ⟨r6, h6, h⟩ := bnd h
  refine g_calli0 (isC := []) (gn := fun _ => [wRM g ad eK eT rm]) (g_runS (isC := []) (rest := []) (As := [.long p1.toInt64, .long (0 : Int64), .long (9 : Int64)]) X hw (c_X6_in l h6) rfl kM_X6_in kt_X6_in km_X6_82 ⟨(Nat.le_of_ble_eq_true rfl), (Nat.le_of_ble_eq_true rfl)⟩ ⟨(Nat.le_of_ble_eq_true rfl), (Nat.le_of_ble_eq_true rfl)⟩ rfl rfl rfl hl.1 rfl (Nat.le_of_ble_eq_true rfl) dX6_minutes_6) hw rfl rfl (fun _ => (Nat.le_of_ble_eq_true rfl)) (fun _ => rfl) rfl rfl (fun _ H locs hw => ?_)
  refine lv_if_eq (tgt := 24) hx hb dX6_minutes_9 (by decide) (fun k9 => ?_) (fun k9 => ?_)
  · have h := itt k9 h
    exact J24 _ h _ _ _ hw (lv_sub hl [0] rfl)
  · have h := itf k9 h
    refine lv_iload_n hx hb dX6_minutes_12 rfl (lv_at hl 2 rfl) ?_
    refine lv_i2l (v := p2.toInt64) hx hb dX6_minutes_13 rfl ?_
    refine lv_lconst (v := 0) hx hb dX6_minutes_14 (by decide) ?_
    refine lv_ldc2 hx hb X.1.2.2.2.1 (gK1 X _ kq_X6_153) dX6_minutes_15 ?_
    obtain ⟨r18, h18, h⟩ := bnd h
    refine g_calli0 (isC := []) (gn := fun _ => [wRM g ad eK eT rm]) (g_runS (isC := []) (rest := []) (As := [.long p2.toInt64, .long (0 : Int64), .long (99 : Int64)]) X hw (c_X6_in l h18) rfl kM_X6_in kt_X6_in km_X6_82 ⟨(Nat.le_of_ble_eq_true rfl), (Nat.le_of_ble_eq_true rfl)⟩ ⟨(Nat.le_of_ble_eq_true rfl), (Nat.le_of_ble_eq_true rfl)⟩ rfl rfl rfl hl.1 rfl (Nat.le_of_ble_eq_true rfl) dX6_minutes_18) hw rfl rfl (fun _ => (Nat.le_of_ble_eq_true rfl)) (fun _ => rfl) rfl rfl (fun _ H locs hw => ?_)
    refine lv_if_ne (tgt := 31) hx hb dX6_minutes_21 (by decide) (fun k21 => ?_) (fun k21 => ?_)
    · have h := itt k21 h
      refine lv_aload_n hx hb dX6_minutes_31 rfl (lv_at hl 0 rfl) ?_
      refine RM_g_minutes X hw 0 rfl kf_X6_57 dX6_minutes_32 ?_
      refine lv_iload_n hx hb dX6_minutes_35 rfl (lv_at hl 1 rfl) ?_
      obtain ⟨q36, h⟩ := chk h
      refine RM_l_minutes X hw 0 rfl q36 dX6_minutes_36 ?_
      refine lv_istore_n (lv' := [(3, .int (RM_minutes rm p1.toNatClampNeg)), (0, .ref (ad 0)), (1, .int p1), (2, .int p2)]) hx hb dX6_minutes_37 rfl hl (by decide) rfl (fun ls hl => ?_)
      refine lv_aload_n hx hb dX6_minutes_38 rfl (lv_at hl 1 rfl) ?_
      refine RM_g_minutes X hw 0 rfl kf_X6_57 dX6_minutes_39 ?_
      refine lv_iload_n hx hb dX6_minutes_42 rfl (lv_at hl 2 rfl) ?_
      refine lv_iload_n hx hb dX6_minutes_43 rfl (lv_at hl 3 rfl) ?_
      obtain ⟨q44, h⟩ := chk h
      refine RM_a_minutes (gs' := [wRM g ad eK eT (RM_s_minutes rm (upd (RM_minutes rm) p1.toNatClampNeg p2))]) X hw 0 rfl q44 dX6_minutes_44 rfl (fun H locs hw => ?_)
      refine lv_iload_n hx hb dX6_minutes_45 rfl (lv_at hl 0 rfl) ?_
      have h := Option.some.inj h
      subst h
      exact hret () dX6_minutes_46 rfl hw
    · have h := itf (fun z => z k21) h
      exact J24 _ h _ _ _ hw (lv_sub hl [0] rfl)
theorem kM_X6_feed : kM yX6_feed cX6_feed 2 (some FieldType.int) 1 := ⟨kc_X6_feed, kn_RingsOffModel, by decide +kernel⟩
abbrev R_X6_feed : Room := { frames := 1, cells := 0, slots := 0, locals := 25 }
set_option maxHeartbeats 4000000 in
set_option maxRecDepth 100000 in
theorem c_X6_feed (l : Launch) {ad : Nat → Nat} {eK : Option Nat} {eT : Option Nat} {N : Nat} {rm : RM} {p1 : Int32} {out : Int32 × RM} (h : M_X6_feed N rm p1 = some out) : gM l yX6_feed cX6_feed 2 (some FieldType.int) R_X6_feed (fun _ => [.ref (ad 0), .int p1]) (fun g => [wRM g ad eK eT rm]) (gQi (fun (_ : Unit) => out.1) (fun g (_ : Unit) => [wRM g ad eK eT out.2])) := by
  refine gM.ofi (by decide +kernel) (fun _ => Nat.le_of_ble_eq_true rfl) (fun g p e s m args below meth c A ls Q X hret hw hl => ?_)
  have hx := X.1.1
  have hb := X.1.2.1
  have hl : lv_has ls 2 [(0, .ref (ad 0)), (1, .int p1)] := hl
  unfold M_X6_feed at h
  refine lv_iload_n hx hb dX6_feed_0 rfl (lv_at hl 1 rfl) ?_
  refine lv_i2l (v := p1.toInt64) hx hb dX6_feed_1 rfl ?_
  refine lv_lconst (v := 0) hx hb dX6_feed_2 (by decide) ?_
  refine lv_ldc2 hx hb X.1.2.2.2.1 (gK1 X _ kq_X6_155) dX6_feed_3 ?_
  obtain ⟨r6, h6, h⟩ := bnd h
  refine g_calli0 (isC := []) (gn := fun _ => [wRM g ad eK eT rm]) (g_runS (isC := []) (rest := []) (As := [.long p1.toInt64, .long (0 : Int64), .long (255 : Int64)]) X hw (c_X6_in l h6) rfl kM_X6_in kt_X6_in km_X6_82 ⟨(Nat.le_of_ble_eq_true rfl), (Nat.le_of_ble_eq_true rfl)⟩ ⟨(Nat.le_of_ble_eq_true rfl), (Nat.le_of_ble_eq_true rfl)⟩ rfl rfl rfl hl.1 rfl (Nat.le_of_ble_eq_true rfl) dX6_feed_6) hw rfl rfl (fun _ => (Nat.le_of_ble_eq_true rfl)) (fun _ => rfl) rfl rfl (fun _ H locs hw => ?_)
  refine lv_if_ne (tgt := 19) hx hb dX6_feed_9 (by decide) (fun k9 => ?_) (fun k9 => ?_)
  · have h := itt k9 h
    refine lv_aload_n hx hb dX6_feed_19 rfl (lv_at hl 0 rfl) ?_
    refine RM_g_tapeSize X hw 0 rfl kf_X6_157 dX6_feed_20 ?_
    refine lv_sipush (v := 250) hx hb dX6_feed_23 (by decide) ?_
    refine lv_icmp_ne (tgt := 36) hx hb dX6_feed_26 (by decide) (fun k26 => ?_) (fun k26 => ?_)
    · have h := itt k26 h
      refine lv_aload_n hx hb dX6_feed_36 rfl (lv_at hl 0 rfl) ?_
      refine RM_g_tape X hw 0 rfl kf_X6_31 dX6_feed_37 ?_
      refine lv_aload_n hx hb dX6_feed_40 rfl (lv_at hl 0 rfl) ?_
      refine lv_dup hx hb dX6_feed_41 rfl ?_
      refine RM_g_tapeSize X hw 0 rfl kf_X6_157 dX6_feed_42 ?_
      refine lv_dup_x1 hx hb dX6_feed_45 rfl rfl ?_
      refine lv_iconst (v := 1) hx hb dX6_feed_46 (by decide) ?_
      refine lv_iadd hx hb dX6_feed_47 ?_
      refine RM_p_tapeSize (gs' := [wRM g ad eK eT (RM_s_tapeSize rm ((RM_tapeSize rm) + (1 : Int32)))]) X hw 0 rfl kf_X6_157 dX6_feed_48 rfl (fun H locs hw => ?_)
      refine lv_iload_n hx hb dX6_feed_51 rfl (lv_at hl 1 rfl) ?_
      obtain ⟨q52, h⟩ := chk h
      refine RM_a_tape (gs' := [wRM g ad eK eT (RM_s_tape (RM_s_tapeSize rm ((RM_tapeSize rm) + (1 : Int32))) (upd (RM_tape (RM_s_tapeSize rm ((RM_tapeSize rm) + (1 : Int32)))) (RM_tapeSize rm).toNatClampNeg p1))]) X hw 0 rfl q52 dX6_feed_52 rfl (fun H locs hw => ?_)
      refine lv_aload_n hx hb dX6_feed_53 rfl (lv_at hl 0 rfl) ?_
      refine RM_g_tapeSize X hw 0 rfl kf_X6_157 dX6_feed_54 ?_
      have h := Option.some.inj h
      subst h
      exact hret () dX6_feed_57 rfl hw
    · have h := itf (fun z => z k26) h
      refine lv_aload_n hx hb dX6_feed_29 rfl (lv_at hl 0 rfl) ?_
      refine lv_bipush (v := -6) hx hb dX6_feed_30 (by decide) ?_
      obtain ⟨r32, h32, h⟩ := bnd h
      refine g_calli0 (isC := [0]) (gn := fun _ => [wRM g ad eK eT r32.2]) (g_runV (isC := [0]) (rest := []) (As := [.int (-6 : Int32)]) X hw (c_X6_refuse l (ad := ad) (eK := eK) (eT := eT) h32) rfl kM_X6_refuse ki_X6_refuse ks_X6_refuse km_X6_96 ⟨(Nat.le_of_ble_eq_true rfl), (Nat.le_of_ble_eq_true rfl)⟩ ⟨(Nat.le_of_ble_eq_true rfl), (Nat.le_of_ble_eq_true rfl)⟩ rfl rfl ⟨_, _, _, _, rfl, rfl, rfl, rfl⟩ rfl hl.1 rfl (Nat.le_of_ble_eq_true rfl) dX6_feed_32) hw rfl rfl (fun _ => (Nat.le_of_ble_eq_true rfl)) (fun _ => rfl) rfl rfl (fun _ H locs hw => ?_)
      have h := Option.some.inj h
      subst h
      exact hret () dX6_feed_35 rfl hw
  · have h := itf (fun z => z k9) h
    refine lv_aload_n hx hb dX6_feed_12 rfl (lv_at hl 0 rfl) ?_
    refine lv_bipush (v := -2) hx hb dX6_feed_13 (by decide) ?_
    obtain ⟨r15, h15, h⟩ := bnd h
    refine g_calli0 (isC := [0]) (gn := fun _ => [wRM g ad eK eT r15.2]) (g_runV (isC := [0]) (rest := []) (As := [.int (-2 : Int32)]) X hw (c_X6_refuse l (ad := ad) (eK := eK) (eT := eT) h15) rfl kM_X6_refuse ki_X6_refuse ks_X6_refuse km_X6_96 ⟨(Nat.le_of_ble_eq_true rfl), (Nat.le_of_ble_eq_true rfl)⟩ ⟨(Nat.le_of_ble_eq_true rfl), (Nat.le_of_ble_eq_true rfl)⟩ rfl rfl ⟨_, _, _, _, rfl, rfl, rfl, rfl⟩ rfl hl.1 rfl (Nat.le_of_ble_eq_true rfl) dX6_feed_15) hw rfl rfl (fun _ => (Nat.le_of_ble_eq_true rfl)) (fun _ => rfl) rfl rfl (fun _ H locs hw => ?_)
    have h := Option.some.inj h
    subst h
    exact hret () dX6_feed_18 rfl hw
theorem kM_X6_wipe : kM yX6_wipe cX6_wipe 2 (some FieldType.int) 0 := ⟨kc_X6_wipe, kn_RingsOffModel, by decide +kernel⟩
abbrev R_X6_wipe : Room := { frames := 0, cells := 0, slots := 0, locals := 0 }
set_option maxHeartbeats 4000000 in
set_option maxRecDepth 100000 in
theorem c_X6_wipe (l : Launch) {ad : Nat → Nat} {eK : Option Nat} {eT : Option Nat} {N : Nat} {rm : RM} {out : Int32 × RM} (h : M_X6_wipe N rm = some out) : gM l yX6_wipe cX6_wipe 2 (some FieldType.int) R_X6_wipe (fun _ => [.ref (ad 0)]) (fun g => [wRM g ad eK eT rm]) (gQi (fun (_ : Unit) => out.1) (fun g (_ : Unit) => [wRM g ad eK eT out.2])) := by
  refine gM.ofi (by decide +kernel) (fun _ => Nat.le_of_ble_eq_true rfl) (fun g p e s m args below meth c A ls Q X hret hw hl => ?_)
  have hx := X.1.1
  have hb := X.1.2.1
  have hl : lv_has ls 2 [(0, .ref (ad 0))] := hl
  unfold M_X6_wipe at h
  refine lv_aload_n hx hb dX6_wipe_0 rfl (lv_at hl 0 rfl) ?_
  refine RM_g_tapeSize X hw 0 rfl kf_X6_157 dX6_wipe_1 ?_
  refine lv_istore_n (lv' := [(1, .int (RM_tapeSize rm)), (0, .ref (ad 0))]) hx hb dX6_wipe_4 rfl hl (by decide) rfl (fun ls hl => ?_)
  refine lv_aload_n hx hb dX6_wipe_5 rfl (lv_at hl 1 rfl) ?_
  refine lv_iconst (v := 0) hx hb dX6_wipe_6 (by decide) ?_
  refine RM_p_tapeSize (gs' := [wRM g ad eK eT (RM_s_tapeSize rm (0 : Int32))]) X hw 0 rfl kf_X6_157 dX6_wipe_7 rfl (fun H locs hw => ?_)
  refine lv_iload_n hx hb dX6_wipe_10 rfl (lv_at hl 0 rfl) ?_
  have h := Option.some.inj h
  subst h
  exact hret () dX6_wipe_11 rfl hw
theorem kM_X6_isLetter : kM yX6_isLetter cX6_isLetter 1 (some FieldType.boolean) 1 := ⟨kc_X6_isLetter, kn_RingsOffModel, by decide +kernel⟩
abbrev R_X6_isLetter : Room := { frames := 0, cells := 0, slots := 0, locals := 0 }
set_option maxHeartbeats 4000000 in
set_option maxRecDepth 100000 in
theorem c_X6_isLetter (l : Launch) {N : Nat} {p1 : Int32} {out : Int32} (h : M_X6_isLetter N p1 = some out) : gM l yX6_isLetter cX6_isLetter 1 (some FieldType.boolean) R_X6_isLetter (fun _ => [.int p1]) (fun g => []) (gQi (fun (_ : Unit) => out) (fun g (_ : Unit) => [])) := by
  refine gM.ofz (by decide +kernel) (fun _ => Nat.le_of_ble_eq_true rfl) (fun g p e s m args below meth c A ls Q X hret hw hl => ?_)
  have hx := X.1.1
  have hb := X.1.2.1
  have hl : lv_has ls 1 [(0, .int p1)] := hl
  unfold M_X6_isLetter at h
  refine lv_iload_n hx hb dX6_isLetter_0 rfl (lv_at hl 0 rfl) ?_
  refine lv_bipush (v := 97) hx hb dX6_isLetter_1 (by decide) ?_
  refine lv_icmp_lt (tgt := 16) hx hb dX6_isLetter_3 (by decide) (fun k3 => ?_) (fun k3 => ?_)
  · have h := itt k3 h
    refine lv_iconst (v := 0) hx hb dX6_isLetter_16 (by decide) ?_
    have h := Option.some.inj h
    subst h
    exact hret () dX6_isLetter_17 (by decide) rfl hw
  · have h := itf k3 h
    refine lv_iload_n hx hb dX6_isLetter_6 rfl (lv_at hl 0 rfl) ?_
    refine lv_bipush (v := 122) hx hb dX6_isLetter_7 (by decide) ?_
    refine lv_icmp_gt (tgt := 16) hx hb dX6_isLetter_9 (by decide) (fun k9 => ?_) (fun k9 => ?_)
    · have h := itt k9 h
      refine lv_iconst (v := 0) hx hb dX6_isLetter_16 (by decide) ?_
      have h := Option.some.inj h
      subst h
      exact hret () dX6_isLetter_17 (by decide) rfl hw
    · have h := itf k9 h
      refine lv_iconst (v := 1) hx hb dX6_isLetter_12 (by decide) ?_
      refine lv_goto (tgt := 17) hx hb dX6_isLetter_13 (by decide) ?_
      have h := Option.some.inj h
      subst h
      exact hret () dX6_isLetter_17 (by decide) rfl hw
theorem kM_X6_isDigit : kM yX6_isDigit cX6_isDigit 1 (some FieldType.boolean) 1 := ⟨kc_X6_isDigit, kn_RingsOffModel, by decide +kernel⟩
abbrev R_X6_isDigit : Room := { frames := 0, cells := 0, slots := 0, locals := 0 }
set_option maxHeartbeats 4000000 in
set_option maxRecDepth 100000 in
theorem c_X6_isDigit (l : Launch) {N : Nat} {p1 : Int32} {out : Int32} (h : M_X6_isDigit N p1 = some out) : gM l yX6_isDigit cX6_isDigit 1 (some FieldType.boolean) R_X6_isDigit (fun _ => [.int p1]) (fun g => []) (gQi (fun (_ : Unit) => out) (fun g (_ : Unit) => [])) := by
  refine gM.ofz (by decide +kernel) (fun _ => Nat.le_of_ble_eq_true rfl) (fun g p e s m args below meth c A ls Q X hret hw hl => ?_)
  have hx := X.1.1
  have hb := X.1.2.1
  have hl : lv_has ls 1 [(0, .int p1)] := hl
  unfold M_X6_isDigit at h
  refine lv_iload_n hx hb dX6_isDigit_0 rfl (lv_at hl 0 rfl) ?_
  refine lv_bipush (v := 48) hx hb dX6_isDigit_1 (by decide) ?_
  refine lv_icmp_lt (tgt := 16) hx hb dX6_isDigit_3 (by decide) (fun k3 => ?_) (fun k3 => ?_)
  · have h := itt k3 h
    refine lv_iconst (v := 0) hx hb dX6_isDigit_16 (by decide) ?_
    have h := Option.some.inj h
    subst h
    exact hret () dX6_isDigit_17 (by decide) rfl hw
  · have h := itf k3 h
    refine lv_iload_n hx hb dX6_isDigit_6 rfl (lv_at hl 0 rfl) ?_
    refine lv_bipush (v := 57) hx hb dX6_isDigit_7 (by decide) ?_
    refine lv_icmp_gt (tgt := 16) hx hb dX6_isDigit_9 (by decide) (fun k9 => ?_) (fun k9 => ?_)
    · have h := itt k9 h
      refine lv_iconst (v := 0) hx hb dX6_isDigit_16 (by decide) ?_
      have h := Option.some.inj h
      subst h
      exact hret () dX6_isDigit_17 (by decide) rfl hw
    · have h := itf k9 h
      refine lv_iconst (v := 1) hx hb dX6_isDigit_12 (by decide) ?_
      refine lv_goto (tgt := 17) hx hb dX6_isDigit_13 (by decide) ?_
      have h := Option.some.inj h
      subst h
      exact hret () dX6_isDigit_17 (by decide) rfl hw
theorem kM_X6_look : kM yX6_look cX6_look 1 (none : Option Jvm.ClassFile.FieldType) 0 := ⟨kc_X6_look, kn_RingsOffModel, by decide +kernel⟩
abbrev R_X6_look : Room := { frames := 1, cells := 0, slots := 0, locals := 20 }
set_option maxHeartbeats 4000000 in
set_option maxRecDepth 100000 in
theorem c_X6_look (l : Launch) {ad : Nat → Nat} {eK : Option Nat} {eT : Option Nat} {N : Nat} {rm : RM} {out : RM} (h : M_X6_look N rm = some out) : gM l yX6_look cX6_look 1 (none : Option Jvm.ClassFile.FieldType) R_X6_look (fun _ => [.ref (ad 0)]) (fun g => [wRM g ad eK eT rm]) (gQv (fun g (_ : Unit) => [wRM g ad eK eT out])) := by
  refine gM.ofv (by decide +kernel) (fun _ => Nat.le_of_ble_eq_true rfl) (fun g p e s m args below meth c A ls Q X hret hw hl => ?_)
  have hx := X.1.1
  have hb := X.1.2.1
  have hl : lv_has ls 1 [(0, .ref (ad 0))] := hl
  have J250 : ∀ (z250 : RM × Int32), M_X6_look_j250 N z250 = some out → ∀ (H : Heap) (locs : List Loc) (ls : Array Slot), gW g A s.heap [wRM g ad eK eT z250.1] H locs → lv_has ls 1 [(0, .ref (ad 0))] → W p l e R_X6_look s m args below meth c H locs 0 0 Q (F0 m 250 ls [.int z250.2, .ref (ad 0)]) := by
    intro z250 h H locs ls hw hl
    unfold M_X6_look_j250 at h
    refine RM_p_token (gs' := [wRM g ad eK eT (RM_s_token z250.1 z250.2)]) X hw 0 rfl kf_X6_169 dX6_look_250 rfl (fun H locs hw => ?_)
    refine lv_aload_n hx hb dX6_look_253 rfl (lv_at hl 0 rfl) ?_
    refine lv_dup hx hb dX6_look_254 rfl ?_
    refine RM_g_at X hw 0 rfl kf_X6_160 dX6_look_255 ?_
    refine lv_iconst (v := 1) hx hb dX6_look_258 (by decide) ?_
    refine lv_iadd hx hb dX6_look_259 ?_
    refine RM_p_at (gs' := [wRM g ad eK eT (RM_s_at (RM_s_token z250.1 z250.2) ((RM_at (RM_s_token z250.1 z250.2)) + (1 : Int32)))]) X hw 0 rfl kf_X6_160 dX6_look_260 rfl (fun H locs hw => ?_)
    have h := Option.some.inj h
    subst h
    exact hret () dX6_look_263 hw
  have L149 : ∀ (n : Nat) (z149 : RM), lp (M_X6_look_l149 N) n z149 = some out → ∀ (H : Heap) (locs : List Loc) (ls : Array Slot), gW g A s.heap [wRM g ad eK eT z149] H locs → lv_has ls 1 [(0, .ref (ad 0))] → W p l e R_X6_look s m args below meth c H locs 0 0 Q (F0 m 149 ls []) := by
    refine lp_ind ?_
    intro rec149 ih149
    have J214 : ∀ (z214 : RM × Int32), M_X6_look_j214 N rec149 z214 = some out → ∀ (H : Heap) (locs : List Loc) (ls : Array Slot), gW g A s.heap [wRM g ad eK eT z214.1] H locs → lv_has ls 1 [(0, .ref (ad 0))] → W p l e R_X6_look s m args below meth c H locs 0 0 Q (F0 m 214 ls [.int z214.2, .ref (ad 0)]) := by
      intro z214 h H locs ls hw hl
      unfold M_X6_look_j214 at h
      refine RM_p_figures (gs' := [wRM g ad eK eT (RM_s_figures z214.1 z214.2)]) X hw 0 rfl kf_X6_166 dX6_look_214 rfl (fun H locs hw => ?_)
      refine lv_aload_n hx hb dX6_look_217 rfl (lv_at hl 0 rfl) ?_
      refine lv_dup hx hb dX6_look_218 rfl ?_
      refine RM_g_at X hw 0 rfl kf_X6_160 dX6_look_219 ?_
      refine lv_iconst (v := 1) hx hb dX6_look_222 (by decide) ?_
      refine lv_iadd hx hb dX6_look_223 ?_
      refine RM_p_at (gs' := [wRM g ad eK eT (RM_s_at (RM_s_figures z214.1 z214.2) ((RM_at (RM_s_figures z214.1 z214.2)) + (1 : Int32)))]) X hw 0 rfl kf_X6_160 dX6_look_224 rfl (fun H locs hw => ?_)
      refine lv_goto (tgt := 149) hx hb dX6_look_227 (by decide) ?_
      exact ih149 _ h _ _ _ hw (lv_sub hl [0] rfl)
    intro z149 h H locs ls hw hl
    unfold M_X6_look_l149 at h
    refine lv_aload_n hx hb dX6_look_149 rfl (lv_at hl 0 rfl) ?_
    refine RM_g_at X hw 0 rfl kf_X6_160 dX6_look_150 ?_
    refine lv_aload_n hx hb dX6_look_153 rfl (lv_at hl 0 rfl) ?_
    refine RM_g_tapeSize X hw 0 rfl kf_X6_157 dX6_look_154 ?_
    refine lv_icmp_ge (tgt := 263) hx hb dX6_look_157 (by decide) (fun k157 => ?_) (fun k157 => ?_)
    · have h := itt k157 h
      have h := Option.some.inj h
      subst h
      exact hret () dX6_look_263 hw
    · have h := itf k157 h
      refine lv_aload_n hx hb dX6_look_160 rfl (lv_at hl 0 rfl) ?_
      refine RM_g_tape X hw 0 rfl kf_X6_31 dX6_look_161 ?_
      refine lv_aload_n hx hb dX6_look_164 rfl (lv_at hl 0 rfl) ?_
      refine RM_g_at X hw 0 rfl kf_X6_160 dX6_look_165 ?_
      obtain ⟨q168, h⟩ := chk h
      refine RM_l_tape X hw 0 rfl q168 dX6_look_168 ?_
      obtain ⟨r169, h169, h⟩ := bnd h
      refine g_calli0 (isC := []) (gn := fun _ => [wRM g ad eK eT z149]) (g_runS (isC := []) (rest := []) (As := [.int (RM_tape z149 (RM_at z149).toNatClampNeg)]) X hw (c_X6_isDigit l h169) rfl kM_X6_isDigit kt_X6_isDigit km_X6_175 ⟨(Nat.le_of_ble_eq_true rfl), (Nat.le_of_ble_eq_true rfl)⟩ ⟨(Nat.le_of_ble_eq_true rfl), (Nat.le_of_ble_eq_true rfl)⟩ rfl rfl rfl hl.1 rfl (Nat.le_of_ble_eq_true rfl) dX6_look_169) hw rfl rfl (fun _ => (Nat.le_of_ble_eq_true rfl)) (fun _ => rfl) rfl rfl (fun _ H locs hw => ?_)
      refine lv_if_eq (tgt := 263) hx hb dX6_look_172 (by decide) (fun k172 => ?_) (fun k172 => ?_)
      · have h := itt k172 h
        have h := Option.some.inj h
        subst h
        exact hret () dX6_look_263 hw
      · have h := itf k172 h
        refine lv_aload_n hx hb dX6_look_175 rfl (lv_at hl 0 rfl) ?_
        refine lv_aload_n hx hb dX6_look_176 rfl (lv_at hl 0 rfl) ?_
        refine RM_g_at X hw 0 rfl kf_X6_160 dX6_look_177 ?_
        refine lv_aload_n hx hb dX6_look_180 rfl (lv_at hl 0 rfl) ?_
        refine RM_g_from X hw 0 rfl kf_X6_163 dX6_look_181 ?_
        refine lv_isub hx hb dX6_look_184 ?_
        refine lv_iconst (v := 4) hx hb dX6_look_185 (by decide) ?_
        refine lv_icmp_ge (tgt := 212) hx hb dX6_look_186 (by decide) (fun k186 => ?_) (fun k186 => ?_)
        · have h := itt k186 h
          refine lv_ldc hx hb X.1.2.2.2.1 (gK1 X _ kq_X6_178) dX6_look_212 ?_
          exact J214 _ h _ _ _ hw (lv_sub hl [0] rfl)
        · have h := itf k186 h
          refine lv_aload_n hx hb dX6_look_189 rfl (lv_at hl 0 rfl) ?_
          refine RM_g_figures X hw 0 rfl kf_X6_166 dX6_look_190 ?_
          refine lv_bipush (v := 10) hx hb dX6_look_193 (by decide) ?_
          refine lv_imul hx hb dX6_look_195 ?_
          refine lv_aload_n hx hb dX6_look_196 rfl (lv_at hl 0 rfl) ?_
          refine RM_g_tape X hw 0 rfl kf_X6_31 dX6_look_197 ?_
          refine lv_aload_n hx hb dX6_look_200 rfl (lv_at hl 0 rfl) ?_
          refine RM_g_at X hw 0 rfl kf_X6_160 dX6_look_201 ?_
          obtain ⟨q204, h⟩ := chk h
          refine RM_l_tape X hw 0 rfl q204 dX6_look_204 ?_
          refine lv_iadd hx hb dX6_look_205 ?_
          refine lv_bipush (v := 48) hx hb dX6_look_206 (by decide) ?_
          refine lv_isub hx hb dX6_look_208 ?_
          refine lv_goto (tgt := 214) hx hb dX6_look_209 (by decide) ?_
          exact J214 _ h _ _ _ hw (lv_sub hl [0] rfl)
  have L90 : ∀ (n : Nat) (z90 : RM), lp (M_X6_look_l90 N) n z90 = some out → ∀ (H : Heap) (locs : List Loc) (ls : Array Slot), gW g A s.heap [wRM g ad eK eT z90] H locs → lv_has ls 1 [(0, .ref (ad 0))] → W p l e R_X6_look s m args below meth c H locs 0 0 Q (F0 m 90 ls []) := by
    refine lp_ind ?_
    intro rec90 ih90
    intro z90 h H locs ls hw hl
    unfold M_X6_look_l90 at h
    refine lv_aload_n hx hb dX6_look_90 rfl (lv_at hl 0 rfl) ?_
    refine RM_g_at X hw 0 rfl kf_X6_160 dX6_look_91 ?_
    refine lv_aload_n hx hb dX6_look_94 rfl (lv_at hl 0 rfl) ?_
    refine RM_g_tapeSize X hw 0 rfl kf_X6_157 dX6_look_95 ?_
    refine lv_icmp_ge (tgt := 263) hx hb dX6_look_98 (by decide) (fun k98 => ?_) (fun k98 => ?_)
    · have h := itt k98 h
      have h := Option.some.inj h
      subst h
      exact hret () dX6_look_263 hw
    · have h := itf k98 h
      refine lv_aload_n hx hb dX6_look_101 rfl (lv_at hl 0 rfl) ?_
      refine RM_g_tape X hw 0 rfl kf_X6_31 dX6_look_102 ?_
      refine lv_aload_n hx hb dX6_look_105 rfl (lv_at hl 0 rfl) ?_
      refine RM_g_at X hw 0 rfl kf_X6_160 dX6_look_106 ?_
      obtain ⟨q109, h⟩ := chk h
      refine RM_l_tape X hw 0 rfl q109 dX6_look_109 ?_
      obtain ⟨r110, h110, h⟩ := bnd h
      refine g_calli0 (isC := []) (gn := fun _ => [wRM g ad eK eT z90]) (g_runS (isC := []) (rest := []) (As := [.int (RM_tape z90 (RM_at z90).toNatClampNeg)]) X hw (c_X6_isLetter l h110) rfl kM_X6_isLetter kt_X6_isLetter km_X6_172 ⟨(Nat.le_of_ble_eq_true rfl), (Nat.le_of_ble_eq_true rfl)⟩ ⟨(Nat.le_of_ble_eq_true rfl), (Nat.le_of_ble_eq_true rfl)⟩ rfl rfl rfl hl.1 rfl (Nat.le_of_ble_eq_true rfl) dX6_look_110) hw rfl rfl (fun _ => (Nat.le_of_ble_eq_true rfl)) (fun _ => rfl) rfl rfl (fun _ H locs hw => ?_)
      refine lv_if_eq (tgt := 263) hx hb dX6_look_113 (by decide) (fun k113 => ?_) (fun k113 => ?_)
      · have h := itt k113 h
        have h := Option.some.inj h
        subst h
        exact hret () dX6_look_263 hw
      · have h := itf k113 h
        refine lv_aload_n hx hb dX6_look_116 rfl (lv_at hl 0 rfl) ?_
        refine lv_dup hx hb dX6_look_117 rfl ?_
        refine RM_g_at X hw 0 rfl kf_X6_160 dX6_look_118 ?_
        refine lv_iconst (v := 1) hx hb dX6_look_121 (by decide) ?_
        refine lv_iadd hx hb dX6_look_122 ?_
        refine RM_p_at (gs' := [wRM g ad eK eT (RM_s_at z90 ((RM_at z90) + (1 : Int32)))]) X hw 0 rfl kf_X6_160 dX6_look_123 rfl (fun H locs hw => ?_)
        refine lv_goto (tgt := 90) hx hb dX6_look_126 (by decide) ?_
        exact ih90 _ h _ _ _ hw (lv_sub hl [0] rfl)
  have J38 : ∀ (z38 : RM), M_X6_look_j38 N z38 = some out → ∀ (H : Heap) (locs : List Loc) (ls : Array Slot), gW g A s.heap [wRM g ad eK eT z38] H locs → lv_has ls 1 [(0, .ref (ad 0))] → W p l e R_X6_look s m args below meth c H locs 0 0 Q (F0 m 38 ls []) := by
    intro z38 h H locs ls hw hl
    unfold M_X6_look_j38 at h
    refine lv_aload_n hx hb dX6_look_38 rfl (lv_at hl 0 rfl) ?_
    refine lv_aload_n hx hb dX6_look_39 rfl (lv_at hl 0 rfl) ?_
    refine RM_g_at X hw 0 rfl kf_X6_160 dX6_look_40 ?_
    refine RM_p_from (gs' := [wRM g ad eK eT (RM_s_from z38 (RM_at z38))]) X hw 0 rfl kf_X6_163 dX6_look_43 rfl (fun H locs hw => ?_)
    refine lv_aload_n hx hb dX6_look_46 rfl (lv_at hl 0 rfl) ?_
    refine lv_iconst (v := 0) hx hb dX6_look_47 (by decide) ?_
    refine RM_p_figures (gs' := [wRM g ad eK eT (RM_s_figures (RM_s_from z38 (RM_at z38)) (0 : Int32))]) X hw 0 rfl kf_X6_166 dX6_look_48 rfl (fun H locs hw => ?_)
    refine lv_aload_n hx hb dX6_look_51 rfl (lv_at hl 0 rfl) ?_
    refine RM_g_at X hw 0 rfl kf_X6_160 dX6_look_52 ?_
    refine lv_aload_n hx hb dX6_look_55 rfl (lv_at hl 0 rfl) ?_
    refine RM_g_tapeSize X hw 0 rfl kf_X6_157 dX6_look_56 ?_
    refine lv_icmp_ne (tgt := 70) hx hb dX6_look_59 (by decide) (fun k59 => ?_) (fun k59 => ?_)
    · have h := itt k59 h
      refine lv_aload_n hx hb dX6_look_70 rfl (lv_at hl 0 rfl) ?_
      refine RM_g_tape X hw 0 rfl kf_X6_31 dX6_look_71 ?_
      refine lv_aload_n hx hb dX6_look_74 rfl (lv_at hl 0 rfl) ?_
      refine RM_g_at X hw 0 rfl kf_X6_160 dX6_look_75 ?_
      obtain ⟨q78, h⟩ := chk h
      refine RM_l_tape X hw 0 rfl q78 dX6_look_78 ?_
      obtain ⟨r79, h79, h⟩ := bnd h
      refine g_calli0 (isC := []) (gn := fun _ => [wRM g ad eK eT (RM_s_figures (RM_s_from z38 (RM_at z38)) (0 : Int32))]) (g_runS (isC := []) (rest := []) (As := [.int (RM_tape (RM_s_figures (RM_s_from z38 (RM_at z38)) (0 : Int32)) (RM_at (RM_s_figures (RM_s_from z38 (RM_at z38)) (0 : Int32))).toNatClampNeg)]) X hw (c_X6_isLetter l h79) rfl kM_X6_isLetter kt_X6_isLetter km_X6_172 ⟨(Nat.le_of_ble_eq_true rfl), (Nat.le_of_ble_eq_true rfl)⟩ ⟨(Nat.le_of_ble_eq_true rfl), (Nat.le_of_ble_eq_true rfl)⟩ rfl rfl rfl hl.1 rfl (Nat.le_of_ble_eq_true rfl) dX6_look_79) hw rfl rfl (fun _ => (Nat.le_of_ble_eq_true rfl)) (fun _ => rfl) rfl rfl (fun _ H locs hw => ?_)
      refine lv_if_eq (tgt := 129) hx hb dX6_look_82 (by decide) (fun k82 => ?_) (fun k82 => ?_)
      · have h := itt k82 h
        refine lv_aload_n hx hb dX6_look_129 rfl (lv_at hl 0 rfl) ?_
        refine RM_g_tape X hw 0 rfl kf_X6_31 dX6_look_130 ?_
        refine lv_aload_n hx hb dX6_look_133 rfl (lv_at hl 0 rfl) ?_
        refine RM_g_at X hw 0 rfl kf_X6_160 dX6_look_134 ?_
        obtain ⟨q137, h⟩ := chk h
        refine RM_l_tape X hw 0 rfl q137 dX6_look_137 ?_
        obtain ⟨r138, h138, h⟩ := bnd h
        refine g_calli0 (isC := []) (gn := fun _ => [wRM g ad eK eT (RM_s_figures (RM_s_from z38 (RM_at z38)) (0 : Int32))]) (g_runS (isC := []) (rest := []) (As := [.int (RM_tape (RM_s_figures (RM_s_from z38 (RM_at z38)) (0 : Int32)) (RM_at (RM_s_figures (RM_s_from z38 (RM_at z38)) (0 : Int32))).toNatClampNeg)]) X hw (c_X6_isDigit l h138) rfl kM_X6_isDigit kt_X6_isDigit km_X6_175 ⟨(Nat.le_of_ble_eq_true rfl), (Nat.le_of_ble_eq_true rfl)⟩ ⟨(Nat.le_of_ble_eq_true rfl), (Nat.le_of_ble_eq_true rfl)⟩ rfl rfl rfl hl.1 rfl (Nat.le_of_ble_eq_true rfl) dX6_look_138) hw rfl rfl (fun _ => (Nat.le_of_ble_eq_true rfl)) (fun _ => rfl) rfl rfl (fun _ H locs hw => ?_)
        refine lv_if_eq (tgt := 230) hx hb dX6_look_141 (by decide) (fun k141 => ?_) (fun k141 => ?_)
        · have h := itt k141 h
          refine lv_aload_n hx hb dX6_look_230 rfl (lv_at hl 0 rfl) ?_
          refine lv_aload_n hx hb dX6_look_231 rfl (lv_at hl 0 rfl) ?_
          refine RM_g_tape X hw 0 rfl kf_X6_31 dX6_look_232 ?_
          refine lv_aload_n hx hb dX6_look_235 rfl (lv_at hl 0 rfl) ?_
          refine RM_g_at X hw 0 rfl kf_X6_160 dX6_look_236 ?_
          obtain ⟨q239, h⟩ := chk h
          refine RM_l_tape X hw 0 rfl q239 dX6_look_239 ?_
          refine lv_bipush (v := 59) hx hb dX6_look_240 (by decide) ?_
          refine lv_icmp_ne (tgt := 249) hx hb dX6_look_242 (by decide) (fun k242 => ?_) (fun k242 => ?_)
          · have h := itt k242 h
            refine lv_iconst (v := 4) hx hb dX6_look_249 (by decide) ?_
            exact J250 _ h _ _ _ hw (lv_sub hl [0] rfl)
          · have h := itf (fun z => z k242) h
            refine lv_iconst (v := 3) hx hb dX6_look_245 (by decide) ?_
            refine lv_goto (tgt := 250) hx hb dX6_look_246 (by decide) ?_
            exact J250 _ h _ _ _ hw (lv_sub hl [0] rfl)
        · have h := itf k141 h
          refine lv_aload_n hx hb dX6_look_144 rfl (lv_at hl 0 rfl) ?_
          refine lv_iconst (v := 2) hx hb dX6_look_145 (by decide) ?_
          refine RM_p_token (gs' := [wRM g ad eK eT (RM_s_token (RM_s_figures (RM_s_from z38 (RM_at z38)) (0 : Int32)) (2 : Int32))]) X hw 0 rfl kf_X6_169 dX6_look_146 rfl (fun H locs hw => ?_)
          exact L149 N _ h _ _ _ hw (lv_sub hl [0] rfl)
      · have h := itf k82 h
        refine lv_aload_n hx hb dX6_look_85 rfl (lv_at hl 0 rfl) ?_
        refine lv_iconst (v := 1) hx hb dX6_look_86 (by decide) ?_
        refine RM_p_token (gs' := [wRM g ad eK eT (RM_s_token (RM_s_figures (RM_s_from z38 (RM_at z38)) (0 : Int32)) (1 : Int32))]) X hw 0 rfl kf_X6_169 dX6_look_87 rfl (fun H locs hw => ?_)
        exact L90 N _ h _ _ _ hw (lv_sub hl [0] rfl)
    · have h := itf (fun z => z k59) h
      refine lv_aload_n hx hb dX6_look_62 rfl (lv_at hl 0 rfl) ?_
      refine lv_iconst (v := 0) hx hb dX6_look_63 (by decide) ?_
      refine RM_p_token (gs' := [wRM g ad eK eT (RM_s_token (RM_s_figures (RM_s_from z38 (RM_at z38)) (0 : Int32)) (0 : Int32))]) X hw 0 rfl kf_X6_169 dX6_look_64 rfl (fun H locs hw => ?_)
      refine lv_goto (tgt := 263) hx hb dX6_look_67 (by decide) ?_
      have h := Option.some.inj h
      subst h
      exact hret () dX6_look_263 hw
  have L0 : ∀ (n : Nat) (z0 : RM), lp (M_X6_look_l0 N) n z0 = some out → ∀ (H : Heap) (locs : List Loc) (ls : Array Slot), gW g A s.heap [wRM g ad eK eT z0] H locs → lv_has ls 1 [(0, .ref (ad 0))] → W p l e R_X6_look s m args below meth c H locs 0 0 Q (F0 m 0 ls []) := by
    refine lp_ind ?_
    intro rec0 ih0
    intro z0 h H locs ls hw hl
    unfold M_X6_look_l0 at h
    refine lv_aload_n hx hb dX6_look_0 rfl (lv_at hl 0 rfl) ?_
    refine RM_g_at X hw 0 rfl kf_X6_160 dX6_look_1 ?_
    refine lv_aload_n hx hb dX6_look_4 rfl (lv_at hl 0 rfl) ?_
    refine RM_g_tapeSize X hw 0 rfl kf_X6_157 dX6_look_5 ?_
    refine lv_icmp_ge (tgt := 38) hx hb dX6_look_8 (by decide) (fun k8 => ?_) (fun k8 => ?_)
    · have h := itt k8 h
      exact J38 _ h _ _ _ hw (lv_sub hl [0] rfl)
    · have h := itf k8 h
      refine lv_aload_n hx hb dX6_look_11 rfl (lv_at hl 0 rfl) ?_
      refine RM_g_tape X hw 0 rfl kf_X6_31 dX6_look_12 ?_
      refine lv_aload_n hx hb dX6_look_15 rfl (lv_at hl 0 rfl) ?_
      refine RM_g_at X hw 0 rfl kf_X6_160 dX6_look_16 ?_
      obtain ⟨q19, h⟩ := chk h
      refine RM_l_tape X hw 0 rfl q19 dX6_look_19 ?_
      refine lv_bipush (v := 32) hx hb dX6_look_20 (by decide) ?_
      refine lv_icmp_ne (tgt := 38) hx hb dX6_look_22 (by decide) (fun k22 => ?_) (fun k22 => ?_)
      · have h := itt k22 h
        exact J38 _ h _ _ _ hw (lv_sub hl [0] rfl)
      · have h := itf (fun z => z k22) h
        refine lv_aload_n hx hb dX6_look_25 rfl (lv_at hl 0 rfl) ?_
        refine lv_dup hx hb dX6_look_26 rfl ?_
        refine RM_g_at X hw 0 rfl kf_X6_160 dX6_look_27 ?_
        refine lv_iconst (v := 1) hx hb dX6_look_30 (by decide) ?_
        refine lv_iadd hx hb dX6_look_31 ?_
        refine RM_p_at (gs' := [wRM g ad eK eT (RM_s_at z0 ((RM_at z0) + (1 : Int32)))]) X hw 0 rfl kf_X6_160 dX6_look_32 rfl (fun H locs hw => ?_)
        refine lv_goto (tgt := 0) hx hb dX6_look_35 (by decide) ?_
        exact ih0 _ h _ _ _ hw (lv_sub hl [0] rfl)
  unfold M_X6_look at h
  exact L0 N _ h _ _ _ hw (lv_sub hl [0] rfl)
theorem kM_X6_wrong : kM yX6_wrong cX6_wrong 1 (some FieldType.boolean) 0 := ⟨kc_X6_wrong, kn_RingsOffModel, by decide +kernel⟩
abbrev R_X6_wrong : Room := { frames := 0, cells := 0, slots := 0, locals := 0 }
set_option maxHeartbeats 4000000 in
set_option maxRecDepth 100000 in
theorem c_X6_wrong (l : Launch) {ad : Nat → Nat} {eK : Option Nat} {eT : Option Nat} {N : Nat} {rm : RM} {out : Int32 × RM} (h : M_X6_wrong N rm = some out) : gM l yX6_wrong cX6_wrong 1 (some FieldType.boolean) R_X6_wrong (fun _ => [.ref (ad 0)]) (fun g => [wRM g ad eK eT rm]) (gQi (fun (_ : Unit) => out.1) (fun g (_ : Unit) => [wRM g ad eK eT out.2])) := by
  refine gM.ofz (by decide +kernel) (fun _ => Nat.le_of_ble_eq_true rfl) (fun g p e s m args below meth c A ls Q X hret hw hl => ?_)
  have hx := X.1.1
  have hb := X.1.2.1
  have hl : lv_has ls 1 [(0, .ref (ad 0))] := hl
  unfold M_X6_wrong at h
  refine lv_aload_n hx hb dX6_wrong_0 rfl (lv_at hl 0 rfl) ?_
  refine lv_aload_n hx hb dX6_wrong_1 rfl (lv_at hl 0 rfl) ?_
  refine RM_g_from X hw 0 rfl kf_X6_163 dX6_wrong_2 ?_
  refine RM_p_fault (gs' := [wRM g ad eK eT (RM_s_fault rm (RM_from rm))]) X hw 0 rfl kf_X6_179 dX6_wrong_5 rfl (fun H locs hw => ?_)
  refine lv_iconst (v := 0) hx hb dX6_wrong_8 (by decide) ?_
  have h := Option.some.inj h
  subst h
  exact hret () dX6_wrong_9 (by decide) rfl hw
