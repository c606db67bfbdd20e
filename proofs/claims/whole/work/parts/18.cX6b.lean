theorem kM_X6_number : kM yX6_number cX6_number 4 (some FieldType.boolean) 3 := ⟨kc_X6_number, kn_RingsOffModel, by decide +kernel⟩
abbrev R_X6_number : Room := { frames := 2, cells := 0, slots := 0, locals := 40 }
set_option maxHeartbeats 4000000 in
set_option maxRecDepth 100000 in
theorem c_X6_number (l : Launch) {ad : Nat → Nat} {eK : Option Nat} {eT : Option Nat} {N : Nat} {rm : RM} {p1 : Int32} {p2 : Int32} {p3 : Int32} {out : Int32 × RM} (h : M_X6_number N rm p1 p2 p3 = some out) : gM l yX6_number cX6_number 4 (some FieldType.boolean) R_X6_number (fun _ => [.ref (ad 0), .int p1, .int p2, .int p3]) (fun g => [wRM g ad eK eT rm]) (gQi (fun (_ : Unit) => out.1) (fun g (_ : Unit) => [wRM g ad eK eT out.2])) := by
  refine gM.ofz (by decide +kernel) (fun _ => Nat.le_of_ble_eq_true rfl) (fun g p e s m args below meth c A ls Q X hret hw hl => ?_)
  have hx := X.1.1
  have hb := X.1.2.1
  have hl : lv_has ls 4 [(0, .ref (ad 0)), (1, .int p1), (2, .int p2), (3, .int p3)] := hl
  have J23 : ∀ (z23 : RM), M_X6_number_j23 N p1 p2 p3 z23 = some out → ∀ (H : Heap) (locs : List Loc) (ls : Array Slot), gW g A s.heap [wRM g ad eK eT z23] H locs → lv_has ls 4 [(0, .ref (ad 0))] → W p l e R_X6_number s m args below meth c H locs 0 0 Q (F0 m 23 ls []) := by
    intro z23 h H locs ls hw hl
    unfold M_X6_number_j23 at h
    refine lv_aload_n hx hb dX6_number_23 rfl (lv_at hl 0 rfl) ?_
    obtain ⟨r24, h24, h⟩ := bnd h
    refine g_calli0 (isC := [0]) (gn := fun _ => [wRM g ad eK eT r24.2]) (g_runV (isC := [0]) (rest := []) (As := []) X hw (c_X6_wrong l (ad := ad) (eK := eK) (eT := eT) h24) rfl kM_X6_wrong ki_X6_wrong ks_X6_wrong km_X6_192 ⟨(Nat.le_of_ble_eq_true rfl), (Nat.le_of_ble_eq_true rfl)⟩ ⟨(Nat.le_of_ble_eq_true rfl), (Nat.le_of_ble_eq_true rfl)⟩ rfl rfl ⟨_, _, _, _, rfl, rfl, rfl, rfl⟩ rfl hl.1 rfl (Nat.le_of_ble_eq_true rfl) dX6_number_24) hw rfl rfl (fun _ => (Nat.le_of_ble_eq_true rfl)) (fun _ => rfl) rfl rfl (fun _ H locs hw => ?_)
    obtain ⟨q27, h⟩ := chk h
    have h := Option.some.inj h
    subst h
    exact hret () dX6_number_27 (Decidable.not_not.mp q27) rfl hw
  unfold M_X6_number at h
  refine lv_aload_n hx hb dX6_number_0 rfl (lv_at hl 0 rfl) ?_
  refine RM_g_token X hw 0 rfl kf_X6_169 dX6_number_1 ?_
  refine lv_iconst (v := 2) hx hb dX6_number_4 (by decide) ?_
  refine lv_icmp_ne (tgt := 23) hx hb dX6_number_5 (by decide) (fun k5 => ?_) (fun k5 => ?_)
  · have h := itt k5 h
    exact J23 _ h _ _ _ hw (lv_sub hl [0] rfl)
  · have h := itf (fun z => z k5) h
    refine lv_aload_n hx hb dX6_number_8 rfl (lv_at hl 0 rfl) ?_
    refine RM_g_figures X hw 0 rfl kf_X6_166 dX6_number_9 ?_
    refine lv_i2l (v := (RM_figures rm).toInt64) hx hb dX6_number_12 rfl ?_
    refine lv_iload_n hx hb dX6_number_13 rfl (lv_at hl 2 rfl) ?_
    refine lv_i2l (v := p2.toInt64) hx hb dX6_number_14 rfl ?_
    refine lv_iload_n hx hb dX6_number_15 rfl (lv_at hl 3 rfl) ?_
    refine lv_i2l (v := p3.toInt64) hx hb dX6_number_16 rfl ?_
    obtain ⟨r17, h17, h⟩ := bnd h
    refine g_calli0 (isC := []) (gn := fun _ => [wRM g ad eK eT rm]) (g_runS (isC := []) (rest := []) (As := [.long (RM_figures rm).toInt64, .long p2.toInt64, .long p3.toInt64]) X hw (c_X6_in l h17) rfl kM_X6_in kt_X6_in km_X6_82 ⟨(Nat.le_of_ble_eq_true rfl), (Nat.le_of_ble_eq_true rfl)⟩ ⟨(Nat.le_of_ble_eq_true rfl), (Nat.le_of_ble_eq_true rfl)⟩ rfl rfl rfl hl.1 rfl (Nat.le_of_ble_eq_true rfl) dX6_number_17) hw rfl rfl (fun _ => (Nat.le_of_ble_eq_true rfl)) (fun _ => rfl) rfl rfl (fun _ H locs hw => ?_)
    refine lv_if_ne (tgt := 28) hx hb dX6_number_20 (by decide) (fun k20 => ?_) (fun k20 => ?_)
    · have h := itt k20 h
      refine lv_aload_n hx hb dX6_number_28 rfl (lv_at hl 0 rfl) ?_
      refine RM_g_told X hw 0 rfl kf_X6_64 dX6_number_29 ?_
      refine lv_iload_n hx hb dX6_number_32 rfl (lv_at hl 1 rfl) ?_
      refine lv_aload_n hx hb dX6_number_33 rfl (lv_at hl 0 rfl) ?_
      refine RM_g_figures X hw 0 rfl kf_X6_166 dX6_number_34 ?_
      obtain ⟨q37, h⟩ := chk h
      refine RM_a_told (gs' := [wRM g ad eK eT (RM_s_told rm (upd (RM_told rm) p1.toNatClampNeg (RM_figures rm)))]) X hw 0 rfl q37 dX6_number_37 rfl (fun H locs hw => ?_)
      refine lv_aload_n hx hb dX6_number_38 rfl (lv_at hl 0 rfl) ?_
      obtain ⟨r39, h39, h⟩ := bnd h
      refine g_callv0 (isC := [0]) (gn := fun _ => [wRM g ad eK eT r39]) (g_runV (isC := [0]) (rest := []) (As := []) X hw (c_X6_look l (ad := ad) (eK := eK) (eT := eT) h39) rfl kM_X6_look ki_X6_look ks_X6_look km_X6_196 ⟨(Nat.le_of_ble_eq_true rfl), (Nat.le_of_ble_eq_true rfl)⟩ ⟨(Nat.le_of_ble_eq_true rfl), (Nat.le_of_ble_eq_true rfl)⟩ rfl rfl ⟨_, _, _, _, rfl, rfl, rfl, rfl⟩ rfl hl.1 rfl (Nat.le_of_ble_eq_true rfl) dX6_number_39) hw rfl rfl (fun _ => (Nat.le_of_ble_eq_true rfl)) (fun _ => rfl) rfl rfl (fun _ H locs hw => ?_)
      refine lv_iconst (v := 1) hx hb dX6_number_42 (by decide) ?_
      have h := Option.some.inj h
      subst h
      exact hret () dX6_number_43 (by decide) rfl hw
    · have h := itf (fun z => z k20) h
      exact J23 _ h _ _ _ hw (lv_sub hl [0] rfl)
theorem kM_X6_tells : kM yX6_tells cX6_tells 3 (some FieldType.boolean) 2 := ⟨kc_X6_tells, kn_RingsOffModel, by decide +kernel⟩
abbrev R_X6_tells : Room := { frames := 3, cells := 0, slots := 0, locals := 63 }
set_option maxHeartbeats 4000000 in
set_option maxRecDepth 100000 in
theorem c_X6_tells (l : Launch) {ad : Nat → Nat} {eK : Option Nat} {eT : Option Nat} {N : Nat} {rm : RM} {p1 : Int32} {p2 : Int32} {out : Int32 × RM} (h : M_X6_tells N rm p1 p2 = some out) : gM l yX6_tells cX6_tells 3 (some FieldType.boolean) R_X6_tells (fun _ => [.ref (ad 0), .int p1, .int p2]) (fun g => [wRM g ad eK eT rm]) (gQi (fun (_ : Unit) => out.1) (fun g (_ : Unit) => [wRM g ad eK eT out.2])) := by
  refine gM.ofz (by decide +kernel) (fun _ => Nat.le_of_ble_eq_true rfl) (fun g p e s m args below meth c A ls Q X hret hw hl => ?_)
  have hx := X.1.1
  have hb := X.1.2.1
  have hl : lv_has ls 3 [(0, .ref (ad 0)), (1, .int p1), (2, .int p2)] := hl
  unfold M_X6_tells at h
  refine lv_aload_n hx hb dX6_tells_0 rfl (lv_at hl 0 rfl) ?_
  obtain ⟨r1, h1, h⟩ := bnd h
  refine g_callv0 (isC := [0]) (gn := fun _ => [wRM g ad eK eT r1]) (g_runV (isC := [0]) (rest := []) (As := []) X hw (c_X6_look l (ad := ad) (eK := eK) (eT := eT) h1) rfl kM_X6_look ki_X6_look ks_X6_look km_X6_196 ⟨(Nat.le_of_ble_eq_true rfl), (Nat.le_of_ble_eq_true rfl)⟩ ⟨(Nat.le_of_ble_eq_true rfl), (Nat.le_of_ble_eq_true rfl)⟩ rfl rfl ⟨_, _, _, _, rfl, rfl, rfl, rfl⟩ rfl hl.1 rfl (Nat.le_of_ble_eq_true rfl) dX6_tells_1) hw rfl rfl (fun _ => (Nat.le_of_ble_eq_true rfl)) (fun _ => rfl) rfl rfl (fun _ H locs hw => ?_)
  refine lv_aload_n hx hb dX6_tells_4 rfl (lv_at hl 0 rfl) ?_
  refine lv_iconst (v := 0) hx hb dX6_tells_5 (by decide) ?_
  refine lv_iload_n hx hb dX6_tells_6 rfl (lv_at hl 1 rfl) ?_
  refine lv_iload_n hx hb dX6_tells_7 rfl (lv_at hl 2 rfl) ?_
  obtain ⟨r8, h8, h⟩ := bnd h
  refine g_calli0 (isC := [0]) (gn := fun _ => [wRM g ad eK eT r8.2]) (g_runV (isC := [0]) (rest := []) (As := [.int (0 : Int32), .int p1, .int p2]) X hw (c_X6_number l (ad := ad) (eK := eK) (eT := eT) h8) rfl kM_X6_number ki_X6_number ks_X6_number km_X6_199 ⟨(Nat.le_of_ble_eq_true rfl), (Nat.le_of_ble_eq_true rfl)⟩ ⟨(Nat.le_of_ble_eq_true rfl), (Nat.le_of_ble_eq_true rfl)⟩ rfl rfl ⟨_, _, _, _, rfl, rfl, rfl, rfl⟩ rfl hl.1 rfl (Nat.le_of_ble_eq_true rfl) dX6_tells_8) hw rfl rfl (fun _ => (Nat.le_of_ble_eq_true rfl)) (fun _ => rfl) rfl rfl (fun _ H locs hw => ?_)
  obtain ⟨q11, h⟩ := chk h
  have h := Option.some.inj h
  subst h
  exact hret () dX6_tells_11 (Decidable.not_not.mp q11) rfl hw
theorem kM_X6_tableTold : kM yX6_tableTold cX6_tableTold 2 (some FieldType.boolean) 0 := ⟨kc_X6_tableTold, kn_RingsOffModel, by decide +kernel⟩
abbrev R_X6_tableTold : Room := { frames := 3, cells := 0, slots := 0, locals := 63 }
set_option maxHeartbeats 4000000 in
set_option maxRecDepth 100000 in
theorem c_X6_tableTold (l : Launch) {ad : Nat → Nat} {eK : Option Nat} {eT : Option Nat} {N : Nat} {rm : RM} {out : Int32 × RM} (h : M_X6_tableTold N rm = some out) : gM l yX6_tableTold cX6_tableTold 2 (some FieldType.boolean) R_X6_tableTold (fun _ => [.ref (ad 0)]) (fun g => [wRM g ad eK eT rm]) (gQi (fun (_ : Unit) => out.1) (fun g (_ : Unit) => [wRM g ad eK eT out.2])) := by
  refine gM.ofz (by decide +kernel) (fun _ => Nat.le_of_ble_eq_true rfl) (fun g p e s m args below meth c A ls Q X hret hw hl => ?_)
  have hx := X.1.1
  have hb := X.1.2.1
  have hl : lv_has ls 2 [(0, .ref (ad 0))] := hl
  have J41 : ∀ (z41 : RM), M_X6_tableTold_j41 N z41 = some out → ∀ (H : Heap) (locs : List Loc) (ls : Array Slot), gW g A s.heap [wRM g ad eK eT z41] H locs → lv_has ls 2 [(0, .ref (ad 0))] → W p l e R_X6_tableTold s m args below meth c H locs 0 0 Q (F0 m 41 ls []) := by
    intro z41 h H locs ls hw hl
    unfold M_X6_tableTold_j41 at h
    refine lv_aload_n hx hb dX6_tableTold_41 rfl (lv_at hl 0 rfl) ?_
    refine lv_iconst (v := 0) hx hb dX6_tableTold_42 (by decide) ?_
    refine lv_iconst (v := 0) hx hb dX6_tableTold_43 (by decide) ?_
    refine lv_aload_n hx hb dX6_tableTold_44 rfl (lv_at hl 0 rfl) ?_
    refine RM_g_bars X hw 0 rfl kf_X6_79 dX6_tableTold_45 ?_
    refine lv_iconst (v := 1) hx hb dX6_tableTold_48 (by decide) ?_
    refine lv_isub hx hb dX6_tableTold_49 ?_
    obtain ⟨r50, h50, h⟩ := bnd h
    refine g_calli0 (isC := [0]) (gn := fun _ => [wRM g ad eK eT r50.2]) (g_runV (isC := [0]) (rest := []) (As := [.int (0 : Int32), .int (0 : Int32), .int ((RM_bars z41) - (1 : Int32))]) X hw (c_X6_number l (ad := ad) (eK := eK) (eT := eT) h50) rfl kM_X6_number ki_X6_number ks_X6_number km_X6_199 ⟨(Nat.le_of_ble_eq_true rfl), (Nat.le_of_ble_eq_true rfl)⟩ ⟨(Nat.le_of_ble_eq_true rfl), (Nat.le_of_ble_eq_true rfl)⟩ rfl rfl ⟨_, _, _, _, rfl, rfl, rfl, rfl⟩ rfl hl.1 rfl (Nat.le_of_ble_eq_true rfl) dX6_tableTold_50) hw rfl rfl (fun _ => (Nat.le_of_ble_eq_true rfl)) (fun _ => rfl) rfl rfl (fun _ H locs hw => ?_)
    refine lv_if_ne (tgt := 58) hx hb dX6_tableTold_53 (by decide) (fun k53 => ?_) (fun k53 => ?_)
    · have h := itt k53 h
      refine lv_aload_n hx hb dX6_tableTold_58 rfl (lv_at hl 0 rfl) ?_
      refine RM_g_told X hw 0 rfl kf_X6_64 dX6_tableTold_59 ?_
      refine lv_iconst (v := 0) hx hb dX6_tableTold_62 (by decide) ?_
      obtain ⟨q63, h⟩ := chk h
      refine RM_l_told X hw 0 rfl q63 dX6_tableTold_63 ?_
      refine lv_istore_n (lv' := [(1, .int (RM_told r50.2 (0 : Int32).toNatClampNeg)), (0, .ref (ad 0))]) hx hb dX6_tableTold_64 rfl hl (by decide) rfl (fun ls hl => ?_)
      refine lv_aload_n hx hb dX6_tableTold_65 rfl (lv_at hl 1 rfl) ?_
      refine lv_iconst (v := 1) hx hb dX6_tableTold_66 (by decide) ?_
      refine lv_iconst (v := 0) hx hb dX6_tableTold_67 (by decide) ?_
      refine lv_aload_n hx hb dX6_tableTold_68 rfl (lv_at hl 1 rfl) ?_
      refine RM_g_size X hw 0 rfl kf_X6_40 dX6_tableTold_69 ?_
      refine lv_iload_n hx hb dX6_tableTold_72 rfl (lv_at hl 0 rfl) ?_
      obtain ⟨q73, h⟩ := chk h
      refine RM_l_size X hw 0 rfl q73 dX6_tableTold_73 ?_
      refine lv_iconst (v := 1) hx hb dX6_tableTold_74 (by decide) ?_
      refine lv_isub hx hb dX6_tableTold_75 ?_
      obtain ⟨r76, h76, h⟩ := bnd h
      refine g_calli0 (isC := [0]) (gn := fun _ => [wRM g ad eK eT r76.2]) (g_runV (isC := [0]) (rest := []) (As := [.int (1 : Int32), .int (0 : Int32), .int ((RM_size r50.2 (RM_told r50.2 (0 : Int32).toNatClampNeg).toNatClampNeg) - (1 : Int32))]) X hw (c_X6_number l (ad := ad) (eK := eK) (eT := eT) h76) rfl kM_X6_number ki_X6_number ks_X6_number km_X6_199 ⟨(Nat.le_of_ble_eq_true rfl), (Nat.le_of_ble_eq_true rfl)⟩ ⟨(Nat.le_of_ble_eq_true rfl), (Nat.le_of_ble_eq_true rfl)⟩ rfl rfl ⟨_, _, _, _, rfl, rfl, rfl, rfl⟩ rfl hl.1 rfl (Nat.le_of_ble_eq_true rfl) dX6_tableTold_76) hw rfl rfl (fun _ => (Nat.le_of_ble_eq_true rfl)) (fun _ => rfl) rfl rfl (fun _ H locs hw => ?_)
      refine lv_if_eq (tgt := 110) hx hb dX6_tableTold_79 (by decide) (fun k79 => ?_) (fun k79 => ?_)
      · have h := itt k79 h
        refine lv_iconst (v := 0) hx hb dX6_tableTold_110 (by decide) ?_
        have h := Option.some.inj h
        subst h
        exact hret () dX6_tableTold_111 (by decide) rfl hw
      · have h := itf k79 h
        refine lv_aload_n hx hb dX6_tableTold_82 rfl (lv_at hl 1 rfl) ?_
        refine lv_iconst (v := 2) hx hb dX6_tableTold_83 (by decide) ?_
        refine lv_iconst (v := 0) hx hb dX6_tableTold_84 (by decide) ?_
        refine lv_aload_n hx hb dX6_tableTold_85 rfl (lv_at hl 1 rfl) ?_
        refine lv_iload_n hx hb dX6_tableTold_86 rfl (lv_at hl 0 rfl) ?_
        obtain ⟨r87, h87, h⟩ := bnd h
        refine g_calli0 (isC := [0]) (gn := fun _ => [wRM g ad eK eT r76.2]) (g_runV (isC := [0]) (rest := [.int (0 : Int32), .int (2 : Int32), .ref (ad 0)]) (As := [.int (RM_told r50.2 (0 : Int32).toNatClampNeg)]) X hw (c_X6_all l (ad := ad) (eK := eK) (eT := eT) h87) rfl kM_X6_all ki_X6_all ks_X6_all km_X6_86 ⟨(Nat.le_of_ble_eq_true rfl), (Nat.le_of_ble_eq_true rfl)⟩ ⟨(Nat.le_of_ble_eq_true rfl), (Nat.le_of_ble_eq_true rfl)⟩ rfl rfl ⟨_, _, _, _, rfl, rfl, rfl, rfl⟩ rfl hl.1 rfl (Nat.le_of_ble_eq_true rfl) dX6_tableTold_87) hw rfl rfl (fun _ => (Nat.le_of_ble_eq_true rfl)) (fun _ => rfl) rfl rfl (fun _ H locs hw => ?_)
        obtain ⟨r90, h90, h⟩ := bnd h
        refine g_calli0 (isC := [0]) (gn := fun _ => [wRM g ad eK eT r90.2]) (g_runV (isC := [0]) (rest := []) (As := [.int (2 : Int32), .int (0 : Int32), .int r87]) X hw (c_X6_number l (ad := ad) (eK := eK) (eT := eT) h90) rfl kM_X6_number ki_X6_number ks_X6_number km_X6_199 ⟨(Nat.le_of_ble_eq_true rfl), (Nat.le_of_ble_eq_true rfl)⟩ ⟨(Nat.le_of_ble_eq_true rfl), (Nat.le_of_ble_eq_true rfl)⟩ rfl rfl ⟨_, _, _, _, rfl, rfl, rfl, rfl⟩ rfl hl.1 rfl (Nat.le_of_ble_eq_true rfl) dX6_tableTold_90) hw rfl rfl (fun _ => (Nat.le_of_ble_eq_true rfl)) (fun _ => rfl) rfl rfl (fun _ H locs hw => ?_)
        refine lv_if_eq (tgt := 110) hx hb dX6_tableTold_93 (by decide) (fun k93 => ?_) (fun k93 => ?_)
        · have h := itt k93 h
          refine lv_iconst (v := 0) hx hb dX6_tableTold_110 (by decide) ?_
          have h := Option.some.inj h
          subst h
          exact hret () dX6_tableTold_111 (by decide) rfl hw
        · have h := itf k93 h
          refine lv_aload_n hx hb dX6_tableTold_96 rfl (lv_at hl 1 rfl) ?_
          refine lv_iconst (v := 3) hx hb dX6_tableTold_97 (by decide) ?_
          refine lv_iconst (v := 0) hx hb dX6_tableTold_98 (by decide) ?_
          refine lv_aload_n hx hb dX6_tableTold_99 rfl (lv_at hl 1 rfl) ?_
          refine lv_iload_n hx hb dX6_tableTold_100 rfl (lv_at hl 0 rfl) ?_
          obtain ⟨r101, h101, h⟩ := bnd h
          refine g_calli0 (isC := [0]) (gn := fun _ => [wRM g ad eK eT r90.2]) (g_runV (isC := [0]) (rest := [.int (0 : Int32), .int (3 : Int32), .ref (ad 0)]) (As := [.int (RM_told r50.2 (0 : Int32).toNatClampNeg)]) X hw (c_X6_all l (ad := ad) (eK := eK) (eT := eT) h101) rfl kM_X6_all ki_X6_all ks_X6_all km_X6_86 ⟨(Nat.le_of_ble_eq_true rfl), (Nat.le_of_ble_eq_true rfl)⟩ ⟨(Nat.le_of_ble_eq_true rfl), (Nat.le_of_ble_eq_true rfl)⟩ rfl rfl ⟨_, _, _, _, rfl, rfl, rfl, rfl⟩ rfl hl.1 rfl (Nat.le_of_ble_eq_true rfl) dX6_tableTold_101) hw rfl rfl (fun _ => (Nat.le_of_ble_eq_true rfl)) (fun _ => rfl) rfl rfl (fun _ H locs hw => ?_)
          obtain ⟨r104, h104, h⟩ := bnd h
          refine g_calli0 (isC := [0]) (gn := fun _ => [wRM g ad eK eT r104.2]) (g_runV (isC := [0]) (rest := []) (As := [.int (3 : Int32), .int (0 : Int32), .int r101]) X hw (c_X6_number l (ad := ad) (eK := eK) (eT := eT) h104) rfl kM_X6_number ki_X6_number ks_X6_number km_X6_199 ⟨(Nat.le_of_ble_eq_true rfl), (Nat.le_of_ble_eq_true rfl)⟩ ⟨(Nat.le_of_ble_eq_true rfl), (Nat.le_of_ble_eq_true rfl)⟩ rfl rfl ⟨_, _, _, _, rfl, rfl, rfl, rfl⟩ rfl hl.1 rfl (Nat.le_of_ble_eq_true rfl) dX6_tableTold_104) hw rfl rfl (fun _ => (Nat.le_of_ble_eq_true rfl)) (fun _ => rfl) rfl rfl (fun _ H locs hw => ?_)
          refine lv_if_ne (tgt := 112) hx hb dX6_tableTold_107 (by decide) (fun k107 => ?_) (fun k107 => ?_)
          · have h := itt k107 h
            refine lv_aload_n hx hb dX6_tableTold_112 rfl (lv_at hl 1 rfl) ?_
            refine RM_g_must X hw 0 rfl kf_X6_51 dX6_tableTold_113 ?_
            refine lv_iload_n hx hb dX6_tableTold_116 rfl (lv_at hl 0 rfl) ?_
            obtain ⟨q117, h⟩ := chk h
            have o117 := Nat.not_le.mp (fun z => q117 (Or.inr z))
            refine RM_q_must X hw 0 rfl q117 dX6_tableTold_117 ?_
            refine lv_aload_n hx hb dX6_tableTold_118 rfl (lv_at hl 1 rfl) ?_
            refine RM_g_told X hw 0 rfl kf_X6_64 dX6_tableTold_119 ?_
            refine lv_iconst (v := 1) hx hb dX6_tableTold_122 (by decide) ?_
            obtain ⟨q123, h⟩ := chk h
            refine RM_l_told X hw 0 rfl q123 dX6_tableTold_123 ?_
            refine lv_aload_n hx hb dX6_tableTold_124 rfl (lv_at hl 1 rfl) ?_
            refine RM_g_told X hw 0 rfl kf_X6_64 dX6_tableTold_125 ?_
            refine lv_iconst (v := 2) hx hb dX6_tableTold_128 (by decide) ?_
            obtain ⟨q129, h⟩ := chk h
            refine RM_l_told X hw 0 rfl q129 dX6_tableTold_129 ?_
            obtain ⟨q130, h⟩ := chk h
            refine RM_a_must (gs' := [wRM g ad eK eT (RM_s_must r104.2 (va_up (RM_must r104.2) ((RM_told r50.2 (0 : Int32).toNatClampNeg).toNatClampNeg) (upd (RM_must r104.2 ((RM_told r50.2 (0 : Int32).toNatClampNeg).toNatClampNeg)) (RM_told r104.2 (1 : Int32).toNatClampNeg).toNatClampNeg (RM_told r104.2 (2 : Int32).toNatClampNeg))))]) X hw 0 rfl o117 q130 dX6_tableTold_130 rfl (fun H locs hw => ?_)
            refine lv_aload_n hx hb dX6_tableTold_131 rfl (lv_at hl 1 rfl) ?_
            refine RM_g_not X hw 0 rfl kf_X6_54 dX6_tableTold_132 ?_
            refine lv_iload_n hx hb dX6_tableTold_135 rfl (lv_at hl 0 rfl) ?_
            obtain ⟨q136, h⟩ := chk h
            have o136 := Nat.not_le.mp (fun z => q136 (Or.inr z))
            refine RM_q_not X hw 0 rfl q136 dX6_tableTold_136 ?_
            refine lv_aload_n hx hb dX6_tableTold_137 rfl (lv_at hl 1 rfl) ?_
            refine RM_g_told X hw 0 rfl kf_X6_64 dX6_tableTold_138 ?_
            refine lv_iconst (v := 1) hx hb dX6_tableTold_141 (by decide) ?_
            obtain ⟨q142, h⟩ := chk h
            refine RM_l_told X hw 0 rfl q142 dX6_tableTold_142 ?_
            refine lv_aload_n hx hb dX6_tableTold_143 rfl (lv_at hl 1 rfl) ?_
            refine RM_g_told X hw 0 rfl kf_X6_64 dX6_tableTold_144 ?_
            refine lv_iconst (v := 3) hx hb dX6_tableTold_147 (by decide) ?_
            obtain ⟨q148, h⟩ := chk h
            refine RM_l_told X hw 0 rfl q148 dX6_tableTold_148 ?_
            obtain ⟨q149, h⟩ := chk h
            refine RM_a_not (gs' := [wRM g ad eK eT (RM_s_not (RM_s_must r104.2 (va_up (RM_must r104.2) ((RM_told r50.2 (0 : Int32).toNatClampNeg).toNatClampNeg) (upd (RM_must r104.2 ((RM_told r50.2 (0 : Int32).toNatClampNeg).toNatClampNeg)) (RM_told r104.2 (1 : Int32).toNatClampNeg).toNatClampNeg (RM_told r104.2 (2 : Int32).toNatClampNeg)))) (va_up (RM_not (RM_s_must r104.2 (va_up (RM_must r104.2) ((RM_told r50.2 (0 : Int32).toNatClampNeg).toNatClampNeg) (upd (RM_must r104.2 ((RM_told r50.2 (0 : Int32).toNatClampNeg).toNatClampNeg)) (RM_told r104.2 (1 : Int32).toNatClampNeg).toNatClampNeg (RM_told r104.2 (2 : Int32).toNatClampNeg))))) ((RM_told r50.2 (0 : Int32).toNatClampNeg).toNatClampNeg) (upd (RM_not (RM_s_must r104.2 (va_up (RM_must r104.2) ((RM_told r50.2 (0 : Int32).toNatClampNeg).toNatClampNeg) (upd (RM_must r104.2 ((RM_told r50.2 (0 : Int32).toNatClampNeg).toNatClampNeg)) (RM_told r104.2 (1 : Int32).toNatClampNeg).toNatClampNeg (RM_told r104.2 (2 : Int32).toNatClampNeg)))) ((RM_told r50.2 (0 : Int32).toNatClampNeg).toNatClampNeg)) (RM_told (RM_s_must r104.2 (va_up (RM_must r104.2) ((RM_told r50.2 (0 : Int32).toNatClampNeg).toNatClampNeg) (upd (RM_must r104.2 ((RM_told r50.2 (0 : Int32).toNatClampNeg).toNatClampNeg)) (RM_told r104.2 (1 : Int32).toNatClampNeg).toNatClampNeg (RM_told r104.2 (2 : Int32).toNatClampNeg)))) (1 : Int32).toNatClampNeg).toNatClampNeg (RM_told (RM_s_must r104.2 (va_up (RM_must r104.2) ((RM_told r50.2 (0 : Int32).toNatClampNeg).toNatClampNeg) (upd (RM_must r104.2 ((RM_told r50.2 (0 : Int32).toNatClampNeg).toNatClampNeg)) (RM_told r104.2 (1 : Int32).toNatClampNeg).toNatClampNeg (RM_told r104.2 (2 : Int32).toNatClampNeg)))) (3 : Int32).toNatClampNeg))))]) X hw 0 rfl o136 q149 dX6_tableTold_149 rfl (fun H locs hw => ?_)
            refine lv_iconst (v := 1) hx hb dX6_tableTold_150 (by decide) ?_
            have h := Option.some.inj h
            subst h
            exact hret () dX6_tableTold_151 (by decide) rfl hw
          · have h := itf (fun z => z k107) h
            refine lv_iconst (v := 0) hx hb dX6_tableTold_110 (by decide) ?_
            have h := Option.some.inj h
            subst h
            exact hret () dX6_tableTold_111 (by decide) rfl hw
    · have h := itf (fun z => z k53) h
      refine lv_iconst (v := 0) hx hb dX6_tableTold_56 (by decide) ?_
      have h := Option.some.inj h
      subst h
      exact hret () dX6_tableTold_57 (by decide) rfl hw
  unfold M_X6_tableTold at h
  refine lv_aload_n hx hb dX6_tableTold_0 rfl (lv_at hl 0 rfl) ?_
  obtain ⟨r1, h1, h⟩ := bnd h
  refine g_callv0 (isC := [0]) (gn := fun _ => [wRM g ad eK eT r1]) (g_runV (isC := [0]) (rest := []) (As := []) X hw (c_X6_look l (ad := ad) (eK := eK) (eT := eT) h1) rfl kM_X6_look ki_X6_look ks_X6_look km_X6_196 ⟨(Nat.le_of_ble_eq_true rfl), (Nat.le_of_ble_eq_true rfl)⟩ ⟨(Nat.le_of_ble_eq_true rfl), (Nat.le_of_ble_eq_true rfl)⟩ rfl rfl ⟨_, _, _, _, rfl, rfl, rfl, rfl⟩ rfl hl.1 rfl (Nat.le_of_ble_eq_true rfl) dX6_tableTold_1) hw rfl rfl (fun _ => (Nat.le_of_ble_eq_true rfl)) (fun _ => rfl) rfl rfl (fun _ H locs hw => ?_)
  refine lv_aload_n hx hb dX6_tableTold_4 rfl (lv_at hl 0 rfl) ?_
  refine RM_g_token X hw 0 rfl kf_X6_169 dX6_tableTold_5 ?_
  refine lv_iconst (v := 2) hx hb dX6_tableTold_8 (by decide) ?_
  refine lv_icmp_ne (tgt := 41) hx hb dX6_tableTold_9 (by decide) (fun k9 => ?_) (fun k9 => ?_)
  · have h := itt k9 h
    exact J41 _ h _ _ _ hw (lv_sub hl [0] rfl)
  · have h := itf (fun z => z k9) h
    refine lv_aload_n hx hb dX6_tableTold_12 rfl (lv_at hl 0 rfl) ?_
    refine RM_g_figures X hw 0 rfl kf_X6_166 dX6_tableTold_13 ?_
    refine lv_aload_n hx hb dX6_tableTold_16 rfl (lv_at hl 0 rfl) ?_
    refine RM_g_bars X hw 0 rfl kf_X6_79 dX6_tableTold_17 ?_
    refine lv_icmp_ge (tgt := 41) hx hb dX6_tableTold_20 (by decide) (fun k20 => ?_) (fun k20 => ?_)
    · have h := itt k20 h
      exact J41 _ h _ _ _ hw (lv_sub hl [0] rfl)
    · have h := itf k20 h
      refine lv_aload_n hx hb dX6_tableTold_23 rfl (lv_at hl 0 rfl) ?_
      refine RM_g_kind X hw 0 rfl kf_X6_37 dX6_tableTold_24 ?_
      refine lv_aload_n hx hb dX6_tableTold_27 rfl (lv_at hl 0 rfl) ?_
      refine RM_g_figures X hw 0 rfl kf_X6_166 dX6_tableTold_28 ?_
      obtain ⟨q31, h⟩ := chk h
      refine RM_l_kind X hw 0 rfl q31 dX6_tableTold_31 ?_
      refine lv_iconst (v := 5) hx hb dX6_tableTold_32 (by decide) ?_
      refine lv_icmp_eq (tgt := 41) hx hb dX6_tableTold_33 (by decide) (fun k33 => ?_) (fun k33 => ?_)
      · have h := itt k33 h
        exact J41 _ h _ _ _ hw (lv_sub hl [0] rfl)
      · have h := itf k33 h
        refine lv_aload_n hx hb dX6_tableTold_36 rfl (lv_at hl 0 rfl) ?_
        obtain ⟨r37, h37, h⟩ := bnd h
        refine g_calli0 (isC := [0]) (gn := fun _ => [wRM g ad eK eT r37.2]) (g_runV (isC := [0]) (rest := []) (As := []) X hw (c_X6_wrong l (ad := ad) (eK := eK) (eT := eT) h37) rfl kM_X6_wrong ki_X6_wrong ks_X6_wrong km_X6_192 ⟨(Nat.le_of_ble_eq_true rfl), (Nat.le_of_ble_eq_true rfl)⟩ ⟨(Nat.le_of_ble_eq_true rfl), (Nat.le_of_ble_eq_true rfl)⟩ rfl rfl ⟨_, _, _, _, rfl, rfl, rfl, rfl⟩ rfl hl.1 rfl (Nat.le_of_ble_eq_true rfl) dX6_tableTold_37) hw rfl rfl (fun _ => (Nat.le_of_ble_eq_true rfl)) (fun _ => rfl) rfl rfl (fun _ H locs hw => ?_)
        obtain ⟨q40, h⟩ := chk h
        have h := Option.some.inj h
        subst h
        exact hret () dX6_tableTold_40 (Decidable.not_not.mp q40) rfl hw
theorem kM_X6_barOf : kM yX6_barOf cX6_barOf 3 (some FieldType.int) 2 := ⟨kc_X6_barOf, kn_RingsOffModel, by decide +kernel⟩
abbrev R_X6_barOf : Room := { frames := 2, cells := 0, slots := 0, locals := 47 }
set_option maxHeartbeats 4000000 in
set_option maxRecDepth 100000 in
theorem c_X6_barOf (l : Launch) {ad : Nat → Nat} {eK : Option Nat} {eT : Option Nat} {N : Nat} {rm : RM} {p1 : Int32} {p2 : Int32} {out : Int32 × RM} (h : M_X6_barOf N rm p1 p2 = some out) : gM l yX6_barOf cX6_barOf 3 (some FieldType.int) R_X6_barOf (fun _ => [.ref (ad 0), .int p1, .int p2]) (fun g => [wRM g ad eK eT rm]) (gQi (fun (_ : Unit) => out.1) (fun g (_ : Unit) => [wRM g ad eK eT out.2])) := by
  refine gM.ofi (by decide +kernel) (fun _ => Nat.le_of_ble_eq_true rfl) (fun g p e s m args below meth c A ls Q X hret hw hl => ?_)
  have hx := X.1.1
  have hb := X.1.2.1
  have hl : lv_has ls 3 [(0, .ref (ad 0)), (1, .int p1), (2, .int p2)] := hl
  unfold M_X6_barOf at h
  refine lv_aload_n hx hb dX6_barOf_0 rfl (lv_at hl 0 rfl) ?_
  refine lv_iload_n hx hb dX6_barOf_1 rfl (lv_at hl 1 rfl) ?_
  obtain ⟨r2, h2, h⟩ := bnd h
  refine g_calli0 (isC := [0]) (gn := fun _ => [wRM g ad eK eT rm]) (g_runV (isC := [0]) (rest := []) (As := [.int p1]) X hw (c_X6_isBar l (ad := ad) (eK := eK) (eT := eT) h2) rfl kM_X6_isBar ki_X6_isBar ks_X6_isBar km_X6_106 ⟨(Nat.le_of_ble_eq_true rfl), (Nat.le_of_ble_eq_true rfl)⟩ ⟨(Nat.le_of_ble_eq_true rfl), (Nat.le_of_ble_eq_true rfl)⟩ rfl rfl ⟨_, _, _, _, rfl, rfl, rfl, rfl⟩ rfl hl.1 rfl (Nat.le_of_ble_eq_true rfl) dX6_barOf_2) hw rfl rfl (fun _ => (Nat.le_of_ble_eq_true rfl)) (fun _ => rfl) rfl rfl (fun _ H locs hw => ?_)
  refine lv_if_ne (tgt := 15) hx hb dX6_barOf_5 (by decide) (fun k5 => ?_) (fun k5 => ?_)
  · have h := itt k5 h
    refine lv_aload_n hx hb dX6_barOf_15 rfl (lv_at hl 0 rfl) ?_
    refine lv_iload_n hx hb dX6_barOf_16 rfl (lv_at hl 1 rfl) ?_
    refine lv_iload_n hx hb dX6_barOf_17 rfl (lv_at hl 2 rfl) ?_
    refine lv_bipush (v := 10) hx hb dX6_barOf_18 (by decide) ?_
    refine lv_isub hx hb dX6_barOf_20 ?_
    obtain ⟨r21, h21, h⟩ := bnd h
    refine g_calli0 (isC := [0]) (gn := fun _ => [wRM g ad eK eT rm]) (g_runV (isC := [0]) (rest := []) (As := [.int p1, .int (p2 - (10 : Int32))]) X hw (c_X6_isRing l (ad := ad) (eK := eK) (eT := eT) h21) rfl kM_X6_isRing ki_X6_isRing ks_X6_isRing km_X6_148 ⟨(Nat.le_of_ble_eq_true rfl), (Nat.le_of_ble_eq_true rfl)⟩ ⟨(Nat.le_of_ble_eq_true rfl), (Nat.le_of_ble_eq_true rfl)⟩ rfl rfl ⟨_, _, _, _, rfl, rfl, rfl, rfl⟩ rfl hl.1 rfl (Nat.le_of_ble_eq_true rfl) dX6_barOf_21) hw rfl rfl (fun _ => (Nat.le_of_ble_eq_true rfl)) (fun _ => rfl) rfl rfl (fun _ H locs hw => ?_)
    refine lv_if_eq (tgt := 39) hx hb dX6_barOf_24 (by decide) (fun k24 => ?_) (fun k24 => ?_)
    · have h := itt k24 h
      refine lv_aload_n hx hb dX6_barOf_39 rfl (lv_at hl 0 rfl) ?_
      refine lv_iload_n hx hb dX6_barOf_40 rfl (lv_at hl 1 rfl) ?_
      refine lv_iload_n hx hb dX6_barOf_41 rfl (lv_at hl 2 rfl) ?_
      refine lv_bipush (v := 20) hx hb dX6_barOf_42 (by decide) ?_
      refine lv_isub hx hb dX6_barOf_44 ?_
      obtain ⟨r45, h45, h⟩ := bnd h
      refine g_calli0 (isC := [0]) (gn := fun _ => [wRM g ad eK eT rm]) (g_runV (isC := [0]) (rest := []) (As := [.int p1, .int (p2 - (20 : Int32))]) X hw (c_X6_isRing l (ad := ad) (eK := eK) (eT := eT) h45) rfl kM_X6_isRing ki_X6_isRing ks_X6_isRing km_X6_148 ⟨(Nat.le_of_ble_eq_true rfl), (Nat.le_of_ble_eq_true rfl)⟩ ⟨(Nat.le_of_ble_eq_true rfl), (Nat.le_of_ble_eq_true rfl)⟩ rfl rfl ⟨_, _, _, _, rfl, rfl, rfl, rfl⟩ rfl hl.1 rfl (Nat.le_of_ble_eq_true rfl) dX6_barOf_45) hw rfl rfl (fun _ => (Nat.le_of_ble_eq_true rfl)) (fun _ => rfl) rfl rfl (fun _ H locs hw => ?_)
      refine lv_if_eq (tgt := 63) hx hb dX6_barOf_48 (by decide) (fun k48 => ?_) (fun k48 => ?_)
      · have h := itt k48 h
        refine lv_iload_n hx hb dX6_barOf_63 rfl (lv_at hl 2 rfl) ?_
        by_cases k64_0 : p2 = 0
        · have h := itt k64_0 h
          refine lv_tableIn (off := 32) (tgt := 96) hx hb dX6_barOf_64 (by rw [k64_0]; decide) (by rw [k64_0]; decide) (by rw [k64_0]; rfl) (by decide) ?_
          refine lv_aload_n hx hb dX6_barOf_96 rfl (lv_at hl 0 rfl) ?_
          refine RM_g_kind X hw 0 rfl kf_X6_37 dX6_barOf_97 ?_
          refine lv_iload_n hx hb dX6_barOf_100 rfl (lv_at hl 1 rfl) ?_
          obtain ⟨q101, h⟩ := chk h
          refine RM_l_kind X hw 0 rfl q101 dX6_barOf_101 ?_
          have h := Option.some.inj h
          subst h
          exact hret () dX6_barOf_102 rfl hw
        have h := itf k64_0 h
        by_cases k64_1 : p2 = 1
        · have h := itt k64_1 h
          refine lv_tableIn (off := 39) (tgt := 103) hx hb dX6_barOf_64 (by rw [k64_1]; decide) (by rw [k64_1]; decide) (by rw [k64_1]; rfl) (by decide) ?_
          refine lv_aload_n hx hb dX6_barOf_103 rfl (lv_at hl 0 rfl) ?_
          refine RM_g_size X hw 0 rfl kf_X6_40 dX6_barOf_104 ?_
          refine lv_iload_n hx hb dX6_barOf_107 rfl (lv_at hl 1 rfl) ?_
          obtain ⟨q108, h⟩ := chk h
          refine RM_l_size X hw 0 rfl q108 dX6_barOf_108 ?_
          have h := Option.some.inj h
          subst h
          exact hret () dX6_barOf_109 rfl hw
        have h := itf k64_1 h
        by_cases k64_2 : p2 = 2
        · have h := itt k64_2 h
          refine lv_tableIn (off := 46) (tgt := 110) hx hb dX6_barOf_64 (by rw [k64_2]; decide) (by rw [k64_2]; decide) (by rw [k64_2]; rfl) (by decide) ?_
          refine lv_aload_n hx hb dX6_barOf_110 rfl (lv_at hl 0 rfl) ?_
          refine RM_g_on X hw 0 rfl kf_X6_43 dX6_barOf_111 ?_
          refine lv_iload_n hx hb dX6_barOf_114 rfl (lv_at hl 1 rfl) ?_
          obtain ⟨q115, h⟩ := chk h
          refine RM_l_on X hw 0 rfl q115 dX6_barOf_115 ?_
          have h := Option.some.inj h
          subst h
          exact hret () dX6_barOf_116 rfl hw
        have h := itf k64_2 h
        by_cases k64_3 : p2 = 3
        · have h := itt k64_3 h
          refine lv_tableIn (off := 53) (tgt := 117) hx hb dX6_barOf_64 (by rw [k64_3]; decide) (by rw [k64_3]; decide) (by rw [k64_3]; rfl) (by decide) ?_
          refine lv_aload_n hx hb dX6_barOf_117 rfl (lv_at hl 0 rfl) ?_
          refine RM_g_stuck X hw 0 rfl kf_X6_46 dX6_barOf_118 ?_
          refine lv_iload_n hx hb dX6_barOf_121 rfl (lv_at hl 1 rfl) ?_
          obtain ⟨q122, h⟩ := chk h
          refine RM_l_stuck X hw 0 rfl q122 dX6_barOf_122 ?_
          have h := Option.some.inj h
          subst h
          exact hret () dX6_barOf_123 rfl hw
        have h := itf k64_3 h
        refine lv_tableOut (tgt := 124) hx hb dX6_barOf_64 (g_out (lo := 0) (hi := 3) p2 (fun q h1 h2 => ?_)) (by decide) ?_
        · rcases (show q = 0 ∨ q = 1 ∨ q = 2 ∨ q = 3 by omega) with rfl | rfl | rfl | rfl    
          · exact fun e => k64_0 (Int32.toInt_inj.mp (e.trans rfl))
          · exact fun e => k64_1 (Int32.toInt_inj.mp (e.trans rfl))
          · exact fun e => k64_2 (Int32.toInt_inj.mp (e.trans rfl))
          · exact fun e => k64_3 (Int32.toInt_inj.mp (e.trans rfl))
        refine lv_aload_n hx hb dX6_barOf_124 rfl (lv_at hl 0 rfl) ?_
        refine lv_bipush (v := -2) hx hb dX6_barOf_125 (by decide) ?_
        obtain ⟨r127, h127, h⟩ := bnd h
        refine g_calli0 (isC := [0]) (gn := fun _ => [wRM g ad eK eT r127.2]) (g_runV (isC := [0]) (rest := []) (As := [.int (-2 : Int32)]) X hw (c_X6_refuse l (ad := ad) (eK := eK) (eT := eT) h127) rfl kM_X6_refuse ki_X6_refuse ks_X6_refuse km_X6_96 ⟨(Nat.le_of_ble_eq_true rfl), (Nat.le_of_ble_eq_true rfl)⟩ ⟨(Nat.le_of_ble_eq_true rfl), (Nat.le_of_ble_eq_true rfl)⟩ rfl rfl ⟨_, _, _, _, rfl, rfl, rfl, rfl⟩ rfl hl.1 rfl (Nat.le_of_ble_eq_true rfl) dX6_barOf_127) hw rfl rfl (fun _ => (Nat.le_of_ble_eq_true rfl)) (fun _ => rfl) rfl rfl (fun _ H locs hw => ?_)
        have h := Option.some.inj h
        subst h
        exact hret () dX6_barOf_130 rfl hw
      · have h := itf k48 h
        refine lv_aload_n hx hb dX6_barOf_51 rfl (lv_at hl 0 rfl) ?_
        refine RM_g_not X hw 0 rfl kf_X6_54 dX6_barOf_52 ?_
        refine lv_iload_n hx hb dX6_barOf_55 rfl (lv_at hl 1 rfl) ?_
        obtain ⟨q56, h⟩ := chk h
        have o56 := Nat.not_le.mp (fun z => q56 (Or.inr z))
        refine RM_q_not X hw 0 rfl q56 dX6_barOf_56 ?_
        refine lv_iload_n hx hb dX6_barOf_57 rfl (lv_at hl 2 rfl) ?_
        refine lv_bipush (v := 20) hx hb dX6_barOf_58 (by decide) ?_
        refine lv_isub hx hb dX6_barOf_60 ?_
        obtain ⟨q61, h⟩ := chk h
        refine RM_l_not X hw 0 rfl o56 q61 dX6_barOf_61 ?_
        have h := Option.some.inj h
        subst h
        exact hret () dX6_barOf_62 rfl hw
    · have h := itf k24 h
      refine lv_aload_n hx hb dX6_barOf_27 rfl (lv_at hl 0 rfl) ?_
      refine RM_g_must X hw 0 rfl kf_X6_51 dX6_barOf_28 ?_
      refine lv_iload_n hx hb dX6_barOf_31 rfl (lv_at hl 1 rfl) ?_
      obtain ⟨q32, h⟩ := chk h
      have o32 := Nat.not_le.mp (fun z => q32 (Or.inr z))
      refine RM_q_must X hw 0 rfl q32 dX6_barOf_32 ?_
      refine lv_iload_n hx hb dX6_barOf_33 rfl (lv_at hl 2 rfl) ?_
      refine lv_bipush (v := 10) hx hb dX6_barOf_34 (by decide) ?_
      refine lv_isub hx hb dX6_barOf_36 ?_
      obtain ⟨q37, h⟩ := chk h
      refine RM_l_must X hw 0 rfl o32 q37 dX6_barOf_37 ?_
      have h := Option.some.inj h
      subst h
      exact hret () dX6_barOf_38 rfl hw
  · have h := itf (fun z => z k5) h
    refine lv_aload_n hx hb dX6_barOf_8 rfl (lv_at hl 0 rfl) ?_
    refine lv_bipush (v := -2) hx hb dX6_barOf_9 (by decide) ?_
    obtain ⟨r11, h11, h⟩ := bnd h
    refine g_calli0 (isC := [0]) (gn := fun _ => [wRM g ad eK eT r11.2]) (g_runV (isC := [0]) (rest := []) (As := [.int (-2 : Int32)]) X hw (c_X6_refuse l (ad := ad) (eK := eK) (eT := eT) h11) rfl kM_X6_refuse ki_X6_refuse ks_X6_refuse km_X6_96 ⟨(Nat.le_of_ble_eq_true rfl), (Nat.le_of_ble_eq_true rfl)⟩ ⟨(Nat.le_of_ble_eq_true rfl), (Nat.le_of_ble_eq_true rfl)⟩ rfl rfl ⟨_, _, _, _, rfl, rfl, rfl, rfl⟩ rfl hl.1 rfl (Nat.le_of_ble_eq_true rfl) dX6_barOf_11) hw rfl rfl (fun _ => (Nat.le_of_ble_eq_true rfl)) (fun _ => rfl) rfl rfl (fun _ H locs hw => ?_)
    have h := Option.some.inj h
    subst h
    exact hret () dX6_barOf_14 rfl hw
theorem kM_X6_mask : kM yX6_mask cX6_mask 1 (some FieldType.int) 1 := ⟨kc_X6_mask, kn_RingsOffModel, by decide +kernel⟩
abbrev R_X6_mask : Room := { frames := 0, cells := 0, slots := 0, locals := 0 }
set_option maxHeartbeats 4000000 in
set_option maxRecDepth 100000 in
theorem c_X6_mask (l : Launch) {N : Nat} {p1 : Int32} {out : Int32} (h : M_X6_mask N p1 = some out) : gM l yX6_mask cX6_mask 1 (some FieldType.int) R_X6_mask (fun _ => [.int p1]) (fun g => []) (gQi (fun (_ : Unit) => out) (fun g (_ : Unit) => [])) := by
  refine gM.ofi (by decide +kernel) (fun _ => Nat.le_of_ble_eq_true rfl) (fun g p e s m args below meth c A ls Q X hret hw hl => ?_)
  have hx := X.1.1
  have hb := X.1.2.1
  have hl : lv_has ls 1 [(0, .int p1)] := hl
  unfold M_X6_mask at h
  refine lv_iload_n hx hb dX6_mask_0 rfl (lv_at hl 0 rfl) ?_
  refine lv_bipush (v := 20) hx hb dX6_mask_1 (by decide) ?_
  refine lv_icmp_ne (tgt := 10) hx hb dX6_mask_3 (by decide) (fun k3 => ?_) (fun k3 => ?_)
  · have h := itt k3 h
    refine lv_iconst (v := 1) hx hb dX6_mask_10 (by decide) ?_
    refine lv_iload_n hx hb dX6_mask_11 rfl (lv_at hl 0 rfl) ?_
    refine lv_ishl hx hb dX6_mask_12 ?_
    have h := Option.some.inj h
    subst h
    exact hret () dX6_mask_13 rfl hw
  · have h := itf (fun z => z k3) h
    refine lv_iconst (v := 3) hx hb dX6_mask_6 (by decide) ?_
    refine lv_goto (tgt := 13) hx hb dX6_mask_7 (by decide) ?_
    have h := Option.some.inj h
    subst h
    exact hret () dX6_mask_13 rfl hw
theorem kM_X6_turned : kM yX6_turned cX6_turned 4 (some FieldType.int) 2 := ⟨kc_X6_turned, kn_RingsOffModel, by decide +kernel⟩
abbrev R_X6_turned : Room := { frames := 0, cells := 0, slots := 0, locals := 0 }
set_option maxHeartbeats 4000000 in
set_option maxRecDepth 100000 in
theorem c_X6_turned (l : Launch) {N : Nat} {p1 : Int32} {p2 : Int32} {out : Int32} (h : M_X6_turned N p1 p2 = some out) : gM l yX6_turned cX6_turned 4 (some FieldType.int) R_X6_turned (fun _ => [.int p1, .int p2]) (fun g => []) (gQi (fun (_ : Unit) => out) (fun g (_ : Unit) => [])) := by
  refine gM.ofi (by decide +kernel) (fun _ => Nat.le_of_ble_eq_true rfl) (fun g p e s m args below meth c A ls Q X hret hw hl => ?_)
  have hx := X.1.1
  have hb := X.1.2.1
  have hl : lv_has ls 4 [(0, .int p1), (1, .int p2)] := hl
  have L4 : ∀ (n : Nat) (z4 : Int32 × Int32), lp (M_X6_turned_l4 N p1 p2) n z4 = some out → ∀ (H : Heap) (locs : List Loc) (ls : Array Slot), gW g A s.heap [] H locs → lv_has ls 4 [(0, .int p1), (1, .int p2), (2, .int z4.1), (3, .int z4.2)] → W p l e R_X6_turned s m args below meth c H locs 0 0 Q (F0 m 4 ls []) := by
    refine lp_ind ?_
    intro rec4 ih4
    intro z4 h H locs ls hw hl
    unfold M_X6_turned_l4 at h
    refine lv_iload_n hx hb dX6_turned_4 rfl (lv_at hl 3 rfl) ?_
    refine lv_iload_n hx hb dX6_turned_5 rfl (lv_at hl 1 rfl) ?_
    refine lv_icmp_ge (tgt := 29) hx hb dX6_turned_6 (by decide) (fun k6 => ?_) (fun k6 => ?_)
    · have h := itt k6 h
      refine lv_iload_n hx hb dX6_turned_29 rfl (lv_at hl 2 rfl) ?_
      have h := Option.some.inj h
      subst h
      exact hret () dX6_turned_30 rfl hw
    · have h := itf k6 h
      refine lv_iload_n hx hb dX6_turned_9 rfl (lv_at hl 2 rfl) ?_
      refine lv_iload_n hx hb dX6_turned_10 rfl (lv_at hl 0 rfl) ?_
      refine lv_iload_n hx hb dX6_turned_11 rfl (lv_at hl 3 rfl) ?_
      refine lv_ishr hx hb dX6_turned_12 ?_
      refine lv_iconst (v := 1) hx hb dX6_turned_13 (by decide) ?_
      refine lv_iand hx hb dX6_turned_14 ?_
      refine lv_iload_n hx hb dX6_turned_15 rfl (lv_at hl 1 rfl) ?_
      refine lv_iconst (v := 1) hx hb dX6_turned_16 (by decide) ?_
      refine lv_isub hx hb dX6_turned_17 ?_
      refine lv_iload_n hx hb dX6_turned_18 rfl (lv_at hl 3 rfl) ?_
      refine lv_isub hx hb dX6_turned_19 ?_
      refine lv_ishl hx hb dX6_turned_20 ?_
      refine lv_ior hx hb dX6_turned_21 ?_
      refine lv_istore_n (lv' := [(2, .int (z4.1 ||| (((p1 >>> (z4.2 &&& 31)) &&& (1 : Int32)) <<< (((p2 - (1 : Int32)) - z4.2) &&& 31)))), (0, .int p1), (1, .int p2), (3, .int z4.2)]) hx hb dX6_turned_22 rfl hl (by decide) rfl (fun ls hl => ?_)
      refine lv_iinc (v := (z4.2 + 1)) (lv' := [(3, .int (z4.2 + 1)), (2, .int (z4.1 ||| (((p1 >>> (z4.2 &&& 31)) &&& (1 : Int32)) <<< (((p2 - (1 : Int32)) - z4.2) &&& 31)))), (0, .int p1), (1, .int p2)]) hx hb dX6_turned_23 hl (k := 3) rfl rfl (by decide) rfl (fun ls hl => ?_)
      refine lv_goto (tgt := 4) hx hb dX6_turned_26 (by decide) ?_
      exact ih4 _ h _ _ _ hw (lv_sub hl [2, 3, 1, 0] rfl)
  unfold M_X6_turned at h
  refine lv_iconst (v := 0) hx hb dX6_turned_0 (by decide) ?_
  refine lv_istore_n (lv' := [(2, .int (0 : Int32)), (0, .int p1), (1, .int p2)]) hx hb dX6_turned_1 rfl hl (by decide) rfl (fun ls hl => ?_)
  refine lv_iconst (v := 0) hx hb dX6_turned_2 (by decide) ?_
  refine lv_istore_n (lv' := [(3, .int (0 : Int32)), (2, .int (0 : Int32)), (0, .int p1), (1, .int p2)]) hx hb dX6_turned_3 rfl hl (by decide) rfl (fun ls hl => ?_)
  exact L4 N _ h _ _ _ hw (lv_sub hl [2, 3, 1, 0] rfl)
theorem kM_X6_isChained : kM yX6_isChained cX6_isChained 2 (some FieldType.boolean) 2 := ⟨kc_X6_isChained, kn_RingsOffModel, by decide +kernel⟩
abbrev R_X6_isChained : Room := { frames := 0, cells := 0, slots := 0, locals := 0 }
set_option maxHeartbeats 4000000 in
set_option maxRecDepth 100000 in
theorem c_X6_isChained (l : Launch) {N : Nat} {p1 : Int32} {p2 : Int32} {out : Int32} (h : M_X6_isChained N p1 p2 = some out) : gM l yX6_isChained cX6_isChained 2 (some FieldType.boolean) R_X6_isChained (fun _ => [.int p1, .int p2]) (fun g => []) (gQi (fun (_ : Unit) => out) (fun g (_ : Unit) => [])) := by
  refine gM.ofz (by decide +kernel) (fun _ => Nat.le_of_ble_eq_true rfl) (fun g p e s m args below meth c A ls Q X hret hw hl => ?_)
  have hx := X.1.1
  have hb := X.1.2.1
  have hl : lv_has ls 2 [(0, .int p1), (1, .int p2)] := hl
  unfold M_X6_isChained at h
  refine lv_iload_n hx hb dX6_isChained_0 rfl (lv_at hl 1 rfl) ?_
  refine lv_if_eq (tgt := 19) hx hb dX6_isChained_1 (by decide) (fun k1 => ?_) (fun k1 => ?_)
  · have h := itt k1 h
    refine lv_iconst (v := 1) hx hb dX6_isChained_19 (by decide) ?_
    refine lv_goto (tgt := 24) hx hb dX6_isChained_20 (by decide) ?_
    have h := Option.some.inj h
    subst h
    exact hret () dX6_isChained_24 (by decide) rfl hw
  · have h := itf k1 h
    refine lv_iload_n hx hb dX6_isChained_4 rfl (lv_at hl 0 rfl) ?_
    refine lv_iconst (v := 1) hx hb dX6_isChained_5 (by decide) ?_
    refine lv_iload_n hx hb dX6_isChained_6 rfl (lv_at hl 1 rfl) ?_
    refine lv_ishl hx hb dX6_isChained_7 ?_
    refine lv_iconst (v := 1) hx hb dX6_isChained_8 (by decide) ?_
    refine lv_isub hx hb dX6_isChained_9 ?_
    refine lv_iand hx hb dX6_isChained_10 ?_
    refine lv_iconst (v := 1) hx hb dX6_isChained_11 (by decide) ?_
    refine lv_iload_n hx hb dX6_isChained_12 rfl (lv_at hl 1 rfl) ?_
    refine lv_iconst (v := 1) hx hb dX6_isChained_13 (by decide) ?_
    refine lv_isub hx hb dX6_isChained_14 ?_
    refine lv_ishl hx hb dX6_isChained_15 ?_
    refine lv_icmp_ne (tgt := 23) hx hb dX6_isChained_16 (by decide) (fun k16 => ?_) (fun k16 => ?_)
    · have h := itt k16 h
      refine lv_iconst (v := 0) hx hb dX6_isChained_23 (by decide) ?_
      have h := Option.some.inj h
      subst h
      exact hret () dX6_isChained_24 (by decide) rfl hw
    · have h := itf (fun z => z k16) h
      refine lv_iconst (v := 1) hx hb dX6_isChained_19 (by decide) ?_
      refine lv_goto (tgt := 24) hx hb dX6_isChained_20 (by decide) ?_
      have h := Option.some.inj h
      subst h
      exact hret () dX6_isChained_24 (by decide) rfl hw
theorem kM_X6_mayBy : kM yX6_mayBy cX6_mayBy 6 (some FieldType.boolean) 4 := ⟨kc_X6_mayBy, kn_RingsOffModel, by decide +kernel⟩
abbrev R_X6_mayBy : Room := { frames := 1, cells := 0, slots := 0, locals := 23 }
set_option maxHeartbeats 4000000 in
set_option maxRecDepth 100000 in
theorem c_X6_mayBy (l : Launch) {N : Nat} {p1 : Int32} {p2 : Int32} {p3 : Int32} {p4 : Int32} {out : Int32} (h : M_X6_mayBy N p1 p2 p3 p4 = some out) : gM l yX6_mayBy cX6_mayBy 6 (some FieldType.boolean) R_X6_mayBy (fun _ => [.int p1, .int p2, .int p3, .int p4]) (fun g => []) (gQi (fun (_ : Unit) => out) (fun g (_ : Unit) => [])) := by
  refine gM.ofz (by decide +kernel) (fun _ => Nat.le_of_ble_eq_true rfl) (fun g p e s m args below meth c A ls Q X hret hw hl => ?_)
  have hx := X.1.1
  have hb := X.1.2.1
  have hl : lv_has ls 6 [(0, .int p1), (1, .int p2), (2, .int p3), (3, .int p4)] := hl
  unfold M_X6_mayBy at h
  refine lv_iload_n hx hb dX6_mayBy_0 rfl (lv_at hl 1 rfl) ?_
  refine lv_iload_n hx hb dX6_mayBy_1 rfl (lv_at hl 3 rfl) ?_
  obtain ⟨r2, h2, h⟩ := bnd h
  refine g_calli0 (isC := []) (gn := fun _ => []) (g_runS (isC := []) (rest := []) (As := [.int p2, .int p4]) X hw (c_X6_isChained l h2) rfl kM_X6_isChained kt_X6_isChained km_X6_253 ⟨(Nat.le_of_ble_eq_true rfl), (Nat.le_of_ble_eq_true rfl)⟩ ⟨(Nat.le_of_ble_eq_true rfl), (Nat.le_of_ble_eq_true rfl)⟩ rfl rfl rfl hl.1 rfl (Nat.le_of_ble_eq_true rfl) dX6_mayBy_2) hw rfl rfl (fun _ => (Nat.le_of_ble_eq_true rfl)) (fun _ => rfl) rfl rfl (fun _ H locs hw => ?_)
  refine lv_istore (lv' := [(4, .int r2), (0, .int p1), (1, .int p2), (2, .int p3), (3, .int p4)]) hx hb dX6_mayBy_5 hl (by decide) rfl (fun ls hl => ?_)
  refine lv_iload_n hx hb dX6_mayBy_7 rfl (lv_at hl 2 rfl) ?_
  refine lv_iload_n hx hb dX6_mayBy_8 rfl (lv_at hl 3 rfl) ?_
  obtain ⟨r9, h9, h⟩ := bnd h
  refine g_calli0 (isC := []) (gn := fun _ => []) (g_runS (isC := []) (rest := []) (As := [.int p2, .int p3]) X hw (c_X6_turned l h9) rfl kM_X6_turned kt_X6_turned km_X6_119 ⟨(Nat.le_of_ble_eq_true rfl), (Nat.le_of_ble_eq_true rfl)⟩ ⟨(Nat.le_of_ble_eq_true rfl), (Nat.le_of_ble_eq_true rfl)⟩ rfl rfl rfl hl.1 rfl (Nat.le_of_ble_eq_true rfl) dX6_mayBy_9) hw rfl rfl (fun _ => (Nat.le_of_ble_eq_true rfl)) (fun _ => rfl) rfl rfl (fun _ H locs hw => ?_)
  refine lv_iload_n hx hb dX6_mayBy_12 rfl (lv_at hl 3 rfl) ?_
  refine lv_iconst (v := 1) hx hb dX6_mayBy_13 (by decide) ?_
  refine lv_isub hx hb dX6_mayBy_14 ?_
  refine lv_iload_n hx hb dX6_mayBy_15 rfl (lv_at hl 4 rfl) ?_
  refine lv_isub hx hb dX6_mayBy_16 ?_
  obtain ⟨r17, h17, h⟩ := bnd h
  refine g_calli0 (isC := []) (gn := fun _ => []) (g_runS (isC := []) (rest := []) (As := [.int r9, .int ((p3 - (1 : Int32)) - p4)]) X hw (c_X6_isChained l h17) rfl kM_X6_isChained kt_X6_isChained km_X6_253 ⟨(Nat.le_of_ble_eq_true rfl), (Nat.le_of_ble_eq_true rfl)⟩ ⟨(Nat.le_of_ble_eq_true rfl), (Nat.le_of_ble_eq_true rfl)⟩ rfl rfl rfl hl.1 rfl (Nat.le_of_ble_eq_true rfl) dX6_mayBy_17) hw rfl rfl (fun _ => (Nat.le_of_ble_eq_true rfl)) (fun _ => rfl) rfl rfl (fun _ H locs hw => ?_)
  refine lv_istore (lv' := [(5, .int r17), (4, .int r2), (0, .int p1), (1, .int p2), (2, .int p3), (3, .int p4)]) hx hb dX6_mayBy_20 hl (by decide) rfl (fun ls hl => ?_)
  refine lv_iload_n hx hb dX6_mayBy_22 rfl (lv_at hl 2 rfl) ?_
  refine lv_iconst (v := 4) hx hb dX6_mayBy_23 (by decide) ?_
  refine lv_icmp_ne (tgt := 32) hx hb dX6_mayBy_24 (by decide) (fun k24 => ?_) (fun k24 => ?_)
  · have h := itt k24 h
    refine lv_iload_n hx hb dX6_mayBy_32 rfl (lv_at hl 2 rfl) ?_
    refine lv_iconst (v := 3) hx hb dX6_mayBy_33 (by decide) ?_
    refine lv_icmp_ne (tgt := 55) hx hb dX6_mayBy_34 (by decide) (fun k34 => ?_) (fun k34 => ?_)
    · have h := itt k34 h
      refine lv_iload hx hb dX6_mayBy_55 (lv_at hl 1 rfl) ?_
      obtain ⟨q57, h⟩ := chk h
      have h := Option.some.inj h
      subst h
      exact hret () dX6_mayBy_57 (Decidable.not_not.mp q57) rfl hw
    · have h := itf (fun z => z k34) h
      refine lv_iload hx hb dX6_mayBy_37 (lv_at hl 1 rfl) ?_
      refine lv_if_ne (tgt := 47) hx hb dX6_mayBy_39 (by decide) (fun k39 => ?_) (fun k39 => ?_)
      · have h := itt k39 h
        refine lv_iconst (v := 1) hx hb dX6_mayBy_47 (by decide) ?_
        refine lv_goto (tgt := 57) hx hb dX6_mayBy_48 (by decide) ?_
        have h := Option.some.inj h
        subst h
        exact hret () dX6_mayBy_57 (by decide) rfl hw
      · have h := itf (fun z => z k39) h
        refine lv_iload hx hb dX6_mayBy_42 (lv_at hl 0 rfl) ?_
        refine lv_if_eq (tgt := 51) hx hb dX6_mayBy_44 (by decide) (fun k44 => ?_) (fun k44 => ?_)
        · have h := itt k44 h
          refine lv_iconst (v := 0) hx hb dX6_mayBy_51 (by decide) ?_
          refine lv_goto (tgt := 57) hx hb dX6_mayBy_52 (by decide) ?_
          have h := Option.some.inj h
          subst h
          exact hret () dX6_mayBy_57 (by decide) rfl hw
        · have h := itf k44 h
          refine lv_iconst (v := 1) hx hb dX6_mayBy_47 (by decide) ?_
          refine lv_goto (tgt := 57) hx hb dX6_mayBy_48 (by decide) ?_
          have h := Option.some.inj h
          subst h
          exact hret () dX6_mayBy_57 (by decide) rfl hw
  · have h := itf (fun z => z k24) h
    refine lv_iload hx hb dX6_mayBy_27 (lv_at hl 0 rfl) ?_
    refine lv_goto (tgt := 57) hx hb dX6_mayBy_29 (by decide) ?_
    obtain ⟨q57, h⟩ := chk h
    have h := Option.some.inj h
    subst h
    exact hret () dX6_mayBy_57 (Decidable.not_not.mp q57) rfl hw
theorem kM_X6_isMove : kM yX6_isMove cX6_isMove 3 (some FieldType.boolean) 2 := ⟨kc_X6_isMove, kn_RingsOffModel, by decide +kernel⟩
abbrev R_X6_isMove : Room := { frames := 2, cells := 0, slots := 0, locals := 47 }
set_option maxHeartbeats 4000000 in
set_option maxRecDepth 100000 in
theorem c_X6_isMove (l : Launch) {ad : Nat → Nat} {eK : Option Nat} {eT : Option Nat} {N : Nat} {rm : RM} {p1 : Int32} {p2 : Int32} {out : Int32} (h : M_X6_isMove N rm p1 p2 = some out) : gM l yX6_isMove cX6_isMove 3 (some FieldType.boolean) R_X6_isMove (fun _ => [.ref (ad 0), .int p1, .int p2]) (fun g => [wRM g ad eK eT rm]) (gQi (fun (_ : Unit) => out) (fun g (_ : Unit) => [wRM g ad eK eT rm])) := by
  refine gM.ofz (by decide +kernel) (fun _ => Nat.le_of_ble_eq_true rfl) (fun g p e s m args below meth c A ls Q X hret hw hl => ?_)
  have hx := X.1.1
  have hb := X.1.2.1
  have hl : lv_has ls 3 [(0, .ref (ad 0)), (1, .int p1), (2, .int p2)] := hl
  unfold M_X6_isMove at h
  refine lv_aload_n hx hb dX6_isMove_0 rfl (lv_at hl 0 rfl) ?_
  refine lv_iload_n hx hb dX6_isMove_1 rfl (lv_at hl 1 rfl) ?_
  refine lv_iload_n hx hb dX6_isMove_2 rfl (lv_at hl 2 rfl) ?_
  obtain ⟨r3, h3, h⟩ := bnd h
  refine g_calli0 (isC := [0]) (gn := fun _ => [wRM g ad eK eT rm]) (g_runV (isC := [0]) (rest := []) (As := [.int p1, .int p2]) X hw (c_X6_isRing l (ad := ad) (eK := eK) (eT := eT) h3) rfl kM_X6_isRing ki_X6_isRing ks_X6_isRing km_X6_148 ⟨(Nat.le_of_ble_eq_true rfl), (Nat.le_of_ble_eq_true rfl)⟩ ⟨(Nat.le_of_ble_eq_true rfl), (Nat.le_of_ble_eq_true rfl)⟩ rfl rfl ⟨_, _, _, _, rfl, rfl, rfl, rfl⟩ rfl hl.1 rfl (Nat.le_of_ble_eq_true rfl) dX6_isMove_3) hw rfl rfl (fun _ => (Nat.le_of_ble_eq_true rfl)) (fun _ => rfl) rfl rfl (fun _ H locs hw => ?_)
  refine lv_if_ne (tgt := 35) hx hb dX6_isMove_6 (by decide) (fun k6 => ?_) (fun k6 => ?_)
  · have h := itt k6 h
    refine lv_iconst (v := 1) hx hb dX6_isMove_35 (by decide) ?_
    refine lv_goto (tgt := 40) hx hb dX6_isMove_36 (by decide) ?_
    have h := Option.some.inj h
    subst h
    exact hret () dX6_isMove_40 (by decide) rfl hw
  · have h := itf (fun z => z k6) h
    refine lv_iload_n hx hb dX6_isMove_9 rfl (lv_at hl 2 rfl) ?_
    refine lv_bipush (v := 20) hx hb dX6_isMove_10 (by decide) ?_
    refine lv_icmp_ne (tgt := 39) hx hb dX6_isMove_12 (by decide) (fun k12 => ?_) (fun k12 => ?_)
    · have h := itt k12 h
      refine lv_iconst (v := 0) hx hb dX6_isMove_39 (by decide) ?_
      have h := Option.some.inj h
      subst h
      exact hret () dX6_isMove_40 (by decide) rfl hw
    · have h := itf (fun z => z k12) h
      refine lv_aload_n hx hb dX6_isMove_15 rfl (lv_at hl 0 rfl) ?_
      refine RM_g_kind X hw 0 rfl kf_X6_37 dX6_isMove_16 ?_
      refine lv_iload_n hx hb dX6_isMove_19 rfl (lv_at hl 1 rfl) ?_
      obtain ⟨q20, h⟩ := chk h
      refine RM_l_kind X hw 0 rfl q20 dX6_isMove_20 ?_
      refine lv_iconst (v := 2) hx hb dX6_isMove_21 (by decide) ?_
      refine lv_icmp_ne (tgt := 39) hx hb dX6_isMove_22 (by decide) (fun k22 => ?_) (fun k22 => ?_)
      · have h := itt k22 h
        refine lv_iconst (v := 0) hx hb dX6_isMove_39 (by decide) ?_
        have h := Option.some.inj h
        subst h
        exact hret () dX6_isMove_40 (by decide) rfl hw
      · have h := itf (fun z => z k22) h
        refine lv_aload_n hx hb dX6_isMove_25 rfl (lv_at hl 0 rfl) ?_
        refine RM_g_size X hw 0 rfl kf_X6_40 dX6_isMove_26 ?_
        refine lv_iload_n hx hb dX6_isMove_29 rfl (lv_at hl 1 rfl) ?_
        obtain ⟨q30, h⟩ := chk h
        refine RM_l_size X hw 0 rfl q30 dX6_isMove_30 ?_
        refine lv_iconst (v := 2) hx hb dX6_isMove_31 (by decide) ?_
        refine lv_icmp_lt (tgt := 39) hx hb dX6_isMove_32 (by decide) (fun k32 => ?_) (fun k32 => ?_)
        · have h := itt k32 h
          refine lv_iconst (v := 0) hx hb dX6_isMove_39 (by decide) ?_
          have h := Option.some.inj h
          subst h
          exact hret () dX6_isMove_40 (by decide) rfl hw
        · have h := itf k32 h
          refine lv_iconst (v := 1) hx hb dX6_isMove_35 (by decide) ?_
          refine lv_goto (tgt := 40) hx hb dX6_isMove_36 (by decide) ?_
          have h := Option.some.inj h
          subst h
          exact hret () dX6_isMove_40 (by decide) rfl hw
theorem kM_X6_mayAt : kM yX6_mayAt cX6_mayAt 4 (some FieldType.boolean) 3 := ⟨kc_X6_mayAt, kn_RingsOffModel, by decide +kernel⟩
abbrev R_X6_mayAt : Room := { frames := 3, cells := 0, slots := 0, locals := 69 }
set_option maxHeartbeats 4000000 in
set_option maxRecDepth 100000 in
theorem c_X6_mayAt (l : Launch) {ad : Nat → Nat} {eK : Option Nat} {eT : Option Nat} {N : Nat} {rm : RM} {p1 : Int32} {p2 : Int32} {p3 : Int32} {out : Int32} (h : M_X6_mayAt N rm p1 p2 p3 = some out) : gM l yX6_mayAt cX6_mayAt 4 (some FieldType.boolean) R_X6_mayAt (fun _ => [.ref (ad 0), .int p1, .int p2, .int p3]) (fun g => [wRM g ad eK eT rm]) (gQi (fun (_ : Unit) => out) (fun g (_ : Unit) => [wRM g ad eK eT rm])) := by
  refine gM.ofz (by decide +kernel) (fun _ => Nat.le_of_ble_eq_true rfl) (fun g p e s m args below meth c A ls Q X hret hw hl => ?_)
  have hx := X.1.1
  have hb := X.1.2.1
  have hl : lv_has ls 4 [(0, .ref (ad 0)), (1, .int p1), (2, .int p2), (3, .int p3)] := hl
  unfold M_X6_mayAt at h
  refine lv_aload_n hx hb dX6_mayAt_0 rfl (lv_at hl 0 rfl) ?_
  refine lv_iload_n hx hb dX6_mayAt_1 rfl (lv_at hl 1 rfl) ?_
  refine lv_iload_n hx hb dX6_mayAt_2 rfl (lv_at hl 3 rfl) ?_
  obtain ⟨r3, h3, h⟩ := bnd h
  refine g_calli0 (isC := [0]) (gn := fun _ => [wRM g ad eK eT rm]) (g_runV (isC := [0]) (rest := []) (As := [.int p1, .int p3]) X hw (c_X6_isMove l (ad := ad) (eK := eK) (eT := eT) h3) rfl kM_X6_isMove ki_X6_isMove ks_X6_isMove km_X6_256 ⟨(Nat.le_of_ble_eq_true rfl), (Nat.le_of_ble_eq_true rfl)⟩ ⟨(Nat.le_of_ble_eq_true rfl), (Nat.le_of_ble_eq_true rfl)⟩ rfl rfl ⟨_, _, _, _, rfl, rfl, rfl, rfl⟩ rfl hl.1 rfl (Nat.le_of_ble_eq_true rfl) dX6_mayAt_3) hw rfl rfl (fun _ => (Nat.le_of_ble_eq_true rfl)) (fun _ => rfl) rfl rfl (fun _ H locs hw => ?_)
  refine lv_if_eq (tgt := 23) hx hb dX6_mayAt_6 (by decide) (fun k6 => ?_) (fun k6 => ?_)
  · have h := itt k6 h
    refine lv_iconst (v := 0) hx hb dX6_mayAt_23 (by decide) ?_
    have h := Option.some.inj h
    subst h
    exact hret () dX6_mayAt_24 (by decide) rfl hw
  · have h := itf k6 h
    refine lv_iload_n hx hb dX6_mayAt_9 rfl (lv_at hl 3 rfl) ?_
    obtain ⟨r10, h10, h⟩ := bnd h
    refine g_calli0 (isC := []) (gn := fun _ => [wRM g ad eK eT rm]) (g_runS (isC := []) (rest := []) (As := [.int p3]) X hw (c_X6_mask l h10) rfl kM_X6_mask kt_X6_mask km_X6_212 ⟨(Nat.le_of_ble_eq_true rfl), (Nat.le_of_ble_eq_true rfl)⟩ ⟨(Nat.le_of_ble_eq_true rfl), (Nat.le_of_ble_eq_true rfl)⟩ rfl rfl rfl hl.1 rfl (Nat.le_of_ble_eq_true rfl) dX6_mayAt_10) hw rfl rfl (fun _ => (Nat.le_of_ble_eq_true rfl)) (fun _ => rfl) rfl rfl (fun _ H locs hw => ?_)
    refine lv_aload_n hx hb dX6_mayAt_13 rfl (lv_at hl 0 rfl) ?_
    refine RM_g_stuck X hw 0 rfl kf_X6_46 dX6_mayAt_14 ?_
    refine lv_iload_n hx hb dX6_mayAt_17 rfl (lv_at hl 1 rfl) ?_
    obtain ⟨q18, h⟩ := chk h
    refine RM_l_stuck X hw 0 rfl q18 dX6_mayAt_18 ?_
    refine lv_iand hx hb dX6_mayAt_19 ?_
    refine lv_if_eq (tgt := 25) hx hb dX6_mayAt_20 (by decide) (fun k20 => ?_) (fun k20 => ?_)
    · have h := itt k20 h
      refine lv_iload_n hx hb dX6_mayAt_25 rfl (lv_at hl 3 rfl) ?_
      refine lv_bipush (v := 20) hx hb dX6_mayAt_26 (by decide) ?_
      refine lv_icmp_ne (tgt := 50) hx hb dX6_mayAt_28 (by decide) (fun k28 => ?_) (fun k28 => ?_)
      · have h := itt k28 h
        refine lv_aload_n hx hb dX6_mayAt_50 rfl (lv_at hl 0 rfl) ?_
        refine RM_g_kind X hw 0 rfl kf_X6_37 dX6_mayAt_51 ?_
        refine lv_iload_n hx hb dX6_mayAt_54 rfl (lv_at hl 1 rfl) ?_
        obtain ⟨q55, h⟩ := chk h
        refine RM_l_kind X hw 0 rfl q55 dX6_mayAt_55 ?_
        refine lv_if_ne (tgt := 61) hx hb dX6_mayAt_56 (by decide) (fun k56 => ?_) (fun k56 => ?_)
        · have h := itt k56 h
          refine lv_aload_n hx hb dX6_mayAt_61 rfl (lv_at hl 0 rfl) ?_
          refine RM_g_kind X hw 0 rfl kf_X6_37 dX6_mayAt_62 ?_
          refine lv_iload_n hx hb dX6_mayAt_65 rfl (lv_at hl 1 rfl) ?_
          obtain ⟨q66, h⟩ := chk h
          refine RM_l_kind X hw 0 rfl q66 dX6_mayAt_66 ?_
          refine lv_iconst (v := 5) hx hb dX6_mayAt_67 (by decide) ?_
          refine lv_icmp_ne (tgt := 105) hx hb dX6_mayAt_68 (by decide) (fun k68 => ?_) (fun k68 => ?_)
          · have h := itt k68 h
            refine lv_aload_n hx hb dX6_mayAt_105 rfl (lv_at hl 0 rfl) ?_
            refine RM_g_kind X hw 0 rfl kf_X6_37 dX6_mayAt_106 ?_
            refine lv_iload_n hx hb dX6_mayAt_109 rfl (lv_at hl 1 rfl) ?_
            obtain ⟨q110, h⟩ := chk h
            refine RM_l_kind X hw 0 rfl q110 dX6_mayAt_110 ?_
            refine lv_iload_n hx hb dX6_mayAt_111 rfl (lv_at hl 2 rfl) ?_
            refine lv_aload_n hx hb dX6_mayAt_112 rfl (lv_at hl 0 rfl) ?_
            refine RM_g_size X hw 0 rfl kf_X6_40 dX6_mayAt_113 ?_
            refine lv_iload_n hx hb dX6_mayAt_116 rfl (lv_at hl 1 rfl) ?_
            obtain ⟨q117, h⟩ := chk h
            refine RM_l_size X hw 0 rfl q117 dX6_mayAt_117 ?_
            refine lv_iload_n hx hb dX6_mayAt_118 rfl (lv_at hl 3 rfl) ?_
            obtain ⟨r119, h119, h⟩ := bnd h
            refine g_calli0 (isC := []) (gn := fun _ => [wRM g ad eK eT rm]) (g_runS (isC := []) (rest := []) (As := [.int (RM_kind rm p1.toNatClampNeg), .int p2, .int (RM_size rm p1.toNatClampNeg), .int p3]) X hw (c_X6_mayBy l h119) rfl kM_X6_mayBy kt_X6_mayBy km_X6_259 ⟨(Nat.le_of_ble_eq_true rfl), (Nat.le_of_ble_eq_true rfl)⟩ ⟨(Nat.le_of_ble_eq_true rfl), (Nat.le_of_ble_eq_true rfl)⟩ rfl rfl rfl hl.1 rfl (Nat.le_of_ble_eq_true rfl) dX6_mayAt_119) hw rfl rfl (fun _ => (Nat.le_of_ble_eq_true rfl)) (fun _ => rfl) rfl rfl (fun _ H locs hw => ?_)
            obtain ⟨q122, h⟩ := chk h
            have h := Option.some.inj h
            subst h
            exact hret () dX6_mayAt_122 (Decidable.not_not.mp q122) rfl hw
          · have h := itf (fun z => z k68) h
            refine lv_aload_n hx hb dX6_mayAt_71 rfl (lv_at hl 0 rfl) ?_
            refine RM_g_must X hw 0 rfl kf_X6_51 dX6_mayAt_72 ?_
            refine lv_iload_n hx hb dX6_mayAt_75 rfl (lv_at hl 1 rfl) ?_
            obtain ⟨q76, h⟩ := chk h
            have o76 := Nat.not_le.mp (fun z => q76 (Or.inr z))
            refine RM_q_must X hw 0 rfl q76 dX6_mayAt_76 ?_
            refine lv_iload_n hx hb dX6_mayAt_77 rfl (lv_at hl 3 rfl) ?_
            obtain ⟨q78, h⟩ := chk h
            refine RM_l_must X hw 0 rfl o76 q78 dX6_mayAt_78 ?_
            refine lv_iload_n hx hb dX6_mayAt_79 rfl (lv_at hl 2 rfl) ?_
            refine lv_iconst (v := -1) hx hb dX6_mayAt_80 (by decide) ?_
            refine lv_ixor hx hb dX6_mayAt_81 ?_
            refine lv_iand hx hb dX6_mayAt_82 ?_
            refine lv_if_ne (tgt := 103) hx hb dX6_mayAt_83 (by decide) (fun k83 => ?_) (fun k83 => ?_)
            · have h := itt k83 h
              refine lv_iconst (v := 0) hx hb dX6_mayAt_103 (by decide) ?_
              have h := Option.some.inj h
              subst h
              exact hret () dX6_mayAt_104 (by decide) rfl hw
            · have h := itf (fun z => z k83) h
              refine lv_aload_n hx hb dX6_mayAt_86 rfl (lv_at hl 0 rfl) ?_
              refine RM_g_not X hw 0 rfl kf_X6_54 dX6_mayAt_87 ?_
              refine lv_iload_n hx hb dX6_mayAt_90 rfl (lv_at hl 1 rfl) ?_
              obtain ⟨q91, h⟩ := chk h
              have o91 := Nat.not_le.mp (fun z => q91 (Or.inr z))
              refine RM_q_not X hw 0 rfl q91 dX6_mayAt_91 ?_
              refine lv_iload_n hx hb dX6_mayAt_92 rfl (lv_at hl 3 rfl) ?_
              obtain ⟨q93, h⟩ := chk h
              refine RM_l_not X hw 0 rfl o91 q93 dX6_mayAt_93 ?_
              refine lv_iload_n hx hb dX6_mayAt_94 rfl (lv_at hl 2 rfl) ?_
              refine lv_iand hx hb dX6_mayAt_95 ?_
              refine lv_if_ne (tgt := 103) hx hb dX6_mayAt_96 (by decide) (fun k96 => ?_) (fun k96 => ?_)
              · have h := itt k96 h
                refine lv_iconst (v := 0) hx hb dX6_mayAt_103 (by decide) ?_
                have h := Option.some.inj h
                subst h
                exact hret () dX6_mayAt_104 (by decide) rfl hw
              · have h := itf (fun z => z k96) h
                refine lv_iconst (v := 1) hx hb dX6_mayAt_99 (by decide) ?_
                refine lv_goto (tgt := 104) hx hb dX6_mayAt_100 (by decide) ?_
                have h := Option.some.inj h
                subst h
                exact hret () dX6_mayAt_104 (by decide) rfl hw
        · have h := itf (fun z => z k56) h
          refine lv_iconst (v := 1) hx hb dX6_mayAt_59 (by decide) ?_
          have h := Option.some.inj h
          subst h
          exact hret () dX6_mayAt_60 (by decide) rfl hw
      · have h := itf (fun z => z k28) h
        refine lv_iload_n hx hb dX6_mayAt_31 rfl (lv_at hl 2 rfl) ?_
        refine lv_iconst (v := 3) hx hb dX6_mayAt_32 (by decide) ?_
        refine lv_iand hx hb dX6_mayAt_33 ?_
        refine lv_if_eq (tgt := 44) hx hb dX6_mayAt_34 (by decide) (fun k34 => ?_) (fun k34 => ?_)
        · have h := itt k34 h
          refine lv_iconst (v := 1) hx hb dX6_mayAt_44 (by decide) ?_
          refine lv_goto (tgt := 49) hx hb dX6_mayAt_45 (by decide) ?_
          have h := Option.some.inj h
          subst h
          exact hret () dX6_mayAt_49 (by decide) rfl hw
        · have h := itf k34 h
          refine lv_iload_n hx hb dX6_mayAt_37 rfl (lv_at hl 2 rfl) ?_
          refine lv_iconst (v := 3) hx hb dX6_mayAt_38 (by decide) ?_
          refine lv_iand hx hb dX6_mayAt_39 ?_
          refine lv_iconst (v := 3) hx hb dX6_mayAt_40 (by decide) ?_
          refine lv_icmp_ne (tgt := 48) hx hb dX6_mayAt_41 (by decide) (fun k41 => ?_) (fun k41 => ?_)
          · have h := itt k41 h
            refine lv_iconst (v := 0) hx hb dX6_mayAt_48 (by decide) ?_
            have h := Option.some.inj h
            subst h
            exact hret () dX6_mayAt_49 (by decide) rfl hw
          · have h := itf (fun z => z k41) h
            refine lv_iconst (v := 1) hx hb dX6_mayAt_44 (by decide) ?_
            refine lv_goto (tgt := 49) hx hb dX6_mayAt_45 (by decide) ?_
            have h := Option.some.inj h
            subst h
            exact hret () dX6_mayAt_49 (by decide) rfl hw
    · have h := itf k20 h
      refine lv_iconst (v := 0) hx hb dX6_mayAt_23 (by decide) ?_
      have h := Option.some.inj h
      subst h
      exact hret () dX6_mayAt_24 (by decide) rfl hw
theorem kM_X6_may : kM yX6_may cX6_may 3 (some FieldType.int) 2 := ⟨kc_X6_may, kn_RingsOffModel, by decide +kernel⟩
abbrev R_X6_may : Room := { frames := 4, cells := 0, slots := 0, locals := 92 }
set_option maxHeartbeats 4000000 in
set_option maxRecDepth 100000 in
theorem c_X6_may (l : Launch) {ad : Nat → Nat} {eK : Option Nat} {eT : Option Nat} {N : Nat} {rm : RM} {p1 : Int32} {p2 : Int32} {out : Int32 × RM} (h : M_X6_may N rm p1 p2 = some out) : gM l yX6_may cX6_may 3 (some FieldType.int) R_X6_may (fun _ => [.ref (ad 0), .int p1, .int p2]) (fun g => [wRM g ad eK eT rm]) (gQi (fun (_ : Unit) => out.1) (fun g (_ : Unit) => [wRM g ad eK eT out.2])) := by
  refine gM.ofi (by decide +kernel) (fun _ => Nat.le_of_ble_eq_true rfl) (fun g p e s m args below meth c A ls Q X hret hw hl => ?_)
  have hx := X.1.1
  have hb := X.1.2.1
  have hl : lv_has ls 3 [(0, .ref (ad 0)), (1, .int p1), (2, .int p2)] := hl
  have J17 : ∀ (z17 : RM), M_X6_may_j17 N p1 p2 z17 = some out → ∀ (H : Heap) (locs : List Loc) (ls : Array Slot), gW g A s.heap [wRM g ad eK eT z17] H locs → lv_has ls 3 [(0, .ref (ad 0))] → W p l e R_X6_may s m args below meth c H locs 0 0 Q (F0 m 17 ls []) := by
    intro z17 h H locs ls hw hl
    unfold M_X6_may_j17 at h
    refine lv_aload_n hx hb dX6_may_17 rfl (lv_at hl 0 rfl) ?_
    refine lv_bipush (v := -2) hx hb dX6_may_18 (by decide) ?_
    obtain ⟨r20, h20, h⟩ := bnd h
    refine g_calli0 (isC := [0]) (gn := fun _ => [wRM g ad eK eT r20.2]) (g_runV (isC := [0]) (rest := []) (As := [.int (-2 : Int32)]) X hw (c_X6_refuse l (ad := ad) (eK := eK) (eT := eT) h20) rfl kM_X6_refuse ki_X6_refuse ks_X6_refuse km_X6_96 ⟨(Nat.le_of_ble_eq_true rfl), (Nat.le_of_ble_eq_true rfl)⟩ ⟨(Nat.le_of_ble_eq_true rfl), (Nat.le_of_ble_eq_true rfl)⟩ rfl rfl ⟨_, _, _, _, rfl, rfl, rfl, rfl⟩ rfl hl.1 rfl (Nat.le_of_ble_eq_true rfl) dX6_may_20) hw rfl rfl (fun _ => (Nat.le_of_ble_eq_true rfl)) (fun _ => rfl) rfl rfl (fun _ H locs hw => ?_)
    have h := Option.some.inj h
    subst h
    exact hret () dX6_may_23 rfl hw
  unfold M_X6_may at h
  refine lv_aload_n hx hb dX6_may_0 rfl (lv_at hl 0 rfl) ?_
  refine lv_iload_n hx hb dX6_may_1 rfl (lv_at hl 1 rfl) ?_
  obtain ⟨r2, h2, h⟩ := bnd h
  refine g_calli0 (isC := [0]) (gn := fun _ => [wRM g ad eK eT rm]) (g_runV (isC := [0]) (rest := []) (As := [.int p1]) X hw (c_X6_isBar l (ad := ad) (eK := eK) (eT := eT) h2) rfl kM_X6_isBar ki_X6_isBar ks_X6_isBar km_X6_106 ⟨(Nat.le_of_ble_eq_true rfl), (Nat.le_of_ble_eq_true rfl)⟩ ⟨(Nat.le_of_ble_eq_true rfl), (Nat.le_of_ble_eq_true rfl)⟩ rfl rfl ⟨_, _, _, _, rfl, rfl, rfl, rfl⟩ rfl hl.1 rfl (Nat.le_of_ble_eq_true rfl) dX6_may_2) hw rfl rfl (fun _ => (Nat.le_of_ble_eq_true rfl)) (fun _ => rfl) rfl rfl (fun _ H locs hw => ?_)
  refine lv_if_eq (tgt := 17) hx hb dX6_may_5 (by decide) (fun k5 => ?_) (fun k5 => ?_)
  · have h := itt k5 h
    exact J17 _ h _ _ _ hw (lv_sub hl [0] rfl)
  · have h := itf k5 h
    refine lv_aload_n hx hb dX6_may_8 rfl (lv_at hl 0 rfl) ?_
    refine lv_iload_n hx hb dX6_may_9 rfl (lv_at hl 1 rfl) ?_
    refine lv_iload_n hx hb dX6_may_10 rfl (lv_at hl 2 rfl) ?_
    obtain ⟨r11, h11, h⟩ := bnd h
    refine g_calli0 (isC := [0]) (gn := fun _ => [wRM g ad eK eT rm]) (g_runV (isC := [0]) (rest := []) (As := [.int p1, .int p2]) X hw (c_X6_isMove l (ad := ad) (eK := eK) (eT := eT) h11) rfl kM_X6_isMove ki_X6_isMove ks_X6_isMove km_X6_256 ⟨(Nat.le_of_ble_eq_true rfl), (Nat.le_of_ble_eq_true rfl)⟩ ⟨(Nat.le_of_ble_eq_true rfl), (Nat.le_of_ble_eq_true rfl)⟩ rfl rfl ⟨_, _, _, _, rfl, rfl, rfl, rfl⟩ rfl hl.1 rfl (Nat.le_of_ble_eq_true rfl) dX6_may_11) hw rfl rfl (fun _ => (Nat.le_of_ble_eq_true rfl)) (fun _ => rfl) rfl rfl (fun _ H locs hw => ?_)
    refine lv_if_ne (tgt := 24) hx hb dX6_may_14 (by decide) (fun k14 => ?_) (fun k14 => ?_)
    · have h := itt k14 h
      refine lv_aload_n hx hb dX6_may_24 rfl (lv_at hl 0 rfl) ?_
      refine lv_iload_n hx hb dX6_may_25 rfl (lv_at hl 1 rfl) ?_
      refine lv_aload_n hx hb dX6_may_26 rfl (lv_at hl 0 rfl) ?_
      refine RM_g_on X hw 0 rfl kf_X6_43 dX6_may_27 ?_
      refine lv_iload_n hx hb dX6_may_30 rfl (lv_at hl 1 rfl) ?_
      obtain ⟨q31, h⟩ := chk h
      refine RM_l_on X hw 0 rfl q31 dX6_may_31 ?_
      refine lv_iload_n hx hb dX6_may_32 rfl (lv_at hl 2 rfl) ?_
      obtain ⟨r33, h33, h⟩ := bnd h
      refine g_calli0 (isC := [0]) (gn := fun _ => [wRM g ad eK eT rm]) (g_runV (isC := [0]) (rest := []) (As := [.int p1, .int (RM_on rm p1.toNatClampNeg), .int p2]) X hw (c_X6_mayAt l (ad := ad) (eK := eK) (eT := eT) h33) rfl kM_X6_mayAt ki_X6_mayAt ks_X6_mayAt km_X6_131 ⟨(Nat.le_of_ble_eq_true rfl), (Nat.le_of_ble_eq_true rfl)⟩ ⟨(Nat.le_of_ble_eq_true rfl), (Nat.le_of_ble_eq_true rfl)⟩ rfl rfl ⟨_, _, _, _, rfl, rfl, rfl, rfl⟩ rfl hl.1 rfl (Nat.le_of_ble_eq_true rfl) dX6_may_33) hw rfl rfl (fun _ => (Nat.le_of_ble_eq_true rfl)) (fun _ => rfl) rfl rfl (fun _ H locs hw => ?_)
      refine lv_if_eq (tgt := 43) hx hb dX6_may_36 (by decide) (fun k36 => ?_) (fun k36 => ?_)
      · have h := itt k36 h
        refine lv_iconst (v := 0) hx hb dX6_may_43 (by decide) ?_
        have h := Option.some.inj h
        subst h
        exact hret () dX6_may_44 rfl hw
      · have h := itf k36 h
        refine lv_iconst (v := 1) hx hb dX6_may_39 (by decide) ?_
        refine lv_goto (tgt := 44) hx hb dX6_may_40 (by decide) ?_
        have h := Option.some.inj h
        subst h
        exact hret () dX6_may_44 rfl hw
    · have h := itf (fun z => z k14) h
      exact J17 _ h _ _ _ hw (lv_sub hl [0] rfl)
theorem kM_X6_moves : kM yX6_moves cX6_moves 4 (some FieldType.int) 1 := ⟨kc_X6_moves, kn_RingsOffModel, by decide +kernel⟩
abbrev R_X6_moves : Room := { frames := 4, cells := 0, slots := 0, locals := 92 }
set_option maxHeartbeats 4000000 in
set_option maxRecDepth 100000 in
theorem c_X6_moves (l : Launch) {ad : Nat → Nat} {eK : Option Nat} {eT : Option Nat} {N : Nat} {rm : RM} {p1 : Int32} {out : Int32 × RM} (h : M_X6_moves N rm p1 = some out) : gM l yX6_moves cX6_moves 4 (some FieldType.int) R_X6_moves (fun _ => [.ref (ad 0), .int p1]) (fun g => [wRM g ad eK eT rm]) (gQi (fun (_ : Unit) => out.1) (fun g (_ : Unit) => [wRM g ad eK eT out.2])) := by
  refine gM.ofi (by decide +kernel) (fun _ => Nat.le_of_ble_eq_true rfl) (fun g p e s m args below meth c A ls Q X hret hw hl => ?_)
  have hx := X.1.1
  have hb := X.1.2.1
  have hl : lv_has ls 4 [(0, .ref (ad 0)), (1, .int p1)] := hl
  have L19 : ∀ (n : Nat) (z19 : RM × Int32 × Int32), lp (M_X6_moves_l19 N p1) n z19 = some out → ∀ (H : Heap) (locs : List Loc) (ls : Array Slot), gW g A s.heap [wRM g ad eK eT z19.1] H locs → lv_has ls 4 [(0, .ref (ad 0)), (1, .int p1), (2, .int z19.2.1), (3, .int z19.2.2)] → W p l e R_X6_moves s m args below meth c H locs 0 0 Q (F0 m 19 ls []) := by
    refine lp_ind ?_
    intro rec19 ih19
    have J48 : ∀ (z48 : RM × Int32 × Int32 × Int32), M_X6_moves_j48 N p1 rec19 z48 = some out → ∀ (H : Heap) (locs : List Loc) (ls : Array Slot), gW g A s.heap [wRM g ad eK eT z48.1] H locs → lv_has ls 4 [(0, .ref (ad 0)), (1, .int p1), (3, .int z48.2.1)] → W p l e R_X6_moves s m args below meth c H locs 0 0 Q (F0 m 48 ls [.int z48.2.2.2, .int z48.2.2.1]) := by
      intro z48 h H locs ls hw hl
      unfold M_X6_moves_j48 at h
      refine lv_ior hx hb dX6_moves_48 ?_
      refine lv_istore_n (lv' := [(2, .int (z48.2.2.1 ||| z48.2.2.2)), (0, .ref (ad 0)), (1, .int p1), (3, .int z48.2.1)]) hx hb dX6_moves_49 rfl hl (by decide) rfl (fun ls hl => ?_)
      refine lv_iinc (v := (z48.2.1 + 1)) (lv' := [(3, .int (z48.2.1 + 1)), (2, .int (z48.2.2.1 ||| z48.2.2.2)), (0, .ref (ad 0)), (1, .int p1)]) hx hb dX6_moves_50 hl (k := 3) rfl rfl (by decide) rfl (fun ls hl => ?_)
      refine lv_goto (tgt := 19) hx hb dX6_moves_53 (by decide) ?_
      exact ih19 _ h _ _ _ hw (lv_sub hl [2, 3, 1, 0] rfl)
    intro z19 h H locs ls hw hl
    unfold M_X6_moves_l19 at h
    refine lv_iload_n hx hb dX6_moves_19 rfl (lv_at hl 3 rfl) ?_
    refine lv_bipush (v := 20) hx hb dX6_moves_20 (by decide) ?_
    refine lv_icmp_gt (tgt := 56) hx hb dX6_moves_22 (by decide) (fun k22 => ?_) (fun k22 => ?_)
    · have h := itt k22 h
      refine lv_iload_n hx hb dX6_moves_56 rfl (lv_at hl 2 rfl) ?_
      have h := Option.some.inj h
      subst h
      exact hret () dX6_moves_57 rfl hw
    · have h := itf k22 h
      refine lv_iload_n hx hb dX6_moves_25 rfl (lv_at hl 2 rfl) ?_
      refine lv_aload_n hx hb dX6_moves_26 rfl (lv_at hl 0 rfl) ?_
      refine lv_iload_n hx hb dX6_moves_27 rfl (lv_at hl 1 rfl) ?_
      refine lv_aload_n hx hb dX6_moves_28 rfl (lv_at hl 0 rfl) ?_
      refine RM_g_on X hw 0 rfl kf_X6_43 dX6_moves_29 ?_
      refine lv_iload_n hx hb dX6_moves_32 rfl (lv_at hl 1 rfl) ?_
      obtain ⟨q33, h⟩ := chk h
      refine RM_l_on X hw 0 rfl q33 dX6_moves_33 ?_
      refine lv_iload_n hx hb dX6_moves_34 rfl (lv_at hl 3 rfl) ?_
      obtain ⟨r35, h35, h⟩ := bnd h
      refine g_calli0 (isC := [0]) (gn := fun _ => [wRM g ad eK eT z19.1]) (g_runV (isC := [0]) (rest := [.int z19.2.1]) (As := [.int p1, .int (RM_on z19.1 p1.toNatClampNeg), .int z19.2.2]) X hw (c_X6_mayAt l (ad := ad) (eK := eK) (eT := eT) h35) rfl kM_X6_mayAt ki_X6_mayAt ks_X6_mayAt km_X6_131 ⟨(Nat.le_of_ble_eq_true rfl), (Nat.le_of_ble_eq_true rfl)⟩ ⟨(Nat.le_of_ble_eq_true rfl), (Nat.le_of_ble_eq_true rfl)⟩ rfl rfl ⟨_, _, _, _, rfl, rfl, rfl, rfl⟩ rfl hl.1 rfl (Nat.le_of_ble_eq_true rfl) dX6_moves_35) hw rfl rfl (fun _ => (Nat.le_of_ble_eq_true rfl)) (fun _ => rfl) rfl rfl (fun _ H locs hw => ?_)
      refine lv_if_eq (tgt := 47) hx hb dX6_moves_38 (by decide) (fun k38 => ?_) (fun k38 => ?_)
      · have h := itt k38 h
        refine lv_iconst (v := 0) hx hb dX6_moves_47 (by decide) ?_
        exact J48 _ h _ _ _ hw (lv_sub hl [0, 1, 3] rfl)
      · have h := itf k38 h
        refine lv_iconst (v := 1) hx hb dX6_moves_41 (by decide) ?_
        refine lv_iload_n hx hb dX6_moves_42 rfl (lv_at hl 3 rfl) ?_
        refine lv_ishl hx hb dX6_moves_43 ?_
        refine lv_goto (tgt := 48) hx hb dX6_moves_44 (by decide) ?_
        exact J48 _ h _ _ _ hw (lv_sub hl [0, 1, 3] rfl)
  unfold M_X6_moves at h
  refine lv_aload_n hx hb dX6_moves_0 rfl (lv_at hl 0 rfl) ?_
  refine lv_iload_n hx hb dX6_moves_1 rfl (lv_at hl 1 rfl) ?_
  obtain ⟨r2, h2, h⟩ := bnd h
  refine g_calli0 (isC := [0]) (gn := fun _ => [wRM g ad eK eT rm]) (g_runV (isC := [0]) (rest := []) (As := [.int p1]) X hw (c_X6_isBar l (ad := ad) (eK := eK) (eT := eT) h2) rfl kM_X6_isBar ki_X6_isBar ks_X6_isBar km_X6_106 ⟨(Nat.le_of_ble_eq_true rfl), (Nat.le_of_ble_eq_true rfl)⟩ ⟨(Nat.le_of_ble_eq_true rfl), (Nat.le_of_ble_eq_true rfl)⟩ rfl rfl ⟨_, _, _, _, rfl, rfl, rfl, rfl⟩ rfl hl.1 rfl (Nat.le_of_ble_eq_true rfl) dX6_moves_2) hw rfl rfl (fun _ => (Nat.le_of_ble_eq_true rfl)) (fun _ => rfl) rfl rfl (fun _ H locs hw => ?_)
  refine lv_if_ne (tgt := 15) hx hb dX6_moves_5 (by decide) (fun k5 => ?_) (fun k5 => ?_)
  · have h := itt k5 h
    refine lv_iconst (v := 0) hx hb dX6_moves_15 (by decide) ?_
    refine lv_istore_n (lv' := [(2, .int (0 : Int32)), (0, .ref (ad 0)), (1, .int p1)]) hx hb dX6_moves_16 rfl hl (by decide) rfl (fun ls hl => ?_)
    refine lv_iconst (v := 0) hx hb dX6_moves_17 (by decide) ?_
    refine lv_istore_n (lv' := [(3, .int (0 : Int32)), (2, .int (0 : Int32)), (0, .ref (ad 0)), (1, .int p1)]) hx hb dX6_moves_18 rfl hl (by decide) rfl (fun ls hl => ?_)
    exact L19 N _ h _ _ _ hw (lv_sub hl [2, 3, 1, 0] rfl)
  · have h := itf (fun z => z k5) h
    refine lv_aload_n hx hb dX6_moves_8 rfl (lv_at hl 0 rfl) ?_
    refine lv_bipush (v := -2) hx hb dX6_moves_9 (by decide) ?_
    obtain ⟨r11, h11, h⟩ := bnd h
    refine g_calli0 (isC := [0]) (gn := fun _ => [wRM g ad eK eT r11.2]) (g_runV (isC := [0]) (rest := []) (As := [.int (-2 : Int32)]) X hw (c_X6_refuse l (ad := ad) (eK := eK) (eT := eT) h11) rfl kM_X6_refuse ki_X6_refuse ks_X6_refuse km_X6_96 ⟨(Nat.le_of_ble_eq_true rfl), (Nat.le_of_ble_eq_true rfl)⟩ ⟨(Nat.le_of_ble_eq_true rfl), (Nat.le_of_ble_eq_true rfl)⟩ rfl rfl ⟨_, _, _, _, rfl, rfl, rfl, rfl⟩ rfl hl.1 rfl (Nat.le_of_ble_eq_true rfl) dX6_moves_11) hw rfl rfl (fun _ => (Nat.le_of_ble_eq_true rfl)) (fun _ => rfl) rfl rfl (fun _ H locs hw => ?_)
    have h := Option.some.inj h
    subst h
    exact hret () dX6_moves_14 rfl hw
theorem kM_X6_makes : kM yX6_makes cX6_makes 3 (none : Option Jvm.ClassFile.FieldType) 2 := ⟨kc_X6_makes, kn_RingsOffModel, by decide +kernel⟩
abbrev R_X6_makes : Room := { frames := 1, cells := 0, slots := 0, locals := 20 }
set_option maxHeartbeats 4000000 in
set_option maxRecDepth 100000 in
theorem c_X6_makes (l : Launch) {ad : Nat → Nat} {eK : Option Nat} {eT : Option Nat} {N : Nat} {rm : RM} {p1 : Int32} {p2 : Int32} {out : RM} (h : M_X6_makes N rm p1 p2 = some out) : gM l yX6_makes cX6_makes 3 (none : Option Jvm.ClassFile.FieldType) R_X6_makes (fun _ => [.ref (ad 0), .int p1, .int p2]) (fun g => [wRM g ad eK eT rm]) (gQv (fun g (_ : Unit) => [wRM g ad eK eT out])) := by
  refine gM.ofv (by decide +kernel) (fun _ => Nat.le_of_ble_eq_true rfl) (fun g p e s m args below meth c A ls Q X hret hw hl => ?_)
  have hx := X.1.1
  have hb := X.1.2.1
  have hl : lv_has ls 3 [(0, .ref (ad 0)), (1, .int p1), (2, .int p2)] := hl
  unfold M_X6_makes at h
  refine lv_aload_n hx hb dX6_makes_0 rfl (lv_at hl 0 rfl) ?_
  refine RM_g_on X hw 0 rfl kf_X6_43 dX6_makes_1 ?_
  refine lv_iload_n hx hb dX6_makes_4 rfl (lv_at hl 1 rfl) ?_
  refine lv_dup2_11 hx hb dX6_makes_5 rfl rfl ?_
  obtain ⟨q6, h⟩ := chk h
  refine RM_l_on X hw 0 rfl q6 dX6_makes_6 ?_
  refine lv_iload_n hx hb dX6_makes_7 rfl (lv_at hl 2 rfl) ?_
  obtain ⟨r8, h8, h⟩ := bnd h
  refine g_calli0 (isC := []) (gn := fun _ => [wRM g ad eK eT rm]) (g_runS (isC := []) (rest := [.int (RM_on rm p1.toNatClampNeg), .int p1, .ref (ad 19)]) (As := [.int p2]) X hw (c_X6_mask l h8) rfl kM_X6_mask kt_X6_mask km_X6_212 ⟨(Nat.le_of_ble_eq_true rfl), (Nat.le_of_ble_eq_true rfl)⟩ ⟨(Nat.le_of_ble_eq_true rfl), (Nat.le_of_ble_eq_true rfl)⟩ rfl rfl rfl hl.1 rfl (Nat.le_of_ble_eq_true rfl) dX6_makes_8) hw rfl rfl (fun _ => (Nat.le_of_ble_eq_true rfl)) (fun _ => rfl) rfl rfl (fun _ H locs hw => ?_)
  refine lv_ixor hx hb dX6_makes_11 ?_
  obtain ⟨q12, h⟩ := chk h
  refine RM_a_on (gs' := [wRM g ad eK eT (RM_s_on rm (upd (RM_on rm) p1.toNatClampNeg ((RM_on rm p1.toNatClampNeg) ^^^ r8)))]) X hw 0 rfl q12 dX6_makes_12 rfl (fun H locs hw => ?_)
  refine lv_aload_n hx hb dX6_makes_13 rfl (lv_at hl 0 rfl) ?_
  refine lv_dup hx hb dX6_makes_14 rfl ?_
  refine RM_g_movedAll X hw 0 rfl kf_X6_215 dX6_makes_15 ?_
  refine lv_iconst (v := 1) hx hb dX6_makes_18 (by decide) ?_
  refine lv_iadd hx hb dX6_makes_19 ?_
  refine RM_p_movedAll (gs' := [wRM g ad eK eT (RM_s_movedAll (RM_s_on rm (upd (RM_on rm) p1.toNatClampNeg ((RM_on rm p1.toNatClampNeg) ^^^ r8))) ((RM_movedAll (RM_s_on rm (upd (RM_on rm) p1.toNatClampNeg ((RM_on rm p1.toNatClampNeg) ^^^ r8)))) + (1 : Int32)))]) X hw 0 rfl kf_X6_215 dX6_makes_20 rfl (fun H locs hw => ?_)
  have h := Option.some.inj h
  subst h
  exact hret () dX6_makes_23 hw
theorem kM_X6_move : kM yX6_move cX6_move 3 (some FieldType.int) 2 := ⟨kc_X6_move, kn_RingsOffModel, by decide +kernel⟩
abbrev R_X6_move : Room := { frames := 4, cells := 0, slots := 0, locals := 92 }
set_option maxHeartbeats 4000000 in
set_option maxRecDepth 100000 in
theorem c_X6_move (l : Launch) {ad : Nat → Nat} {eK : Option Nat} {eT : Option Nat} {N : Nat} {rm : RM} {p1 : Int32} {p2 : Int32} {out : Int32 × RM} (h : M_X6_move N rm p1 p2 = some out) : gM l yX6_move cX6_move 3 (some FieldType.int) R_X6_move (fun _ => [.ref (ad 0), .int p1, .int p2]) (fun g => [wRM g ad eK eT rm]) (gQi (fun (_ : Unit) => out.1) (fun g (_ : Unit) => [wRM g ad eK eT out.2])) := by
  refine gM.ofi (by decide +kernel) (fun _ => Nat.le_of_ble_eq_true rfl) (fun g p e s m args below meth c A ls Q X hret hw hl => ?_)
  have hx := X.1.1
  have hb := X.1.2.1
  have hl : lv_has ls 3 [(0, .ref (ad 0)), (1, .int p1), (2, .int p2)] := hl
  have J17 : ∀ (z17 : RM), M_X6_move_j17 N p1 p2 z17 = some out → ∀ (H : Heap) (locs : List Loc) (ls : Array Slot), gW g A s.heap [wRM g ad eK eT z17] H locs → lv_has ls 3 [(0, .ref (ad 0))] → W p l e R_X6_move s m args below meth c H locs 0 0 Q (F0 m 17 ls []) := by
    intro z17 h H locs ls hw hl
    unfold M_X6_move_j17 at h
    refine lv_aload_n hx hb dX6_move_17 rfl (lv_at hl 0 rfl) ?_
    refine lv_bipush (v := -2) hx hb dX6_move_18 (by decide) ?_
    obtain ⟨r20, h20, h⟩ := bnd h
    refine g_calli0 (isC := [0]) (gn := fun _ => [wRM g ad eK eT r20.2]) (g_runV (isC := [0]) (rest := []) (As := [.int (-2 : Int32)]) X hw (c_X6_refuse l (ad := ad) (eK := eK) (eT := eT) h20) rfl kM_X6_refuse ki_X6_refuse ks_X6_refuse km_X6_96 ⟨(Nat.le_of_ble_eq_true rfl), (Nat.le_of_ble_eq_true rfl)⟩ ⟨(Nat.le_of_ble_eq_true rfl), (Nat.le_of_ble_eq_true rfl)⟩ rfl rfl ⟨_, _, _, _, rfl, rfl, rfl, rfl⟩ rfl hl.1 rfl (Nat.le_of_ble_eq_true rfl) dX6_move_20) hw rfl rfl (fun _ => (Nat.le_of_ble_eq_true rfl)) (fun _ => rfl) rfl rfl (fun _ H locs hw => ?_)
    have h := Option.some.inj h
    subst h
    exact hret () dX6_move_23 rfl hw
  unfold M_X6_move at h
  refine lv_aload_n hx hb dX6_move_0 rfl (lv_at hl 0 rfl) ?_
  refine lv_iload_n hx hb dX6_move_1 rfl (lv_at hl 1 rfl) ?_
  obtain ⟨r2, h2, h⟩ := bnd h
  refine g_calli0 (isC := [0]) (gn := fun _ => [wRM g ad eK eT rm]) (g_runV (isC := [0]) (rest := []) (As := [.int p1]) X hw (c_X6_isBar l (ad := ad) (eK := eK) (eT := eT) h2) rfl kM_X6_isBar ki_X6_isBar ks_X6_isBar km_X6_106 ⟨(Nat.le_of_ble_eq_true rfl), (Nat.le_of_ble_eq_true rfl)⟩ ⟨(Nat.le_of_ble_eq_true rfl), (Nat.le_of_ble_eq_true rfl)⟩ rfl rfl ⟨_, _, _, _, rfl, rfl, rfl, rfl⟩ rfl hl.1 rfl (Nat.le_of_ble_eq_true rfl) dX6_move_2) hw rfl rfl (fun _ => (Nat.le_of_ble_eq_true rfl)) (fun _ => rfl) rfl rfl (fun _ H locs hw => ?_)
  refine lv_if_eq (tgt := 17) hx hb dX6_move_5 (by decide) (fun k5 => ?_) (fun k5 => ?_)
  · have h := itt k5 h
    exact J17 _ h _ _ _ hw (lv_sub hl [0] rfl)
  · have h := itf k5 h
    refine lv_aload_n hx hb dX6_move_8 rfl (lv_at hl 0 rfl) ?_
    refine lv_iload_n hx hb dX6_move_9 rfl (lv_at hl 1 rfl) ?_
    refine lv_iload_n hx hb dX6_move_10 rfl (lv_at hl 2 rfl) ?_
    obtain ⟨r11, h11, h⟩ := bnd h
    refine g_calli0 (isC := [0]) (gn := fun _ => [wRM g ad eK eT rm]) (g_runV (isC := [0]) (rest := []) (As := [.int p1, .int p2]) X hw (c_X6_isMove l (ad := ad) (eK := eK) (eT := eT) h11) rfl kM_X6_isMove ki_X6_isMove ks_X6_isMove km_X6_256 ⟨(Nat.le_of_ble_eq_true rfl), (Nat.le_of_ble_eq_true rfl)⟩ ⟨(Nat.le_of_ble_eq_true rfl), (Nat.le_of_ble_eq_true rfl)⟩ rfl rfl ⟨_, _, _, _, rfl, rfl, rfl, rfl⟩ rfl hl.1 rfl (Nat.le_of_ble_eq_true rfl) dX6_move_11) hw rfl rfl (fun _ => (Nat.le_of_ble_eq_true rfl)) (fun _ => rfl) rfl rfl (fun _ H locs hw => ?_)
    refine lv_if_ne (tgt := 24) hx hb dX6_move_14 (by decide) (fun k14 => ?_) (fun k14 => ?_)
    · have h := itt k14 h
      refine lv_aload_n hx hb dX6_move_24 rfl (lv_at hl 0 rfl) ?_
      refine lv_iload_n hx hb dX6_move_25 rfl (lv_at hl 1 rfl) ?_
      refine lv_aload_n hx hb dX6_move_26 rfl (lv_at hl 0 rfl) ?_
      refine RM_g_on X hw 0 rfl kf_X6_43 dX6_move_27 ?_
      refine lv_iload_n hx hb dX6_move_30 rfl (lv_at hl 1 rfl) ?_
      obtain ⟨q31, h⟩ := chk h
      refine RM_l_on X hw 0 rfl q31 dX6_move_31 ?_
      refine lv_iload_n hx hb dX6_move_32 rfl (lv_at hl 2 rfl) ?_
      obtain ⟨r33, h33, h⟩ := bnd h
      refine g_calli0 (isC := [0]) (gn := fun _ => [wRM g ad eK eT rm]) (g_runV (isC := [0]) (rest := []) (As := [.int p1, .int (RM_on rm p1.toNatClampNeg), .int p2]) X hw (c_X6_mayAt l (ad := ad) (eK := eK) (eT := eT) h33) rfl kM_X6_mayAt ki_X6_mayAt ks_X6_mayAt km_X6_131 ⟨(Nat.le_of_ble_eq_true rfl), (Nat.le_of_ble_eq_true rfl)⟩ ⟨(Nat.le_of_ble_eq_true rfl), (Nat.le_of_ble_eq_true rfl)⟩ rfl rfl ⟨_, _, _, _, rfl, rfl, rfl, rfl⟩ rfl hl.1 rfl (Nat.le_of_ble_eq_true rfl) dX6_move_33) hw rfl rfl (fun _ => (Nat.le_of_ble_eq_true rfl)) (fun _ => rfl) rfl rfl (fun _ H locs hw => ?_)
      refine lv_if_ne (tgt := 46) hx hb dX6_move_36 (by decide) (fun k36 => ?_) (fun k36 => ?_)
      · have h := itt k36 h
        refine lv_aload_n hx hb dX6_move_46 rfl (lv_at hl 0 rfl) ?_
        refine lv_iload_n hx hb dX6_move_47 rfl (lv_at hl 1 rfl) ?_
        refine lv_iload_n hx hb dX6_move_48 rfl (lv_at hl 2 rfl) ?_
        obtain ⟨r49, h49, h⟩ := bnd h
        refine g_callv0 (isC := [0]) (gn := fun _ => [wRM g ad eK eT r49]) (g_runV (isC := [0]) (rest := []) (As := [.int p1, .int p2]) X hw (c_X6_makes l (ad := ad) (eK := eK) (eT := eT) h49) rfl kM_X6_makes ki_X6_makes ks_X6_makes km_X6_263 ⟨(Nat.le_of_ble_eq_true rfl), (Nat.le_of_ble_eq_true rfl)⟩ ⟨(Nat.le_of_ble_eq_true rfl), (Nat.le_of_ble_eq_true rfl)⟩ rfl rfl ⟨_, _, _, _, rfl, rfl, rfl, rfl⟩ rfl hl.1 rfl (Nat.le_of_ble_eq_true rfl) dX6_move_49) hw rfl rfl (fun _ => (Nat.le_of_ble_eq_true rfl)) (fun _ => rfl) rfl rfl (fun _ H locs hw => ?_)
        refine lv_aload_n hx hb dX6_move_52 rfl (lv_at hl 0 rfl) ?_
        refine RM_g_on X hw 0 rfl kf_X6_43 dX6_move_53 ?_
        refine lv_iload_n hx hb dX6_move_56 rfl (lv_at hl 1 rfl) ?_
        obtain ⟨q57, h⟩ := chk h
        refine RM_l_on X hw 0 rfl q57 dX6_move_57 ?_
        have h := Option.some.inj h
        subst h
        exact hret () dX6_move_58 rfl hw
      · have h := itf (fun z => z k36) h
        refine lv_aload_n hx hb dX6_move_39 rfl (lv_at hl 0 rfl) ?_
        refine lv_bipush (v := -5) hx hb dX6_move_40 (by decide) ?_
        obtain ⟨r42, h42, h⟩ := bnd h
        refine g_calli0 (isC := [0]) (gn := fun _ => [wRM g ad eK eT r42.2]) (g_runV (isC := [0]) (rest := []) (As := [.int (-5 : Int32)]) X hw (c_X6_refuse l (ad := ad) (eK := eK) (eT := eT) h42) rfl kM_X6_refuse ki_X6_refuse ks_X6_refuse km_X6_96 ⟨(Nat.le_of_ble_eq_true rfl), (Nat.le_of_ble_eq_true rfl)⟩ ⟨(Nat.le_of_ble_eq_true rfl), (Nat.le_of_ble_eq_true rfl)⟩ rfl rfl ⟨_, _, _, _, rfl, rfl, rfl, rfl⟩ rfl hl.1 rfl (Nat.le_of_ble_eq_true rfl) dX6_move_42) hw rfl rfl (fun _ => (Nat.le_of_ble_eq_true rfl)) (fun _ => rfl) rfl rfl (fun _ H locs hw => ?_)
        have h := Option.some.inj h
        subst h
        exact hret () dX6_move_45 rfl hw
    · have h := itf (fun z => z k14) h
      exact J17 _ h _ _ _ hw (lv_sub hl [0] rfl)
theorem kM_X6_findFar : kM yX6_findFar cX6_findFar 7 (none : Option Jvm.ClassFile.FieldType) 3 := ⟨kc_X6_findFar, kn_RingsOffModel, by decide +kernel⟩
abbrev R_X6_findFar : Room := { frames := 4, cells := 0, slots := 0, locals := 92 }
set_option maxHeartbeats 4000000 in
set_option maxRecDepth 100000 in
theorem c_X6_findFar (l : Launch) {ad : Nat → Nat} {eK : Option Nat} {eT : Option Nat} {N : Nat} {rm : RM} {p1 : Int32} {p2 : Int32} {p3 : Int32} {out : RM} (h : M_X6_findFar N rm p1 p2 p3 = some out) : gM l yX6_findFar cX6_findFar 7 (none : Option Jvm.ClassFile.FieldType) R_X6_findFar (fun _ => [.ref (ad 0), .int p1, .int p2, .int p3]) (fun g => [wRM g ad eK eT rm]) (gQv (fun g (_ : Unit) => [wRM g ad eK eT out])) := by
  refine gM.ofv (by decide +kernel) (fun _ => Nat.le_of_ble_eq_true rfl) (fun g p e s m args below meth c A ls Q X hret hw hl => ?_)
  have hx := X.1.1
  have hb := X.1.2.1
  have hl : lv_has ls 7 [(0, .ref (ad 0)), (1, .int p1), (2, .int p2), (3, .int p3)] := hl
  have L49 : ∀ (n : Nat) (z49 : RM × Int32), lp (M_X6_findFar_l49 N p1 p2 p3) n z49 = some out → ∀ (H : Heap) (locs : List Loc) (ls : Array Slot), gW g A s.heap [wRM g ad eK eT z49.1] H locs → lv_has ls 7 [(0, .ref (ad 0)), (1, .int p1), (3, .int p3), (4, .int z49.2)] → W p l e R_X6_findFar s m args below meth c H locs 0 0 Q (F0 m 49 ls []) := by
    refine lp_ind ?_
    intro rec49 ih49
    have L61 : ∀ (n : Nat) (z61 : RM × Int32 × Int32), lp (M_X6_findFar_l61 N p1 p2 p3 rec49) n z61 = some out → ∀ (H : Heap) (locs : List Loc) (ls : Array Slot), gW g A s.heap [wRM g ad eK eT z61.1] H locs → lv_has ls 7 [(0, .ref (ad 0)), (1, .int p1), (3, .int p3), (4, .int z61.2.1), (5, .int z61.2.2)] → W p l e R_X6_findFar s m args below meth c H locs 0 0 Q (F0 m 61 ls []) := by
      refine lp_ind ?_
      intro rec61 ih61
      have J169 : ∀ (z169 : RM × Int32 × Int32), M_X6_findFar_j169 N p1 p2 p3 rec49 rec61 z169 = some out → ∀ (H : Heap) (locs : List Loc) (ls : Array Slot), gW g A s.heap [wRM g ad eK eT z169.1] H locs → lv_has ls 7 [(0, .ref (ad 0)), (1, .int p1), (3, .int p3), (4, .int z169.2.1), (5, .int z169.2.2)] → W p l e R_X6_findFar s m args below meth c H locs 0 0 Q (F0 m 169 ls []) := by
        intro z169 h H locs ls hw hl
        unfold M_X6_findFar_j169 at h
        refine lv_iinc (v := (z169.2.2 + 1)) (lv' := [(5, .int (z169.2.2 + 1)), (0, .ref (ad 0)), (1, .int p1), (3, .int p3), (4, .int z169.2.1)]) hx hb dX6_findFar_169 hl (k := 4) rfl rfl (by decide) rfl (fun ls hl => ?_)
        refine lv_goto (tgt := 61) hx hb dX6_findFar_172 (by decide) ?_
        exact ih61 _ h _ _ _ hw (lv_sub hl [1, 2, 3, 4, 0] rfl)
      have J122 : ∀ (z122 : RM × Int32 × Int32 × Int32 × Int32 × Int32), M_X6_findFar_j122 N p1 p2 p3 rec49 rec61 z122 = some out → ∀ (H : Heap) (locs : List Loc) (ls : Array Slot), gW g A s.heap [wRM g ad eK eT z122.1] H locs → lv_has ls 7 [(0, .ref (ad 0)), (1, .int p1), (3, .int p3), (4, .int z122.2.1), (5, .int z122.2.2.1), (6, .int z122.2.2.2.1)] → W p l e R_X6_findFar s m args below meth c H locs 0 0 Q (F0 m 122 ls [.int z122.2.2.2.2.2, .int z122.2.2.2.2.1, .ref (ad 0)]) := by
        intro z122 h H locs ls hw hl
        unfold M_X6_findFar_j122 at h
        refine lv_iload hx hb dX6_findFar_122 (lv_at hl 4 rfl) ?_
        obtain ⟨r124, h124, h⟩ := bnd h
        refine g_calli0 (isC := [0]) (gn := fun _ => [wRM g ad eK eT z122.1]) (g_runV (isC := [0]) (rest := []) (As := [.int z122.2.2.2.2.1, .int z122.2.2.2.2.2, .int z122.2.2.1]) X hw (c_X6_mayAt l (ad := ad) (eK := eK) (eT := eT) h124) rfl kM_X6_mayAt ki_X6_mayAt ks_X6_mayAt km_X6_131 ⟨(Nat.le_of_ble_eq_true rfl), (Nat.le_of_ble_eq_true rfl)⟩ ⟨(Nat.le_of_ble_eq_true rfl), (Nat.le_of_ble_eq_true rfl)⟩ rfl rfl ⟨_, _, _, _, rfl, rfl, rfl, rfl⟩ rfl hl.1 rfl (Nat.le_of_ble_eq_true rfl) dX6_findFar_124) hw rfl rfl (fun _ => (Nat.le_of_ble_eq_true rfl)) (fun _ => rfl) rfl rfl (fun _ H locs hw => ?_)
        refine lv_if_eq (tgt := 169) hx hb dX6_findFar_127 (by decide) (fun k127 => ?_) (fun k127 => ?_)
        · have h := itt k127 h
          exact J169 _ h _ _ _ hw (lv_sub hl [0, 1, 2, 3, 4] rfl)
        · have h := itf k127 h
          refine lv_aload_n hx hb dX6_findFar_130 rfl (lv_at hl 0 rfl) ?_
          refine RM_g_far X hw 0 rfl kf_X6_67 dX6_findFar_131 ?_
          refine lv_iload hx hb dX6_findFar_134 (lv_at hl 5 rfl) ?_
          refine lv_aload_n hx hb dX6_findFar_136 rfl (lv_at hl 0 rfl) ?_
          refine RM_g_far X hw 0 rfl kf_X6_67 dX6_findFar_137 ?_
          refine lv_aload_n hx hb dX6_findFar_140 rfl (lv_at hl 0 rfl) ?_
          refine RM_g_queue X hw 0 rfl kf_X6_70 dX6_findFar_141 ?_
          refine lv_iload hx hb dX6_findFar_144 (lv_at hl 3 rfl) ?_
          obtain ⟨q146, h⟩ := chk h
          refine RM_l_queue X hw 0 rfl q146 dX6_findFar_146 ?_
          obtain ⟨q147, h⟩ := chk h
          refine RM_l_far X hw 0 rfl q147 dX6_findFar_147 ?_
          refine lv_iconst (v := 1) hx hb dX6_findFar_148 (by decide) ?_
          refine lv_iadd hx hb dX6_findFar_149 ?_
          obtain ⟨q150, h⟩ := chk h
          refine RM_a_far (gs' := [wRM g ad eK eT (RM_s_far z122.1 (upd (RM_far z122.1) z122.2.2.2.1.toNatClampNeg ((RM_far z122.1 (RM_queue z122.1 z122.2.1.toNatClampNeg).toNatClampNeg) + (1 : Int32))))]) X hw 0 rfl q150 dX6_findFar_150 rfl (fun H locs hw => ?_)
          refine lv_aload_n hx hb dX6_findFar_151 rfl (lv_at hl 0 rfl) ?_
          refine RM_g_queue X hw 0 rfl kf_X6_70 dX6_findFar_152 ?_
          refine lv_aload_n hx hb dX6_findFar_155 rfl (lv_at hl 0 rfl) ?_
          refine lv_dup hx hb dX6_findFar_156 rfl ?_
          refine RM_g_queued X hw 0 rfl kf_X6_266 dX6_findFar_157 ?_
          refine lv_dup_x1 hx hb dX6_findFar_160 rfl rfl ?_
          refine lv_iconst (v := 1) hx hb dX6_findFar_161 (by decide) ?_
          refine lv_iadd hx hb dX6_findFar_162 ?_
          refine RM_p_queued (gs' := [wRM g ad eK eT (RM_s_queued (RM_s_far z122.1 (upd (RM_far z122.1) z122.2.2.2.1.toNatClampNeg ((RM_far z122.1 (RM_queue z122.1 z122.2.1.toNatClampNeg).toNatClampNeg) + (1 : Int32)))) ((RM_queued (RM_s_far z122.1 (upd (RM_far z122.1) z122.2.2.2.1.toNatClampNeg ((RM_far z122.1 (RM_queue z122.1 z122.2.1.toNatClampNeg).toNatClampNeg) + (1 : Int32))))) + (1 : Int32)))]) X hw 0 rfl kf_X6_266 dX6_findFar_163 rfl (fun H locs hw => ?_)
          refine lv_iload hx hb dX6_findFar_166 (lv_at hl 5 rfl) ?_
          obtain ⟨q168, h⟩ := chk h
          refine RM_a_queue (gs' := [wRM g ad eK eT (RM_s_queue (RM_s_queued (RM_s_far z122.1 (upd (RM_far z122.1) z122.2.2.2.1.toNatClampNeg ((RM_far z122.1 (RM_queue z122.1 z122.2.1.toNatClampNeg).toNatClampNeg) + (1 : Int32)))) ((RM_queued (RM_s_far z122.1 (upd (RM_far z122.1) z122.2.2.2.1.toNatClampNeg ((RM_far z122.1 (RM_queue z122.1 z122.2.1.toNatClampNeg).toNatClampNeg) + (1 : Int32))))) + (1 : Int32))) (upd (RM_queue (RM_s_queued (RM_s_far z122.1 (upd (RM_far z122.1) z122.2.2.2.1.toNatClampNeg ((RM_far z122.1 (RM_queue z122.1 z122.2.1.toNatClampNeg).toNatClampNeg) + (1 : Int32)))) ((RM_queued (RM_s_far z122.1 (upd (RM_far z122.1) z122.2.2.2.1.toNatClampNeg ((RM_far z122.1 (RM_queue z122.1 z122.2.1.toNatClampNeg).toNatClampNeg) + (1 : Int32))))) + (1 : Int32)))) (RM_queued (RM_s_far z122.1 (upd (RM_far z122.1) z122.2.2.2.1.toNatClampNeg ((RM_far z122.1 (RM_queue z122.1 z122.2.1.toNatClampNeg).toNatClampNeg) + (1 : Int32))))).toNatClampNeg z122.2.2.2.1))]) X hw 0 rfl q168 dX6_findFar_168 rfl (fun H locs hw => ?_)
          exact J169 _ h _ _ _ hw (lv_sub hl [0, 1, 2, 3, 4] rfl)
      intro z61 h H locs ls hw hl
      unfold M_X6_findFar_l61 at h
      refine lv_iload hx hb dX6_findFar_61 (lv_at hl 4 rfl) ?_
      refine lv_bipush (v := 20) hx hb dX6_findFar_63 (by decide) ?_
      refine lv_icmp_gt (tgt := 175) hx hb dX6_findFar_65 (by decide) (fun k65 => ?_) (fun k65 => ?_)
      · have h := itt k65 h
        refine lv_iinc (v := (z61.2.1 + 1)) (lv' := [(4, .int (z61.2.1 + 1)), (0, .ref (ad 0)), (1, .int p1), (3, .int p3), (5, .int z61.2.2)]) hx hb dX6_findFar_175 hl (k := 3) rfl rfl (by decide) rfl (fun ls hl => ?_)
        refine lv_goto (tgt := 49) hx hb dX6_findFar_178 (by decide) ?_
        exact ih49 _ h _ _ _ hw (lv_sub hl [1, 2, 3, 0] rfl)
      · have h := itf k65 h
        refine lv_aload_n hx hb dX6_findFar_68 rfl (lv_at hl 0 rfl) ?_
        refine lv_iload_n hx hb dX6_findFar_69 rfl (lv_at hl 1 rfl) ?_
        refine lv_iload hx hb dX6_findFar_70 (lv_at hl 4 rfl) ?_
        obtain ⟨r72, h72, h⟩ := bnd h
        refine g_calli0 (isC := [0]) (gn := fun _ => [wRM g ad eK eT z61.1]) (g_runV (isC := [0]) (rest := []) (As := [.int p1, .int z61.2.2]) X hw (c_X6_isMove l (ad := ad) (eK := eK) (eT := eT) h72) rfl kM_X6_isMove ki_X6_isMove ks_X6_isMove km_X6_256 ⟨(Nat.le_of_ble_eq_true rfl), (Nat.le_of_ble_eq_true rfl)⟩ ⟨(Nat.le_of_ble_eq_true rfl), (Nat.le_of_ble_eq_true rfl)⟩ rfl rfl ⟨_, _, _, _, rfl, rfl, rfl, rfl⟩ rfl hl.1 rfl (Nat.le_of_ble_eq_true rfl) dX6_findFar_72) hw rfl rfl (fun _ => (Nat.le_of_ble_eq_true rfl)) (fun _ => rfl) rfl rfl (fun _ H locs hw => ?_)
        refine lv_if_eq (tgt := 169) hx hb dX6_findFar_75 (by decide) (fun k75 => ?_) (fun k75 => ?_)
        · have h := itt k75 h
          exact J169 _ h _ _ _ hw (lv_sub hl [0, 1, 2, 3, 4] rfl)
        · have h := itf k75 h
          refine lv_aload_n hx hb dX6_findFar_78 rfl (lv_at hl 0 rfl) ?_
          refine RM_g_queue X hw 0 rfl kf_X6_70 dX6_findFar_79 ?_
          refine lv_iload hx hb dX6_findFar_82 (lv_at hl 3 rfl) ?_
          obtain ⟨q84, h⟩ := chk h
          refine RM_l_queue X hw 0 rfl q84 dX6_findFar_84 ?_
          refine lv_iload hx hb dX6_findFar_85 (lv_at hl 4 rfl) ?_
          obtain ⟨r87, h87, h⟩ := bnd h
          refine g_calli0 (isC := []) (gn := fun _ => [wRM g ad eK eT z61.1]) (g_runS (isC := []) (rest := [.int (RM_queue z61.1 z61.2.1.toNatClampNeg)]) (As := [.int z61.2.2]) X hw (c_X6_mask l h87) rfl kM_X6_mask kt_X6_mask km_X6_212 ⟨(Nat.le_of_ble_eq_true rfl), (Nat.le_of_ble_eq_true rfl)⟩ ⟨(Nat.le_of_ble_eq_true rfl), (Nat.le_of_ble_eq_true rfl)⟩ rfl rfl rfl hl.1 rfl (Nat.le_of_ble_eq_true rfl) dX6_findFar_87) hw rfl rfl (fun _ => (Nat.le_of_ble_eq_true rfl)) (fun _ => rfl) rfl rfl (fun _ H locs hw => ?_)
          refine lv_ixor hx hb dX6_findFar_90 ?_
          refine lv_istore (lv' := [(6, .int ((RM_queue z61.1 z61.2.1.toNatClampNeg) ^^^ r87)), (0, .ref (ad 0)), (1, .int p1), (3, .int p3), (4, .int z61.2.1), (5, .int z61.2.2)]) hx hb dX6_findFar_91 hl (by decide) rfl (fun ls hl => ?_)
          refine lv_aload_n hx hb dX6_findFar_93 rfl (lv_at hl 1 rfl) ?_
          refine RM_g_far X hw 0 rfl kf_X6_67 dX6_findFar_94 ?_
          refine lv_iload hx hb dX6_findFar_97 (lv_at hl 0 rfl) ?_
          obtain ⟨q99, h⟩ := chk h
          refine RM_l_far X hw 0 rfl q99 dX6_findFar_99 ?_
          refine lv_iconst (v := -1) hx hb dX6_findFar_100 (by decide) ?_
          refine lv_icmp_ne (tgt := 169) hx hb dX6_findFar_101 (by decide) (fun k101 => ?_) (fun k101 => ?_)
          · have h := itt k101 h
            exact J169 _ h _ _ _ hw (lv_sub hl [1, 2, 3, 4, 5] rfl)
          · have h := itf (fun z => z k101) h
            refine lv_aload_n hx hb dX6_findFar_104 rfl (lv_at hl 1 rfl) ?_
            refine lv_iload_n hx hb dX6_findFar_105 rfl (lv_at hl 2 rfl) ?_
            refine lv_iload_n hx hb dX6_findFar_106 rfl (lv_at hl 3 rfl) ?_
            refine lv_if_eq (tgt := 120) hx hb dX6_findFar_107 (by decide) (fun k107 => ?_) (fun k107 => ?_)
            · have h := itt k107 h
              refine lv_iload hx hb dX6_findFar_120 (lv_at hl 0 rfl) ?_
              exact J122 _ h _ _ _ hw (lv_sub hl [1, 2, 3, 4, 5, 0] rfl)
            · have h := itf k107 h
              refine lv_aload_n hx hb dX6_findFar_110 rfl (lv_at hl 1 rfl) ?_
              refine RM_g_queue X hw 0 rfl kf_X6_70 dX6_findFar_111 ?_
              refine lv_iload hx hb dX6_findFar_114 (lv_at hl 4 rfl) ?_
              obtain ⟨q116, h⟩ := chk h
              refine RM_l_queue X hw 0 rfl q116 dX6_findFar_116 ?_
              refine lv_goto (tgt := 122) hx hb dX6_findFar_117 (by decide) ?_
              exact J122 _ h _ _ _ hw (lv_sub hl [1, 2, 3, 4, 5, 0] rfl)
    intro z49 h H locs ls hw hl
    unfold M_X6_findFar_l49 at h
    refine lv_iload hx hb dX6_findFar_49 (lv_at hl 3 rfl) ?_
    refine lv_aload_n hx hb dX6_findFar_51 rfl (lv_at hl 0 rfl) ?_
    refine RM_g_queued X hw 0 rfl kf_X6_266 dX6_findFar_52 ?_
    refine lv_icmp_ge (tgt := 181) hx hb dX6_findFar_55 (by decide) (fun k55 => ?_) (fun k55 => ?_)
    · have h := itt k55 h
      have h := Option.some.inj h
      subst h
      exact hret () dX6_findFar_181 hw
    · have h := itf k55 h
      refine lv_iconst (v := 0) hx hb dX6_findFar_58 (by decide) ?_
      refine lv_istore (lv' := [(5, .int (0 : Int32)), (0, .ref (ad 0)), (1, .int p1), (3, .int p3), (4, .int z49.2)]) hx hb dX6_findFar_59 hl (by decide) rfl (fun ls hl => ?_)
      exact L61 N _ h _ _ _ hw (lv_sub hl [1, 2, 3, 4, 0] rfl)
  have L3 : ∀ (n : Nat) (z3 : RM × Int32), lp (M_X6_findFar_l3 N p1 p2 p3) n z3 = some out → ∀ (H : Heap) (locs : List Loc) (ls : Array Slot), gW g A s.heap [wRM g ad eK eT z3.1] H locs → lv_has ls 7 [(0, .ref (ad 0)), (1, .int p1), (2, .int p2), (3, .int p3), (4, .int z3.2)] → W p l e R_X6_findFar s m args below meth c H locs 0 0 Q (F0 m 3 ls []) := by
    refine lp_ind ?_
    intro rec3 ih3
    intro z3 h H locs ls hw hl
    unfold M_X6_findFar_l3 at h
    refine lv_iload hx hb dX6_findFar_3 (lv_at hl 4 rfl) ?_
    refine lv_aload_n hx hb dX6_findFar_5 rfl (lv_at hl 0 rfl) ?_
    refine lv_iload_n hx hb dX6_findFar_6 rfl (lv_at hl 1 rfl) ?_
    obtain ⟨r7, h7, h⟩ := bnd h
    refine g_calli0 (isC := [0]) (gn := fun _ => [wRM g ad eK eT z3.1]) (g_runV (isC := [0]) (rest := [.int z3.2]) (As := [.int p1]) X hw (c_X6_all l (ad := ad) (eK := eK) (eT := eT) h7) rfl kM_X6_all ki_X6_all ks_X6_all km_X6_86 ⟨(Nat.le_of_ble_eq_true rfl), (Nat.le_of_ble_eq_true rfl)⟩ ⟨(Nat.le_of_ble_eq_true rfl), (Nat.le_of_ble_eq_true rfl)⟩ rfl rfl ⟨_, _, _, _, rfl, rfl, rfl, rfl⟩ rfl hl.1 rfl (Nat.le_of_ble_eq_true rfl) dX6_findFar_7) hw rfl rfl (fun _ => (Nat.le_of_ble_eq_true rfl)) (fun _ => rfl) rfl rfl (fun _ H locs hw => ?_)
    refine lv_icmp_gt (tgt := 27) hx hb dX6_findFar_10 (by decide) (fun k10 => ?_) (fun k10 => ?_)
    · have h := itt k10 h
      refine lv_aload_n hx hb dX6_findFar_27 rfl (lv_at hl 0 rfl) ?_
      refine RM_g_far X hw 0 rfl kf_X6_67 dX6_findFar_28 ?_
      refine lv_iload_n hx hb dX6_findFar_31 rfl (lv_at hl 2 rfl) ?_
      refine lv_iconst (v := 0) hx hb dX6_findFar_32 (by decide) ?_
      obtain ⟨q33, h⟩ := chk h
      refine RM_a_far (gs' := [wRM g ad eK eT (RM_s_far z3.1 (upd (RM_far z3.1) p2.toNatClampNeg (0 : Int32)))]) X hw 0 rfl q33 dX6_findFar_33 rfl (fun H locs hw => ?_)
      refine lv_aload_n hx hb dX6_findFar_34 rfl (lv_at hl 0 rfl) ?_
      refine RM_g_queue X hw 0 rfl kf_X6_70 dX6_findFar_35 ?_
      refine lv_iconst (v := 0) hx hb dX6_findFar_38 (by decide) ?_
      refine lv_iload_n hx hb dX6_findFar_39 rfl (lv_at hl 2 rfl) ?_
      obtain ⟨q40, h⟩ := chk h
      refine RM_a_queue (gs' := [wRM g ad eK eT (RM_s_queue (RM_s_far z3.1 (upd (RM_far z3.1) p2.toNatClampNeg (0 : Int32))) (upd (RM_queue (RM_s_far z3.1 (upd (RM_far z3.1) p2.toNatClampNeg (0 : Int32)))) (0 : Int32).toNatClampNeg p2))]) X hw 0 rfl q40 dX6_findFar_40 rfl (fun H locs hw => ?_)
      refine lv_aload_n hx hb dX6_findFar_41 rfl (lv_at hl 0 rfl) ?_
      refine lv_iconst (v := 1) hx hb dX6_findFar_42 (by decide) ?_
      refine RM_p_queued (gs' := [wRM g ad eK eT (RM_s_queued (RM_s_queue (RM_s_far z3.1 (upd (RM_far z3.1) p2.toNatClampNeg (0 : Int32))) (upd (RM_queue (RM_s_far z3.1 (upd (RM_far z3.1) p2.toNatClampNeg (0 : Int32)))) (0 : Int32).toNatClampNeg p2)) (1 : Int32))]) X hw 0 rfl kf_X6_266 dX6_findFar_43 rfl (fun H locs hw => ?_)
      refine lv_iconst (v := 0) hx hb dX6_findFar_46 (by decide) ?_
      refine lv_istore (lv' := [(4, .int (0 : Int32)), (0, .ref (ad 0)), (1, .int p1), (2, .int p2), (3, .int p3)]) hx hb dX6_findFar_47 hl (by decide) rfl (fun ls hl => ?_)
      exact L49 N _ h _ _ _ hw (lv_sub hl [1, 2, 4, 0] rfl)
    · have h := itf k10 h
      refine lv_aload_n hx hb dX6_findFar_13 rfl (lv_at hl 0 rfl) ?_
      refine RM_g_far X hw 0 rfl kf_X6_67 dX6_findFar_14 ?_
      refine lv_iload hx hb dX6_findFar_17 (lv_at hl 4 rfl) ?_
      refine lv_iconst (v := -1) hx hb dX6_findFar_19 (by decide) ?_
      obtain ⟨q20, h⟩ := chk h
      refine RM_a_far (gs' := [wRM g ad eK eT (RM_s_far z3.1 (upd (RM_far z3.1) z3.2.toNatClampNeg (-1 : Int32)))]) X hw 0 rfl q20 dX6_findFar_20 rfl (fun H locs hw => ?_)
      refine lv_iinc (v := (z3.2 + 1)) (lv' := [(4, .int (z3.2 + 1)), (0, .ref (ad 0)), (1, .int p1), (2, .int p2), (3, .int p3)]) hx hb dX6_findFar_21 hl (k := 4) rfl rfl (by decide) rfl (fun ls hl => ?_)
      refine lv_goto (tgt := 3) hx hb dX6_findFar_24 (by decide) ?_
      exact ih3 _ h _ _ _ hw (lv_sub hl [1, 2, 3, 4, 0] rfl)
  unfold M_X6_findFar at h
  refine lv_iconst (v := 0) hx hb dX6_findFar_0 (by decide) ?_
  refine lv_istore (lv' := [(4, .int (0 : Int32)), (0, .ref (ad 0)), (1, .int p1), (2, .int p2), (3, .int p3)]) hx hb dX6_findFar_1 hl (by decide) rfl (fun ls hl => ?_)
  exact L3 N _ h _ _ _ hw (lv_sub hl [1, 2, 3, 4, 0] rfl)
theorem kM_X6_fewestTo : kM yX6_fewestTo cX6_fewestTo 4 (some FieldType.int) 3 := ⟨kc_X6_fewestTo, kn_RingsOffModel, by decide +kernel⟩
abbrev R_X6_fewestTo : Room := { frames := 5, cells := 0, slots := 0, locals := 118 }
set_option maxHeartbeats 4000000 in
set_option maxRecDepth 100000 in
theorem c_X6_fewestTo (l : Launch) {ad : Nat → Nat} {eK : Option Nat} {eT : Option Nat} {N : Nat} {rm : RM} {p1 : Int32} {p2 : Int32} {p3 : Int32} {out : Int32 × RM} (h : M_X6_fewestTo N rm p1 p2 p3 = some out) : gM l yX6_fewestTo cX6_fewestTo 4 (some FieldType.int) R_X6_fewestTo (fun _ => [.ref (ad 0), .int p1, .int p2, .int p3]) (fun g => [wRM g ad eK eT rm]) (gQi (fun (_ : Unit) => out.1) (fun g (_ : Unit) => [wRM g ad eK eT out.2])) := by
  refine gM.ofi (by decide +kernel) (fun _ => Nat.le_of_ble_eq_true rfl) (fun g p e s m args below meth c A ls Q X hret hw hl => ?_)
  have hx := X.1.1
  have hb := X.1.2.1
  have hl : lv_has ls 4 [(0, .ref (ad 0)), (1, .int p1), (2, .int p2), (3, .int p3)] := hl
  unfold M_X6_fewestTo at h
  refine lv_aload_n hx hb dX6_fewestTo_0 rfl (lv_at hl 0 rfl) ?_
  refine lv_iload_n hx hb dX6_fewestTo_1 rfl (lv_at hl 1 rfl) ?_
  refine lv_iload_n hx hb dX6_fewestTo_2 rfl (lv_at hl 2 rfl) ?_
  refine lv_iconst (v := 1) hx hb dX6_fewestTo_3 (by decide) ?_
  obtain ⟨r4, h4, h⟩ := bnd h
  refine g_callv0 (isC := [0]) (gn := fun _ => [wRM g ad eK eT r4]) (g_runV (isC := [0]) (rest := []) (As := [.int p1, .int p2, .int (1 : Int32)]) X hw (c_X6_findFar l (ad := ad) (eK := eK) (eT := eT) h4) rfl kM_X6_findFar ki_X6_findFar ks_X6_findFar km_X6_269 ⟨(Nat.le_of_ble_eq_true rfl), (Nat.le_of_ble_eq_true rfl)⟩ ⟨(Nat.le_of_ble_eq_true rfl), (Nat.le_of_ble_eq_true rfl)⟩ rfl rfl ⟨_, _, _, _, rfl, rfl, rfl, rfl⟩ rfl hl.1 rfl (Nat.le_of_ble_eq_true rfl) dX6_fewestTo_4) hw rfl rfl (fun _ => (Nat.le_of_ble_eq_true rfl)) (fun _ => rfl) rfl rfl (fun _ H locs hw => ?_)
  refine lv_aload_n hx hb dX6_fewestTo_7 rfl (lv_at hl 0 rfl) ?_
  refine RM_g_far X hw 0 rfl kf_X6_67 dX6_fewestTo_8 ?_
  refine lv_iload_n hx hb dX6_fewestTo_11 rfl (lv_at hl 3 rfl) ?_
  obtain ⟨q12, h⟩ := chk h
  refine RM_l_far X hw 0 rfl q12 dX6_fewestTo_12 ?_
  have h := Option.some.inj h
  subst h
  exact hret () dX6_fewestTo_13 rfl hw
theorem kM_X6_fewest : kM yX6_fewest cX6_fewest 3 (some FieldType.int) 2 := ⟨kc_X6_fewest, kn_RingsOffModel, by decide +kernel⟩
abbrev R_X6_fewest : Room := { frames := 6, cells := 0, slots := 0, locals := 141 }
set_option maxHeartbeats 4000000 in
set_option maxRecDepth 100000 in
theorem c_X6_fewest (l : Launch) {ad : Nat → Nat} {eK : Option Nat} {eT : Option Nat} {N : Nat} {rm : RM} {p1 : Int32} {p2 : Int32} {out : Int32 × RM} (h : M_X6_fewest N rm p1 p2 = some out) : gM l yX6_fewest cX6_fewest 3 (some FieldType.int) R_X6_fewest (fun _ => [.ref (ad 0), .int p1, .int p2]) (fun g => [wRM g ad eK eT rm]) (gQi (fun (_ : Unit) => out.1) (fun g (_ : Unit) => [wRM g ad eK eT out.2])) := by
  refine gM.ofi (by decide +kernel) (fun _ => Nat.le_of_ble_eq_true rfl) (fun g p e s m args below meth c A ls Q X hret hw hl => ?_)
  have hx := X.1.1
  have hb := X.1.2.1
  have hl : lv_has ls 3 [(0, .ref (ad 0)), (1, .int p1), (2, .int p2)] := hl
  have J33 : ∀ (z33 : RM), M_X6_fewest_j33 N p1 p2 z33 = some out → ∀ (H : Heap) (locs : List Loc) (ls : Array Slot), gW g A s.heap [wRM g ad eK eT z33] H locs → lv_has ls 3 [(0, .ref (ad 0))] → W p l e R_X6_fewest s m args below meth c H locs 0 0 Q (F0 m 33 ls []) := by
    intro z33 h H locs ls hw hl
    unfold M_X6_fewest_j33 at h
    refine lv_aload_n hx hb dX6_fewest_33 rfl (lv_at hl 0 rfl) ?_
    refine lv_bipush (v := -2) hx hb dX6_fewest_34 (by decide) ?_
    obtain ⟨r36, h36, h⟩ := bnd h
    refine g_calli0 (isC := [0]) (gn := fun _ => [wRM g ad eK eT r36.2]) (g_runV (isC := [0]) (rest := []) (As := [.int (-2 : Int32)]) X hw (c_X6_refuse l (ad := ad) (eK := eK) (eT := eT) h36) rfl kM_X6_refuse ki_X6_refuse ks_X6_refuse km_X6_96 ⟨(Nat.le_of_ble_eq_true rfl), (Nat.le_of_ble_eq_true rfl)⟩ ⟨(Nat.le_of_ble_eq_true rfl), (Nat.le_of_ble_eq_true rfl)⟩ rfl rfl ⟨_, _, _, _, rfl, rfl, rfl, rfl⟩ rfl hl.1 rfl (Nat.le_of_ble_eq_true rfl) dX6_fewest_36) hw rfl rfl (fun _ => (Nat.le_of_ble_eq_true rfl)) (fun _ => rfl) rfl rfl (fun _ H locs hw => ?_)
    have h := Option.some.inj h
    subst h
    exact hret () dX6_fewest_39 rfl hw
  unfold M_X6_fewest at h
  refine lv_aload_n hx hb dX6_fewest_0 rfl (lv_at hl 0 rfl) ?_
  refine lv_iload_n hx hb dX6_fewest_1 rfl (lv_at hl 1 rfl) ?_
  obtain ⟨r2, h2, h⟩ := bnd h
  refine g_calli0 (isC := [0]) (gn := fun _ => [wRM g ad eK eT rm]) (g_runV (isC := [0]) (rest := []) (As := [.int p1]) X hw (c_X6_isBar l (ad := ad) (eK := eK) (eT := eT) h2) rfl kM_X6_isBar ki_X6_isBar ks_X6_isBar km_X6_106 ⟨(Nat.le_of_ble_eq_true rfl), (Nat.le_of_ble_eq_true rfl)⟩ ⟨(Nat.le_of_ble_eq_true rfl), (Nat.le_of_ble_eq_true rfl)⟩ rfl rfl ⟨_, _, _, _, rfl, rfl, rfl, rfl⟩ rfl hl.1 rfl (Nat.le_of_ble_eq_true rfl) dX6_fewest_2) hw rfl rfl (fun _ => (Nat.le_of_ble_eq_true rfl)) (fun _ => rfl) rfl rfl (fun _ H locs hw => ?_)
  refine lv_if_eq (tgt := 33) hx hb dX6_fewest_5 (by decide) (fun k5 => ?_) (fun k5 => ?_)
  · have h := itt k5 h
    exact J33 _ h _ _ _ hw (lv_sub hl [0] rfl)
  · have h := itf k5 h
    refine lv_aload_n hx hb dX6_fewest_8 rfl (lv_at hl 0 rfl) ?_
    refine lv_iload_n hx hb dX6_fewest_9 rfl (lv_at hl 1 rfl) ?_
    refine lv_iload_n hx hb dX6_fewest_10 rfl (lv_at hl 2 rfl) ?_
    refine lv_i2l (v := p2.toInt64) hx hb dX6_fewest_11 rfl ?_
    obtain ⟨r12, h12, h⟩ := bnd h
    refine g_calli0 (isC := [0]) (gn := fun _ => [wRM g ad eK eT rm]) (g_runV (isC := [0]) (rest := []) (As := [.int p1, .long p2.toInt64]) X hw (c_X6_isSet l (ad := ad) (eK := eK) (eT := eT) h12) rfl kM_X6_isSet ki_X6_isSet ks_X6_isSet km_X6_144 ⟨(Nat.le_of_ble_eq_true rfl), (Nat.le_of_ble_eq_true rfl)⟩ ⟨(Nat.le_of_ble_eq_true rfl), (Nat.le_of_ble_eq_true rfl)⟩ rfl rfl ⟨_, _, _, _, rfl, rfl, rfl, rfl⟩ rfl hl.1 rfl (Nat.le_of_ble_eq_true rfl) dX6_fewest_12) hw rfl rfl (fun _ => (Nat.le_of_ble_eq_true rfl)) (fun _ => rfl) rfl rfl (fun _ H locs hw => ?_)
    refine lv_if_eq (tgt := 33) hx hb dX6_fewest_15 (by decide) (fun k15 => ?_) (fun k15 => ?_)
    · have h := itt k15 h
      exact J33 _ h _ _ _ hw (lv_sub hl [0] rfl)
    · have h := itf k15 h
      refine lv_aload_n hx hb dX6_fewest_18 rfl (lv_at hl 0 rfl) ?_
      refine lv_iload_n hx hb dX6_fewest_19 rfl (lv_at hl 1 rfl) ?_
      refine lv_aload_n hx hb dX6_fewest_20 rfl (lv_at hl 0 rfl) ?_
      refine RM_g_on X hw 0 rfl kf_X6_43 dX6_fewest_21 ?_
      refine lv_iload_n hx hb dX6_fewest_24 rfl (lv_at hl 1 rfl) ?_
      obtain ⟨q25, h⟩ := chk h
      refine RM_l_on X hw 0 rfl q25 dX6_fewest_25 ?_
      refine lv_iload_n hx hb dX6_fewest_26 rfl (lv_at hl 2 rfl) ?_
      obtain ⟨r27, h27, h⟩ := bnd h
      refine g_calli0 (isC := [0]) (gn := fun _ => [wRM g ad eK eT r27.2]) (g_runV (isC := [0]) (rest := []) (As := [.int p1, .int (RM_on rm p1.toNatClampNeg), .int p2]) X hw (c_X6_fewestTo l (ad := ad) (eK := eK) (eT := eT) h27) rfl kM_X6_fewestTo ki_X6_fewestTo ks_X6_fewestTo km_X6_127 ⟨(Nat.le_of_ble_eq_true rfl), (Nat.le_of_ble_eq_true rfl)⟩ ⟨(Nat.le_of_ble_eq_true rfl), (Nat.le_of_ble_eq_true rfl)⟩ rfl rfl ⟨_, _, _, _, rfl, rfl, rfl, rfl⟩ rfl hl.1 rfl (Nat.le_of_ble_eq_true rfl) dX6_fewest_27) hw rfl rfl (fun _ => (Nat.le_of_ble_eq_true rfl)) (fun _ => rfl) rfl rfl (fun _ H locs hw => ?_)
      refine lv_goto (tgt := 39) hx hb dX6_fewest_30 (by decide) ?_
      have h := Option.some.inj h
      subst h
      exact hret () dX6_fewest_39 rfl hw
theorem kM_X6_between : kM yX6_between cX6_between 4 (some FieldType.int) 3 := ⟨kc_X6_between, kn_RingsOffModel, by decide +kernel⟩
abbrev R_X6_between : Room := { frames := 6, cells := 0, slots := 0, locals := 141 }
set_option maxHeartbeats 4000000 in
set_option maxRecDepth 100000 in
theorem c_X6_between (l : Launch) {ad : Nat → Nat} {eK : Option Nat} {eT : Option Nat} {N : Nat} {rm : RM} {p1 : Int32} {p2 : Int32} {p3 : Int32} {out : Int32 × RM} (h : M_X6_between N rm p1 p2 p3 = some out) : gM l yX6_between cX6_between 4 (some FieldType.int) R_X6_between (fun _ => [.ref (ad 0), .int p1, .int p2, .int p3]) (fun g => [wRM g ad eK eT rm]) (gQi (fun (_ : Unit) => out.1) (fun g (_ : Unit) => [wRM g ad eK eT out.2])) := by
  refine gM.ofi (by decide +kernel) (fun _ => Nat.le_of_ble_eq_true rfl) (fun g p e s m args below meth c A ls Q X hret hw hl => ?_)
  have hx := X.1.1
  have hb := X.1.2.1
  have hl : lv_has ls 4 [(0, .ref (ad 0)), (1, .int p1), (2, .int p2), (3, .int p3)] := hl
  have J38 : ∀ (z38 : RM), M_X6_between_j38 N p1 p2 p3 z38 = some out → ∀ (H : Heap) (locs : List Loc) (ls : Array Slot), gW g A s.heap [wRM g ad eK eT z38] H locs → lv_has ls 4 [(0, .ref (ad 0))] → W p l e R_X6_between s m args below meth c H locs 0 0 Q (F0 m 38 ls []) := by
    intro z38 h H locs ls hw hl
    unfold M_X6_between_j38 at h
    refine lv_aload_n hx hb dX6_between_38 rfl (lv_at hl 0 rfl) ?_
    refine lv_bipush (v := -2) hx hb dX6_between_39 (by decide) ?_
    obtain ⟨r41, h41, h⟩ := bnd h
    refine g_calli0 (isC := [0]) (gn := fun _ => [wRM g ad eK eT r41.2]) (g_runV (isC := [0]) (rest := []) (As := [.int (-2 : Int32)]) X hw (c_X6_refuse l (ad := ad) (eK := eK) (eT := eT) h41) rfl kM_X6_refuse ki_X6_refuse ks_X6_refuse km_X6_96 ⟨(Nat.le_of_ble_eq_true rfl), (Nat.le_of_ble_eq_true rfl)⟩ ⟨(Nat.le_of_ble_eq_true rfl), (Nat.le_of_ble_eq_true rfl)⟩ rfl rfl ⟨_, _, _, _, rfl, rfl, rfl, rfl⟩ rfl hl.1 rfl (Nat.le_of_ble_eq_true rfl) dX6_between_41) hw rfl rfl (fun _ => (Nat.le_of_ble_eq_true rfl)) (fun _ => rfl) rfl rfl (fun _ H locs hw => ?_)
    have h := Option.some.inj h
    subst h
    exact hret () dX6_between_44 rfl hw
  unfold M_X6_between at h
  refine lv_aload_n hx hb dX6_between_0 rfl (lv_at hl 0 rfl) ?_
  refine lv_iload_n hx hb dX6_between_1 rfl (lv_at hl 1 rfl) ?_
  obtain ⟨r2, h2, h⟩ := bnd h
  refine g_calli0 (isC := [0]) (gn := fun _ => [wRM g ad eK eT rm]) (g_runV (isC := [0]) (rest := []) (As := [.int p1]) X hw (c_X6_isBar l (ad := ad) (eK := eK) (eT := eT) h2) rfl kM_X6_isBar ki_X6_isBar ks_X6_isBar km_X6_106 ⟨(Nat.le_of_ble_eq_true rfl), (Nat.le_of_ble_eq_true rfl)⟩ ⟨(Nat.le_of_ble_eq_true rfl), (Nat.le_of_ble_eq_true rfl)⟩ rfl rfl ⟨_, _, _, _, rfl, rfl, rfl, rfl⟩ rfl hl.1 rfl (Nat.le_of_ble_eq_true rfl) dX6_between_2) hw rfl rfl (fun _ => (Nat.le_of_ble_eq_true rfl)) (fun _ => rfl) rfl rfl (fun _ H locs hw => ?_)
  refine lv_if_eq (tgt := 38) hx hb dX6_between_5 (by decide) (fun k5 => ?_) (fun k5 => ?_)
  · have h := itt k5 h
    exact J38 _ h _ _ _ hw (lv_sub hl [0] rfl)
  · have h := itf k5 h
    refine lv_aload_n hx hb dX6_between_8 rfl (lv_at hl 0 rfl) ?_
    refine lv_iload_n hx hb dX6_between_9 rfl (lv_at hl 1 rfl) ?_
    refine lv_iload_n hx hb dX6_between_10 rfl (lv_at hl 2 rfl) ?_
    refine lv_i2l (v := p2.toInt64) hx hb dX6_between_11 rfl ?_
    obtain ⟨r12, h12, h⟩ := bnd h
    refine g_calli0 (isC := [0]) (gn := fun _ => [wRM g ad eK eT rm]) (g_runV (isC := [0]) (rest := []) (As := [.int p1, .long p2.toInt64]) X hw (c_X6_isSet l (ad := ad) (eK := eK) (eT := eT) h12) rfl kM_X6_isSet ki_X6_isSet ks_X6_isSet km_X6_144 ⟨(Nat.le_of_ble_eq_true rfl), (Nat.le_of_ble_eq_true rfl)⟩ ⟨(Nat.le_of_ble_eq_true rfl), (Nat.le_of_ble_eq_true rfl)⟩ rfl rfl ⟨_, _, _, _, rfl, rfl, rfl, rfl⟩ rfl hl.1 rfl (Nat.le_of_ble_eq_true rfl) dX6_between_12) hw rfl rfl (fun _ => (Nat.le_of_ble_eq_true rfl)) (fun _ => rfl) rfl rfl (fun _ H locs hw => ?_)
    refine lv_if_eq (tgt := 38) hx hb dX6_between_15 (by decide) (fun k15 => ?_) (fun k15 => ?_)
    · have h := itt k15 h
      exact J38 _ h _ _ _ hw (lv_sub hl [0] rfl)
    · have h := itf k15 h
      refine lv_aload_n hx hb dX6_between_18 rfl (lv_at hl 0 rfl) ?_
      refine lv_iload_n hx hb dX6_between_19 rfl (lv_at hl 1 rfl) ?_
      refine lv_iload_n hx hb dX6_between_20 rfl (lv_at hl 3 rfl) ?_
      refine lv_i2l (v := p3.toInt64) hx hb dX6_between_21 rfl ?_
      obtain ⟨r22, h22, h⟩ := bnd h
      refine g_calli0 (isC := [0]) (gn := fun _ => [wRM g ad eK eT rm]) (g_runV (isC := [0]) (rest := []) (As := [.int p1, .long p3.toInt64]) X hw (c_X6_isSet l (ad := ad) (eK := eK) (eT := eT) h22) rfl kM_X6_isSet ki_X6_isSet ks_X6_isSet km_X6_144 ⟨(Nat.le_of_ble_eq_true rfl), (Nat.le_of_ble_eq_true rfl)⟩ ⟨(Nat.le_of_ble_eq_true rfl), (Nat.le_of_ble_eq_true rfl)⟩ rfl rfl ⟨_, _, _, _, rfl, rfl, rfl, rfl⟩ rfl hl.1 rfl (Nat.le_of_ble_eq_true rfl) dX6_between_22) hw rfl rfl (fun _ => (Nat.le_of_ble_eq_true rfl)) (fun _ => rfl) rfl rfl (fun _ H locs hw => ?_)
      refine lv_if_eq (tgt := 38) hx hb dX6_between_25 (by decide) (fun k25 => ?_) (fun k25 => ?_)
      · have h := itt k25 h
        exact J38 _ h _ _ _ hw (lv_sub hl [0] rfl)
      · have h := itf k25 h
        refine lv_aload_n hx hb dX6_between_28 rfl (lv_at hl 0 rfl) ?_
        refine lv_iload_n hx hb dX6_between_29 rfl (lv_at hl 1 rfl) ?_
        refine lv_iload_n hx hb dX6_between_30 rfl (lv_at hl 2 rfl) ?_
        refine lv_iload_n hx hb dX6_between_31 rfl (lv_at hl 3 rfl) ?_
        obtain ⟨r32, h32, h⟩ := bnd h
        refine g_calli0 (isC := [0]) (gn := fun _ => [wRM g ad eK eT r32.2]) (g_runV (isC := [0]) (rest := []) (As := [.int p1, .int p2, .int p3]) X hw (c_X6_fewestTo l (ad := ad) (eK := eK) (eT := eT) h32) rfl kM_X6_fewestTo ki_X6_fewestTo ks_X6_fewestTo km_X6_127 ⟨(Nat.le_of_ble_eq_true rfl), (Nat.le_of_ble_eq_true rfl)⟩ ⟨(Nat.le_of_ble_eq_true rfl), (Nat.le_of_ble_eq_true rfl)⟩ rfl rfl ⟨_, _, _, _, rfl, rfl, rfl, rfl⟩ rfl hl.1 rfl (Nat.le_of_ble_eq_true rfl) dX6_between_32) hw rfl rfl (fun _ => (Nat.le_of_ble_eq_true rfl)) (fun _ => rfl) rfl rfl (fun _ H locs hw => ?_)
        refine lv_goto (tgt := 44) hx hb dX6_between_35 (by decide) ?_
        have h := Option.some.inj h
        subst h
        exact hret () dX6_between_44 rfl hw
theorem kM_X6_nextMove : kM yX6_nextMove cX6_nextMove 4 (some FieldType.int) 2 := ⟨kc_X6_nextMove, kn_RingsOffModel, by decide +kernel⟩
abbrev R_X6_nextMove : Room := { frames := 4, cells := 0, slots := 0, locals := 92 }
set_option maxHeartbeats 4000000 in
set_option maxRecDepth 100000 in
theorem c_X6_nextMove (l : Launch) {ad : Nat → Nat} {eK : Option Nat} {eT : Option Nat} {N : Nat} {rm : RM} {p1 : Int32} {p2 : Int32} {out : Int32} (h : M_X6_nextMove N rm p1 p2 = some out) : gM l yX6_nextMove cX6_nextMove 4 (some FieldType.int) R_X6_nextMove (fun _ => [.ref (ad 0), .int p1, .int p2]) (fun g => [wRM g ad eK eT rm]) (gQi (fun (_ : Unit) => out) (fun g (_ : Unit) => [wRM g ad eK eT rm])) := by
  refine gM.ofi (by decide +kernel) (fun _ => Nat.le_of_ble_eq_true rfl) (fun g p e s m args below meth c A ls Q X hret hw hl => ?_)
  have hx := X.1.1
  have hb := X.1.2.1
  have hl : lv_has ls 4 [(0, .ref (ad 0)), (1, .int p1), (2, .int p2)] := hl
  have L2 : ∀ (n : Nat) (z2 : Int32), lp (M_X6_nextMove_l2 N rm p1 p2) n z2 = some out → ∀ (H : Heap) (locs : List Loc) (ls : Array Slot), gW g A s.heap [wRM g ad eK eT rm] H locs → lv_has ls 4 [(0, .ref (ad 0)), (1, .int p1), (2, .int p2), (3, .int z2)] → W p l e R_X6_nextMove s m args below meth c H locs 0 0 Q (F0 m 2 ls []) := by
    refine lp_ind ?_
    intro rec2 ih2
    have J34 : ∀ (z34 : Int32), M_X6_nextMove_j34 N rm p1 p2 rec2 z34 = some out → ∀ (H : Heap) (locs : List Loc) (ls : Array Slot), gW g A s.heap [wRM g ad eK eT rm] H locs → lv_has ls 4 [(0, .ref (ad 0)), (1, .int p1), (2, .int p2), (3, .int z34)] → W p l e R_X6_nextMove s m args below meth c H locs 0 0 Q (F0 m 34 ls []) := by
      intro z34 h H locs ls hw hl
      unfold M_X6_nextMove_j34 at h
      refine lv_iinc (v := (z34 + 1)) (lv' := [(3, .int (z34 + 1)), (0, .ref (ad 0)), (1, .int p1), (2, .int p2)]) hx hb dX6_nextMove_34 hl (k := 3) rfl rfl (by decide) rfl (fun ls hl => ?_)
      refine lv_goto (tgt := 2) hx hb dX6_nextMove_37 (by decide) ?_
      exact ih2 _ h _ _ _ hw (lv_sub hl [1, 2, 3, 0] rfl)
    intro z2 h H locs ls hw hl
    unfold M_X6_nextMove_l2 at h
    refine lv_aload_n hx hb dX6_nextMove_2 rfl (lv_at hl 0 rfl) ?_
    refine lv_iload_n hx hb dX6_nextMove_3 rfl (lv_at hl 1 rfl) ?_
    refine lv_iload_n hx hb dX6_nextMove_4 rfl (lv_at hl 2 rfl) ?_
    refine lv_iload_n hx hb dX6_nextMove_5 rfl (lv_at hl 3 rfl) ?_
    obtain ⟨r6, h6, h⟩ := bnd h
    refine g_calli0 (isC := [0]) (gn := fun _ => [wRM g ad eK eT rm]) (g_runV (isC := [0]) (rest := []) (As := [.int p1, .int p2, .int z2]) X hw (c_X6_mayAt l (ad := ad) (eK := eK) (eT := eT) h6) rfl kM_X6_mayAt ki_X6_mayAt ks_X6_mayAt km_X6_131 ⟨(Nat.le_of_ble_eq_true rfl), (Nat.le_of_ble_eq_true rfl)⟩ ⟨(Nat.le_of_ble_eq_true rfl), (Nat.le_of_ble_eq_true rfl)⟩ rfl rfl ⟨_, _, _, _, rfl, rfl, rfl, rfl⟩ rfl hl.1 rfl (Nat.le_of_ble_eq_true rfl) dX6_nextMove_6) hw rfl rfl (fun _ => (Nat.le_of_ble_eq_true rfl)) (fun _ => rfl) rfl rfl (fun _ H locs hw => ?_)
    refine lv_if_eq (tgt := 34) hx hb dX6_nextMove_9 (by decide) (fun k9 => ?_) (fun k9 => ?_)
    · have h := itt k9 h
      exact J34 _ h _ _ _ hw (lv_sub hl [0, 1, 2, 3] rfl)
    · have h := itf k9 h
      refine lv_aload_n hx hb dX6_nextMove_12 rfl (lv_at hl 0 rfl) ?_
      refine RM_g_far X hw 0 rfl kf_X6_67 dX6_nextMove_13 ?_
      refine lv_iload_n hx hb dX6_nextMove_16 rfl (lv_at hl 2 rfl) ?_
      refine lv_iload_n hx hb dX6_nextMove_17 rfl (lv_at hl 3 rfl) ?_
      obtain ⟨r18, h18, h⟩ := bnd h
      refine g_calli0 (isC := []) (gn := fun _ => [wRM g ad eK eT rm]) (g_runS (isC := []) (rest := [.int p2, .ref (ad 33)]) (As := [.int z2]) X hw (c_X6_mask l h18) rfl kM_X6_mask kt_X6_mask km_X6_212 ⟨(Nat.le_of_ble_eq_true rfl), (Nat.le_of_ble_eq_true rfl)⟩ ⟨(Nat.le_of_ble_eq_true rfl), (Nat.le_of_ble_eq_true rfl)⟩ rfl rfl rfl hl.1 rfl (Nat.le_of_ble_eq_true rfl) dX6_nextMove_18) hw rfl rfl (fun _ => (Nat.le_of_ble_eq_true rfl)) (fun _ => rfl) rfl rfl (fun _ H locs hw => ?_)
      refine lv_ixor hx hb dX6_nextMove_21 ?_
      obtain ⟨q22, h⟩ := chk h
      refine RM_l_far X hw 0 rfl q22 dX6_nextMove_22 ?_
      refine lv_aload_n hx hb dX6_nextMove_23 rfl (lv_at hl 0 rfl) ?_
      refine RM_g_far X hw 0 rfl kf_X6_67 dX6_nextMove_24 ?_
      refine lv_iload_n hx hb dX6_nextMove_27 rfl (lv_at hl 2 rfl) ?_
      obtain ⟨q28, h⟩ := chk h
      refine RM_l_far X hw 0 rfl q28 dX6_nextMove_28 ?_
      refine lv_iconst (v := 1) hx hb dX6_nextMove_29 (by decide) ?_
      refine lv_isub hx hb dX6_nextMove_30 ?_
      refine lv_icmp_eq (tgt := 40) hx hb dX6_nextMove_31 (by decide) (fun k31 => ?_) (fun k31 => ?_)
      · have h := itt k31 h
        refine lv_iload_n hx hb dX6_nextMove_40 rfl (lv_at hl 3 rfl) ?_
        have h := Option.some.inj h
        subst h
        exact hret () dX6_nextMove_41 rfl hw
      · have h := itf k31 h
        exact J34 _ h _ _ _ hw (lv_sub hl [0, 1, 2, 3] rfl)
  unfold M_X6_nextMove at h
  refine lv_iconst (v := 0) hx hb dX6_nextMove_0 (by decide) ?_
  refine lv_istore_n (lv' := [(3, .int (0 : Int32)), (0, .ref (ad 0)), (1, .int p1), (2, .int p2)]) hx hb dX6_nextMove_1 rfl hl (by decide) rfl (fun ls hl => ?_)
  exact L2 N _ h _ _ _ hw (lv_sub hl [1, 2, 3, 0] rfl)
theorem kM_X6_way : kM yX6_way cX6_way 6 (some FieldType.int) 3 := ⟨kc_X6_way, kn_RingsOffModel, by decide +kernel⟩
abbrev R_X6_way : Room := { frames := 5, cells := 0, slots := 0, locals := 118 }
set_option maxHeartbeats 4000000 in
set_option maxRecDepth 100000 in
theorem c_X6_way (l : Launch) {ad : Nat → Nat} {eK : Option Nat} {eT : Option Nat} {N : Nat} {rm : RM} {p1 : Int32} {p2 : Int32} {p3 : Int32} {out : Int32 × RM} (h : M_X6_way N rm p1 p2 p3 = some out) : gM l yX6_way cX6_way 6 (some FieldType.int) R_X6_way (fun _ => [.ref (ad 0), .int p1, .int p2, .int p3]) (fun g => [wRM g ad eK eT rm]) (gQi (fun (_ : Unit) => out.1) (fun g (_ : Unit) => [wRM g ad eK eT out.2])) := by
  refine gM.ofi (by decide +kernel) (fun _ => Nat.le_of_ble_eq_true rfl) (fun g p e s m args below meth c A ls Q X hret hw hl => ?_)
  have hx := X.1.1
  have hb := X.1.2.1
  have hl : lv_has ls 6 [(0, .ref (ad 0)), (1, .int p1), (2, .int p2), (3, .int p3)] := hl
  have L65 : ∀ (n : Nat) (z65 : RM × Int32 × Int32), lp (M_X6_way_l65 N p1 p2 p3) n z65 = some out → ∀ (H : Heap) (locs : List Loc) (ls : Array Slot), gW g A s.heap [wRM g ad eK eT z65.1] H locs → lv_has ls 6 [(0, .ref (ad 0)), (1, .int p1), (3, .int p3), (4, .int z65.2.1), (5, .int z65.2.2)] → W p l e R_X6_way s m args below meth c H locs 0 0 Q (F0 m 65 ls []) := by
    refine lp_ind ?_
    intro rec65 ih65
    intro z65 h H locs ls hw hl
    unfold M_X6_way_l65 at h
    refine lv_iload hx hb dX6_way_65 (lv_at hl 4 rfl) ?_
    refine lv_iload_n hx hb dX6_way_67 rfl (lv_at hl 2 rfl) ?_
    refine lv_icmp_ge (tgt := 92) hx hb dX6_way_68 (by decide) (fun k68 => ?_) (fun k68 => ?_)
    · have h := itt k68 h
      refine lv_aload_n hx hb dX6_way_92 rfl (lv_at hl 0 rfl) ?_
      refine lv_iload_n hx hb dX6_way_93 rfl (lv_at hl 1 rfl) ?_
      refine lv_iload hx hb dX6_way_94 (lv_at hl 3 rfl) ?_
      obtain ⟨r96, h96, h⟩ := bnd h
      refine g_calli0 (isC := [0]) (gn := fun _ => [wRM g ad eK eT z65.1]) (g_runV (isC := [0]) (rest := []) (As := [.int p1, .int z65.2.1]) X hw (c_X6_nextMove l (ad := ad) (eK := eK) (eT := eT) h96) rfl kM_X6_nextMove ki_X6_nextMove ks_X6_nextMove km_X6_273 ⟨(Nat.le_of_ble_eq_true rfl), (Nat.le_of_ble_eq_true rfl)⟩ ⟨(Nat.le_of_ble_eq_true rfl), (Nat.le_of_ble_eq_true rfl)⟩ rfl rfl ⟨_, _, _, _, rfl, rfl, rfl, rfl⟩ rfl hl.1 rfl (Nat.le_of_ble_eq_true rfl) dX6_way_96) hw rfl rfl (fun _ => (Nat.le_of_ble_eq_true rfl)) (fun _ => rfl) rfl rfl (fun _ H locs hw => ?_)
      have h := Option.some.inj h
      subst h
      exact hret () dX6_way_99 rfl hw
    · have h := itf k68 h
      refine lv_iload hx hb dX6_way_71 (lv_at hl 3 rfl) ?_
      refine lv_aload_n hx hb dX6_way_73 rfl (lv_at hl 0 rfl) ?_
      refine lv_iload_n hx hb dX6_way_74 rfl (lv_at hl 1 rfl) ?_
      refine lv_iload hx hb dX6_way_75 (lv_at hl 3 rfl) ?_
      obtain ⟨r77, h77, h⟩ := bnd h
      refine g_calli0 (isC := [0]) (gn := fun _ => [wRM g ad eK eT z65.1]) (g_runV (isC := [0]) (rest := [.int z65.2.1]) (As := [.int p1, .int z65.2.1]) X hw (c_X6_nextMove l (ad := ad) (eK := eK) (eT := eT) h77) rfl kM_X6_nextMove ki_X6_nextMove ks_X6_nextMove km_X6_273 ⟨(Nat.le_of_ble_eq_true rfl), (Nat.le_of_ble_eq_true rfl)⟩ ⟨(Nat.le_of_ble_eq_true rfl), (Nat.le_of_ble_eq_true rfl)⟩ rfl rfl ⟨_, _, _, _, rfl, rfl, rfl, rfl⟩ rfl hl.1 rfl (Nat.le_of_ble_eq_true rfl) dX6_way_77) hw rfl rfl (fun _ => (Nat.le_of_ble_eq_true rfl)) (fun _ => rfl) rfl rfl (fun _ H locs hw => ?_)
      obtain ⟨r80, h80, h⟩ := bnd h
      refine g_calli0 (isC := []) (gn := fun _ => [wRM g ad eK eT z65.1]) (g_runS (isC := []) (rest := [.int z65.2.1]) (As := [.int r77]) X hw (c_X6_mask l h80) rfl kM_X6_mask kt_X6_mask km_X6_212 ⟨(Nat.le_of_ble_eq_true rfl), (Nat.le_of_ble_eq_true rfl)⟩ ⟨(Nat.le_of_ble_eq_true rfl), (Nat.le_of_ble_eq_true rfl)⟩ rfl rfl rfl hl.1 rfl (Nat.le_of_ble_eq_true rfl) dX6_way_80) hw rfl rfl (fun _ => (Nat.le_of_ble_eq_true rfl)) (fun _ => rfl) rfl rfl (fun _ H locs hw => ?_)
      refine lv_ixor hx hb dX6_way_83 ?_
      refine lv_istore (lv' := [(4, .int (z65.2.1 ^^^ r80)), (0, .ref (ad 0)), (1, .int p1), (3, .int p3), (5, .int z65.2.2)]) hx hb dX6_way_84 hl (by decide) rfl (fun ls hl => ?_)
      refine lv_iinc (v := (z65.2.2 + 1)) (lv' := [(5, .int (z65.2.2 + 1)), (4, .int (z65.2.1 ^^^ r80)), (0, .ref (ad 0)), (1, .int p1), (3, .int p3)]) hx hb dX6_way_86 hl (k := 4) rfl rfl (by decide) rfl (fun ls hl => ?_)
      refine lv_goto (tgt := 65) hx hb dX6_way_89 (by decide) ?_
      exact ih65 _ h _ _ _ hw (lv_sub hl [2, 3, 4, 1, 0] rfl)
  have J22 : ∀ (z22 : RM), M_X6_way_j22 N p1 p2 p3 z22 = some out → ∀ (H : Heap) (locs : List Loc) (ls : Array Slot), gW g A s.heap [wRM g ad eK eT z22] H locs → lv_has ls 6 [(0, .ref (ad 0))] → W p l e R_X6_way s m args below meth c H locs 0 0 Q (F0 m 22 ls []) := by
    intro z22 h H locs ls hw hl
    unfold M_X6_way_j22 at h
    refine lv_aload_n hx hb dX6_way_22 rfl (lv_at hl 0 rfl) ?_
    refine lv_bipush (v := -2) hx hb dX6_way_23 (by decide) ?_
    obtain ⟨r25, h25, h⟩ := bnd h
    refine g_calli0 (isC := [0]) (gn := fun _ => [wRM g ad eK eT r25.2]) (g_runV (isC := [0]) (rest := []) (As := [.int (-2 : Int32)]) X hw (c_X6_refuse l (ad := ad) (eK := eK) (eT := eT) h25) rfl kM_X6_refuse ki_X6_refuse ks_X6_refuse km_X6_96 ⟨(Nat.le_of_ble_eq_true rfl), (Nat.le_of_ble_eq_true rfl)⟩ ⟨(Nat.le_of_ble_eq_true rfl), (Nat.le_of_ble_eq_true rfl)⟩ rfl rfl ⟨_, _, _, _, rfl, rfl, rfl, rfl⟩ rfl hl.1 rfl (Nat.le_of_ble_eq_true rfl) dX6_way_25) hw rfl rfl (fun _ => (Nat.le_of_ble_eq_true rfl)) (fun _ => rfl) rfl rfl (fun _ H locs hw => ?_)
    have h := Option.some.inj h
    subst h
    exact hret () dX6_way_28 rfl hw
  unfold M_X6_way at h
  refine lv_aload_n hx hb dX6_way_0 rfl (lv_at hl 0 rfl) ?_
  refine lv_iload_n hx hb dX6_way_1 rfl (lv_at hl 1 rfl) ?_
  obtain ⟨r2, h2, h⟩ := bnd h
  refine g_calli0 (isC := [0]) (gn := fun _ => [wRM g ad eK eT rm]) (g_runV (isC := [0]) (rest := []) (As := [.int p1]) X hw (c_X6_isBar l (ad := ad) (eK := eK) (eT := eT) h2) rfl kM_X6_isBar ki_X6_isBar ks_X6_isBar km_X6_106 ⟨(Nat.le_of_ble_eq_true rfl), (Nat.le_of_ble_eq_true rfl)⟩ ⟨(Nat.le_of_ble_eq_true rfl), (Nat.le_of_ble_eq_true rfl)⟩ rfl rfl ⟨_, _, _, _, rfl, rfl, rfl, rfl⟩ rfl hl.1 rfl (Nat.le_of_ble_eq_true rfl) dX6_way_2) hw rfl rfl (fun _ => (Nat.le_of_ble_eq_true rfl)) (fun _ => rfl) rfl rfl (fun _ H locs hw => ?_)
  refine lv_if_eq (tgt := 22) hx hb dX6_way_5 (by decide) (fun k5 => ?_) (fun k5 => ?_)
  · have h := itt k5 h
    exact J22 _ h _ _ _ hw (lv_sub hl [0] rfl)
  · have h := itf k5 h
    refine lv_aload_n hx hb dX6_way_8 rfl (lv_at hl 0 rfl) ?_
    refine lv_iload_n hx hb dX6_way_9 rfl (lv_at hl 1 rfl) ?_
    refine lv_iload_n hx hb dX6_way_10 rfl (lv_at hl 2 rfl) ?_
    refine lv_i2l (v := p2.toInt64) hx hb dX6_way_11 rfl ?_
    obtain ⟨r12, h12, h⟩ := bnd h
    refine g_calli0 (isC := [0]) (gn := fun _ => [wRM g ad eK eT rm]) (g_runV (isC := [0]) (rest := []) (As := [.int p1, .long p2.toInt64]) X hw (c_X6_isSet l (ad := ad) (eK := eK) (eT := eT) h12) rfl kM_X6_isSet ki_X6_isSet ks_X6_isSet km_X6_144 ⟨(Nat.le_of_ble_eq_true rfl), (Nat.le_of_ble_eq_true rfl)⟩ ⟨(Nat.le_of_ble_eq_true rfl), (Nat.le_of_ble_eq_true rfl)⟩ rfl rfl ⟨_, _, _, _, rfl, rfl, rfl, rfl⟩ rfl hl.1 rfl (Nat.le_of_ble_eq_true rfl) dX6_way_12) hw rfl rfl (fun _ => (Nat.le_of_ble_eq_true rfl)) (fun _ => rfl) rfl rfl (fun _ H locs hw => ?_)
    refine lv_if_eq (tgt := 22) hx hb dX6_way_15 (by decide) (fun k15 => ?_) (fun k15 => ?_)
    · have h := itt k15 h
      exact J22 _ h _ _ _ hw (lv_sub hl [0] rfl)
    · have h := itf k15 h
      refine lv_iload_n hx hb dX6_way_18 rfl (lv_at hl 3 rfl) ?_
      refine lv_if_ge (tgt := 29) hx hb dX6_way_19 (by decide) (fun k19 => ?_) (fun k19 => ?_)
      · have h := itt k19 h
        refine lv_aload_n hx hb dX6_way_29 rfl (lv_at hl 0 rfl) ?_
        refine lv_iload_n hx hb dX6_way_30 rfl (lv_at hl 1 rfl) ?_
        refine lv_iload_n hx hb dX6_way_31 rfl (lv_at hl 2 rfl) ?_
        refine lv_iconst (v := 0) hx hb dX6_way_32 (by decide) ?_
        obtain ⟨r33, h33, h⟩ := bnd h
        refine g_callv0 (isC := [0]) (gn := fun _ => [wRM g ad eK eT r33]) (g_runV (isC := [0]) (rest := []) (As := [.int p1, .int p2, .int (0 : Int32)]) X hw (c_X6_findFar l (ad := ad) (eK := eK) (eT := eT) h33) rfl kM_X6_findFar ki_X6_findFar ks_X6_findFar km_X6_269 ⟨(Nat.le_of_ble_eq_true rfl), (Nat.le_of_ble_eq_true rfl)⟩ ⟨(Nat.le_of_ble_eq_true rfl), (Nat.le_of_ble_eq_true rfl)⟩ rfl rfl ⟨_, _, _, _, rfl, rfl, rfl, rfl⟩ rfl hl.1 rfl (Nat.le_of_ble_eq_true rfl) dX6_way_33) hw rfl rfl (fun _ => (Nat.le_of_ble_eq_true rfl)) (fun _ => rfl) rfl rfl (fun _ H locs hw => ?_)
        refine lv_aload_n hx hb dX6_way_36 rfl (lv_at hl 0 rfl) ?_
        refine RM_g_on X hw 0 rfl kf_X6_43 dX6_way_37 ?_
        refine lv_iload_n hx hb dX6_way_40 rfl (lv_at hl 1 rfl) ?_
        obtain ⟨q41, h⟩ := chk h
        refine RM_l_on X hw 0 rfl q41 dX6_way_41 ?_
        refine lv_istore (lv' := [(4, .int (RM_on r33 p1.toNatClampNeg)), (0, .ref (ad 0)), (1, .int p1), (2, .int p2), (3, .int p3)]) hx hb dX6_way_42 hl (by decide) rfl (fun ls hl => ?_)
        refine lv_iload_n hx hb dX6_way_44 rfl (lv_at hl 4 rfl) ?_
        refine lv_aload_n hx hb dX6_way_45 rfl (lv_at hl 1 rfl) ?_
        refine RM_g_far X hw 0 rfl kf_X6_67 dX6_way_46 ?_
        refine lv_iload hx hb dX6_way_49 (lv_at hl 0 rfl) ?_
        obtain ⟨q51, h⟩ := chk h
        refine RM_l_far X hw 0 rfl q51 dX6_way_51 ?_
        refine lv_icmp_lt (tgt := 62) hx hb dX6_way_52 (by decide) (fun k52 => ?_) (fun k52 => ?_)
        · have h := itt k52 h
          refine lv_iconst (v := 0) hx hb dX6_way_62 (by decide) ?_
          refine lv_istore (lv' := [(5, .int (0 : Int32)), (4, .int (RM_on r33 p1.toNatClampNeg)), (0, .ref (ad 0)), (1, .int p1), (2, .int p2), (3, .int p3)]) hx hb dX6_way_63 hl (by decide) rfl (fun ls hl => ?_)
          exact L65 N _ h _ _ _ hw (lv_sub hl [2, 3, 5, 1, 0] rfl)
        · have h := itf k52 h
          refine lv_aload_n hx hb dX6_way_55 rfl (lv_at hl 1 rfl) ?_
          refine lv_bipush (v := -5) hx hb dX6_way_56 (by decide) ?_
          obtain ⟨r58, h58, h⟩ := bnd h
          refine g_calli0 (isC := [0]) (gn := fun _ => [wRM g ad eK eT r58.2]) (g_runV (isC := [0]) (rest := []) (As := [.int (-5 : Int32)]) X hw (c_X6_refuse l (ad := ad) (eK := eK) (eT := eT) h58) rfl kM_X6_refuse ki_X6_refuse ks_X6_refuse km_X6_96 ⟨(Nat.le_of_ble_eq_true rfl), (Nat.le_of_ble_eq_true rfl)⟩ ⟨(Nat.le_of_ble_eq_true rfl), (Nat.le_of_ble_eq_true rfl)⟩ rfl rfl ⟨_, _, _, _, rfl, rfl, rfl, rfl⟩ rfl hl.1 rfl (Nat.le_of_ble_eq_true rfl) dX6_way_58) hw rfl rfl (fun _ => (Nat.le_of_ble_eq_true rfl)) (fun _ => rfl) rfl rfl (fun _ H locs hw => ?_)
          have h := Option.some.inj h
          subst h
          exact hret () dX6_way_61 rfl hw
      · have h := itf k19 h
        exact J22 _ h _ _ _ hw (lv_sub hl [0] rfl)
theorem kM_X6_placeOf : kM yX6_placeOf cX6_placeOf 6 (some FieldType.long) 1 := ⟨kc_X6_placeOf, kn_RingsOffModel, by decide +kernel⟩
abbrev R_X6_placeOf : Room := { frames := 0, cells := 0, slots := 0, locals := 0 }
set_option maxHeartbeats 4000000 in
set_option maxRecDepth 100000 in
theorem c_X6_placeOf (l : Launch) {N : Nat} {p1 : Int64} {out : Int64} (h : M_X6_placeOf N p1 = some out) : gM l yX6_placeOf cX6_placeOf 6 (some FieldType.long) R_X6_placeOf (fun _ => [.long p1]) (fun g => []) (gQl (fun (_ : Unit) => out) (fun g (_ : Unit) => [])) := by
  refine gM.ofl (by decide +kernel) (fun _ => Nat.le_of_ble_eq_true rfl) (fun g p e s m args below meth c A ls Q X hret hw hl => ?_)
  have hx := X.1.1
  have hb := X.1.2.1
  have hl : lv_has ls 6 [(0, .long p1)] := hl
  have L5 : ∀ (n : Nat) (z5 : Int64 × Int64), lp (M_X6_placeOf_l5 N p1) n z5 = some out → ∀ (H : Heap) (locs : List Loc) (ls : Array Slot), gW g A s.heap [] H locs → lv_has ls 6 [(2, .long z5.1), (4, .long z5.2)] → W p l e R_X6_placeOf s m args below meth c H locs 0 0 Q (F0 m 5 ls []) := by
    refine lp_ind ?_
    intro rec5 ih5
    intro z5 h H locs ls hw hl
    unfold M_X6_placeOf_l5 at h
    refine lv_lload hx hb dX6_placeOf_5 (lv_at hl 1 rfl) ?_
    refine lv_lconst (v := 0) hx hb dX6_placeOf_7 (by decide) ?_
    refine W.lcmp hx hb dX6_placeOf_8 ?_
    refine lv_if_eq (tgt := 26) hx hb dX6_placeOf_9 (by decide) (fun k9 => ?_) (fun k9 => ?_)
    · have h := itt k9 h
      refine lv_lload_n hx hb dX6_placeOf_26 rfl (lv_at hl 0 rfl) ?_
      have h := Option.some.inj h
      subst h
      exact hret () dX6_placeOf_27 rfl hw
    · have h := itf k9 h
      refine lv_lload_n hx hb dX6_placeOf_12 rfl (lv_at hl 0 rfl) ?_
      refine lv_lload hx hb dX6_placeOf_13 (lv_at hl 1 rfl) ?_
      refine lv_lxor hx hb dX6_placeOf_15 ?_
      refine lv_lstore_n (lv' := [(2, .long (z5.1 ^^^ z5.2)), (4, .long z5.2)]) hx hb dX6_placeOf_16 rfl hl (by decide) rfl (fun ls hl => ?_)
      refine lv_lload hx hb dX6_placeOf_17 (lv_at hl 1 rfl) ?_
      refine lv_iconst (v := 1) hx hb dX6_placeOf_19 (by decide) ?_
      refine lv_lshr (v := (jlshr z5.2 (1 : Int32))) hx hb dX6_placeOf_20 rfl ?_
      refine lv_lstore (lv' := [(4, .long (jlshr z5.2 (1 : Int32))), (2, .long (z5.1 ^^^ z5.2))]) hx hb dX6_placeOf_21 hl (by decide) rfl (fun ls hl => ?_)
      refine lv_goto (tgt := 5) hx hb dX6_placeOf_23 (by decide) ?_
      exact ih5 _ h _ _ _ hw (lv_sub hl [1, 0] rfl)
  unfold M_X6_placeOf at h
  refine lv_lconst (v := 0) hx hb dX6_placeOf_0 (by decide) ?_
  refine lv_lstore_n (lv' := [(2, .long (0 : Int64)), (0, .long p1)]) hx hb dX6_placeOf_1 rfl hl (by decide) rfl (fun ls hl => ?_)
  refine lv_lload_n hx hb dX6_placeOf_2 rfl (lv_at hl 1 rfl) ?_
  refine lv_lstore (lv' := [(4, .long p1), (2, .long (0 : Int64)), (0, .long p1)]) hx hb dX6_placeOf_3 hl (by decide) rfl (fun ls hl => ?_)
  exact L5 N _ h _ _ _ hw (lv_sub hl [1, 0] rfl)
theorem kM_X6_place : kM yX6_place cX6_place 3 (some FieldType.long) 1 := ⟨kc_X6_place, kn_RingsOffModel, by decide +kernel⟩
abbrev R_X6_place : Room := { frames := 1, cells := 0, slots := 0, locals := 25 }
set_option maxHeartbeats 4000000 in
set_option maxRecDepth 100000 in
theorem c_X6_place (l : Launch) {ad : Nat → Nat} {eK : Option Nat} {eT : Option Nat} {N : Nat} {rm : RM} {p1 : Int64} {out : Int64 × RM} (h : M_X6_place N rm p1 = some out) : gM l yX6_place cX6_place 3 (some FieldType.long) R_X6_place (fun _ => [.ref (ad 0), .long p1]) (fun g => [wRM g ad eK eT rm]) (gQl (fun (_ : Unit) => out.1) (fun g (_ : Unit) => [wRM g ad eK eT out.2])) := by
  refine gM.ofl (by decide +kernel) (fun _ => Nat.le_of_ble_eq_true rfl) (fun g p e s m args below meth c A ls Q X hret hw hl => ?_)
  have hx := X.1.1
  have hb := X.1.2.1
  have hl : lv_has ls 3 [(0, .ref (ad 0)), (1, .long p1)] := hl
  have J22 : ∀ (z22 : RM), M_X6_place_j22 N p1 z22 = some out → ∀ (H : Heap) (locs : List Loc) (ls : Array Slot), gW g A s.heap [wRM g ad eK eT z22] H locs → lv_has ls 3 [(0, .ref (ad 0))] → W p l e R_X6_place s m args below meth c H locs 0 0 Q (F0 m 22 ls []) := by
    intro z22 h H locs ls hw hl
    unfold M_X6_place_j22 at h
    refine lv_aload_n hx hb dX6_place_22 rfl (lv_at hl 0 rfl) ?_
    refine lv_bipush (v := -2) hx hb dX6_place_23 (by decide) ?_
    obtain ⟨r25, h25, h⟩ := bnd h
    refine g_calli0 (isC := [0]) (gn := fun _ => [wRM g ad eK eT r25.2]) (g_runV (isC := [0]) (rest := []) (As := [.int (-2 : Int32)]) X hw (c_X6_refuse l (ad := ad) (eK := eK) (eT := eT) h25) rfl kM_X6_refuse ki_X6_refuse ks_X6_refuse km_X6_96 ⟨(Nat.le_of_ble_eq_true rfl), (Nat.le_of_ble_eq_true rfl)⟩ ⟨(Nat.le_of_ble_eq_true rfl), (Nat.le_of_ble_eq_true rfl)⟩ rfl rfl ⟨_, _, _, _, rfl, rfl, rfl, rfl⟩ rfl hl.1 rfl (Nat.le_of_ble_eq_true rfl) dX6_place_25) hw rfl rfl (fun _ => (Nat.le_of_ble_eq_true rfl)) (fun _ => rfl) rfl rfl (fun _ H locs hw => ?_)
    refine lv_i2l (v := r25.1.toInt64) hx hb dX6_place_28 rfl ?_
    have h := Option.some.inj h
    subst h
    exact hret () dX6_place_29 rfl hw
  unfold M_X6_place at h
  refine lv_lload_n hx hb dX6_place_0 rfl (lv_at hl 1 rfl) ?_
  refine lv_lconst (v := 0) hx hb dX6_place_1 (by decide) ?_
  refine W.lcmp hx hb dX6_place_2 ?_
  refine lv_if_lt (tgt := 22) hx hb dX6_place_3 (by decide) (fun k3 => ?_) (fun k3 => ?_)
  · have h := itt k3 h
    exact J22 _ h _ _ _ hw (lv_sub hl [0] rfl)
  · have h := itf k3 h
    refine lv_lload_n hx hb dX6_place_6 rfl (lv_at hl 1 rfl) ?_
    refine lv_bipush (v := 60) hx hb dX6_place_7 (by decide) ?_
    refine lv_lshr (v := (jlshr p1 (60 : Int32))) hx hb dX6_place_9 rfl ?_
    refine lv_lconst (v := 0) hx hb dX6_place_10 (by decide) ?_
    refine W.lcmp hx hb dX6_place_11 ?_
    refine lv_if_ne (tgt := 22) hx hb dX6_place_12 (by decide) (fun k12 => ?_) (fun k12 => ?_)
    · have h := itt k12 h
      exact J22 _ h _ _ _ hw (lv_sub hl [0] rfl)
    · have h := itf (fun z => z k12) h
      refine lv_lload_n hx hb dX6_place_15 rfl (lv_at hl 1 rfl) ?_
      obtain ⟨r16, h16, h⟩ := bnd h
      refine g_calll0 (isC := []) (gn := fun _ => [wRM g ad eK eT rm]) (g_runS (isC := []) (rest := []) (As := [.long p1]) X hw (c_X6_placeOf l h16) rfl kM_X6_placeOf kt_X6_placeOf km_X6_123 ⟨(Nat.le_of_ble_eq_true rfl), (Nat.le_of_ble_eq_true rfl)⟩ ⟨(Nat.le_of_ble_eq_true rfl), (Nat.le_of_ble_eq_true rfl)⟩ rfl rfl rfl hl.1 rfl (Nat.le_of_ble_eq_true rfl) dX6_place_16) hw rfl rfl (fun _ => (Nat.le_of_ble_eq_true rfl)) (fun _ => rfl) rfl rfl (fun _ H locs hw => ?_)
      refine lv_goto (tgt := 29) hx hb dX6_place_19 (by decide) ?_
      have h := Option.some.inj h
      subst h
      exact hret () dX6_place_29 rfl hw
theorem kM_X6_setOf : kM yX6_setOf cX6_setOf 3 (some FieldType.long) 1 := ⟨kc_X6_setOf, kn_RingsOffModel, by decide +kernel⟩
abbrev R_X6_setOf : Room := { frames := 1, cells := 0, slots := 0, locals := 21 }
set_option maxHeartbeats 4000000 in
set_option maxRecDepth 100000 in
theorem c_X6_setOf (l : Launch) {ad : Nat → Nat} {eK : Option Nat} {eT : Option Nat} {N : Nat} {rm : RM} {p1 : Int64} {out : Int64 × RM} (h : M_X6_setOf N rm p1 = some out) : gM l yX6_setOf cX6_setOf 3 (some FieldType.long) R_X6_setOf (fun _ => [.ref (ad 0), .long p1]) (fun g => [wRM g ad eK eT rm]) (gQl (fun (_ : Unit) => out.1) (fun g (_ : Unit) => [wRM g ad eK eT out.2])) := by
  refine gM.ofl (by decide +kernel) (fun _ => Nat.le_of_ble_eq_true rfl) (fun g p e s m args below meth c A ls Q X hret hw hl => ?_)
  have hx := X.1.1
  have hb := X.1.2.1
  have hl : lv_has ls 3 [(0, .ref (ad 0)), (1, .long p1)] := hl
  have J23 : ∀ (z23 : RM), M_X6_setOf_j23 N p1 z23 = some out → ∀ (H : Heap) (locs : List Loc) (ls : Array Slot), gW g A s.heap [wRM g ad eK eT z23] H locs → lv_has ls 3 [(0, .ref (ad 0))] → W p l e R_X6_setOf s m args below meth c H locs 0 0 Q (F0 m 23 ls []) := by
    intro z23 h H locs ls hw hl
    unfold M_X6_setOf_j23 at h
    refine lv_aload_n hx hb dX6_setOf_23 rfl (lv_at hl 0 rfl) ?_
    refine lv_bipush (v := -2) hx hb dX6_setOf_24 (by decide) ?_
    obtain ⟨r26, h26, h⟩ := bnd h
    refine g_calli0 (isC := [0]) (gn := fun _ => [wRM g ad eK eT r26.2]) (g_runV (isC := [0]) (rest := []) (As := [.int (-2 : Int32)]) X hw (c_X6_refuse l (ad := ad) (eK := eK) (eT := eT) h26) rfl kM_X6_refuse ki_X6_refuse ks_X6_refuse km_X6_96 ⟨(Nat.le_of_ble_eq_true rfl), (Nat.le_of_ble_eq_true rfl)⟩ ⟨(Nat.le_of_ble_eq_true rfl), (Nat.le_of_ble_eq_true rfl)⟩ rfl rfl ⟨_, _, _, _, rfl, rfl, rfl, rfl⟩ rfl hl.1 rfl (Nat.le_of_ble_eq_true rfl) dX6_setOf_26) hw rfl rfl (fun _ => (Nat.le_of_ble_eq_true rfl)) (fun _ => rfl) rfl rfl (fun _ H locs hw => ?_)
    refine lv_i2l (v := r26.1.toInt64) hx hb dX6_setOf_29 rfl ?_
    have h := Option.some.inj h
    subst h
    exact hret () dX6_setOf_30 rfl hw
  unfold M_X6_setOf at h
  refine lv_lload_n hx hb dX6_setOf_0 rfl (lv_at hl 1 rfl) ?_
  refine lv_lconst (v := 0) hx hb dX6_setOf_1 (by decide) ?_
  refine W.lcmp hx hb dX6_setOf_2 ?_
  refine lv_if_lt (tgt := 23) hx hb dX6_setOf_3 (by decide) (fun k3 => ?_) (fun k3 => ?_)
  · have h := itt k3 h
    exact J23 _ h _ _ _ hw (lv_sub hl [0] rfl)
  · have h := itf k3 h
    refine lv_lload_n hx hb dX6_setOf_6 rfl (lv_at hl 1 rfl) ?_
    refine lv_bipush (v := 60) hx hb dX6_setOf_7 (by decide) ?_
    refine lv_lshr (v := (jlshr p1 (60 : Int32))) hx hb dX6_setOf_9 rfl ?_
    refine lv_lconst (v := 0) hx hb dX6_setOf_10 (by decide) ?_
    refine W.lcmp hx hb dX6_setOf_11 ?_
    refine lv_if_ne (tgt := 23) hx hb dX6_setOf_12 (by decide) (fun k12 => ?_) (fun k12 => ?_)
    · have h := itt k12 h
      exact J23 _ h _ _ _ hw (lv_sub hl [0] rfl)
    · have h := itf (fun z => z k12) h
      refine lv_lload_n hx hb dX6_setOf_15 rfl (lv_at hl 1 rfl) ?_
      refine lv_lload_n hx hb dX6_setOf_16 rfl (lv_at hl 1 rfl) ?_
      refine lv_iconst (v := 1) hx hb dX6_setOf_17 (by decide) ?_
      refine lv_lshr (v := (jlshr p1 (1 : Int32))) hx hb dX6_setOf_18 rfl ?_
      refine lv_lxor hx hb dX6_setOf_19 ?_
      refine lv_goto (tgt := 30) hx hb dX6_setOf_20 (by decide) ?_
      have h := Option.some.inj h
      subst h
      exact hret () dX6_setOf_30 rfl hw
theorem kM_X6_reach : kM yX6_reach cX6_reach 2 (some FieldType.int) 1 := ⟨kc_X6_reach, kn_RingsOffModel, by decide +kernel⟩
abbrev R_X6_reach : Room := { frames := 5, cells := 0, slots := 0, locals := 118 }
set_option maxHeartbeats 4000000 in
set_option maxRecDepth 100000 in
theorem c_X6_reach (l : Launch) {ad : Nat → Nat} {eK : Option Nat} {eT : Option Nat} {N : Nat} {rm : RM} {p1 : Int32} {out : Int32 × RM} (h : M_X6_reach N rm p1 = some out) : gM l yX6_reach cX6_reach 2 (some FieldType.int) R_X6_reach (fun _ => [.ref (ad 0), .int p1]) (fun g => [wRM g ad eK eT rm]) (gQi (fun (_ : Unit) => out.1) (fun g (_ : Unit) => [wRM g ad eK eT out.2])) := by
  refine gM.ofi (by decide +kernel) (fun _ => Nat.le_of_ble_eq_true rfl) (fun g p e s m args below meth c A ls Q X hret hw hl => ?_)
  have hx := X.1.1
  have hb := X.1.2.1
  have hl : lv_has ls 2 [(0, .ref (ad 0)), (1, .int p1)] := hl
  unfold M_X6_reach at h
  refine lv_aload_n hx hb dX6_reach_0 rfl (lv_at hl 0 rfl) ?_
  refine lv_iload_n hx hb dX6_reach_1 rfl (lv_at hl 1 rfl) ?_
  obtain ⟨r2, h2, h⟩ := bnd h
  refine g_calli0 (isC := [0]) (gn := fun _ => [wRM g ad eK eT rm]) (g_runV (isC := [0]) (rest := []) (As := [.int p1]) X hw (c_X6_isBar l (ad := ad) (eK := eK) (eT := eT) h2) rfl kM_X6_isBar ki_X6_isBar ks_X6_isBar km_X6_106 ⟨(Nat.le_of_ble_eq_true rfl), (Nat.le_of_ble_eq_true rfl)⟩ ⟨(Nat.le_of_ble_eq_true rfl), (Nat.le_of_ble_eq_true rfl)⟩ rfl rfl ⟨_, _, _, _, rfl, rfl, rfl, rfl⟩ rfl hl.1 rfl (Nat.le_of_ble_eq_true rfl) dX6_reach_2) hw rfl rfl (fun _ => (Nat.le_of_ble_eq_true rfl)) (fun _ => rfl) rfl rfl (fun _ H locs hw => ?_)
  refine lv_if_ne (tgt := 15) hx hb dX6_reach_5 (by decide) (fun k5 => ?_) (fun k5 => ?_)
  · have h := itt k5 h
    refine lv_aload_n hx hb dX6_reach_15 rfl (lv_at hl 0 rfl) ?_
    refine lv_iload_n hx hb dX6_reach_16 rfl (lv_at hl 1 rfl) ?_
    refine lv_aload_n hx hb dX6_reach_17 rfl (lv_at hl 0 rfl) ?_
    refine RM_g_on X hw 0 rfl kf_X6_43 dX6_reach_18 ?_
    refine lv_iload_n hx hb dX6_reach_21 rfl (lv_at hl 1 rfl) ?_
    obtain ⟨q22, h⟩ := chk h
    refine RM_l_on X hw 0 rfl q22 dX6_reach_22 ?_
    refine lv_iconst (v := 1) hx hb dX6_reach_23 (by decide) ?_
    obtain ⟨r24, h24, h⟩ := bnd h
    refine g_callv0 (isC := [0]) (gn := fun _ => [wRM g ad eK eT r24]) (g_runV (isC := [0]) (rest := []) (As := [.int p1, .int (RM_on rm p1.toNatClampNeg), .int (1 : Int32)]) X hw (c_X6_findFar l (ad := ad) (eK := eK) (eT := eT) h24) rfl kM_X6_findFar ki_X6_findFar ks_X6_findFar km_X6_269 ⟨(Nat.le_of_ble_eq_true rfl), (Nat.le_of_ble_eq_true rfl)⟩ ⟨(Nat.le_of_ble_eq_true rfl), (Nat.le_of_ble_eq_true rfl)⟩ rfl rfl ⟨_, _, _, _, rfl, rfl, rfl, rfl⟩ rfl hl.1 rfl (Nat.le_of_ble_eq_true rfl) dX6_reach_24) hw rfl rfl (fun _ => (Nat.le_of_ble_eq_true rfl)) (fun _ => rfl) rfl rfl (fun _ H locs hw => ?_)
    refine lv_aload_n hx hb dX6_reach_27 rfl (lv_at hl 0 rfl) ?_
    refine RM_g_queued X hw 0 rfl kf_X6_266 dX6_reach_28 ?_
    have h := Option.some.inj h
    subst h
    exact hret () dX6_reach_31 rfl hw
  · have h := itf (fun z => z k5) h
    refine lv_aload_n hx hb dX6_reach_8 rfl (lv_at hl 0 rfl) ?_
    refine lv_bipush (v := -2) hx hb dX6_reach_9 (by decide) ?_
    obtain ⟨r11, h11, h⟩ := bnd h
    refine g_calli0 (isC := [0]) (gn := fun _ => [wRM g ad eK eT r11.2]) (g_runV (isC := [0]) (rest := []) (As := [.int (-2 : Int32)]) X hw (c_X6_refuse l (ad := ad) (eK := eK) (eT := eT) h11) rfl kM_X6_refuse ki_X6_refuse ks_X6_refuse km_X6_96 ⟨(Nat.le_of_ble_eq_true rfl), (Nat.le_of_ble_eq_true rfl)⟩ ⟨(Nat.le_of_ble_eq_true rfl), (Nat.le_of_ble_eq_true rfl)⟩ rfl rfl ⟨_, _, _, _, rfl, rfl, rfl, rfl⟩ rfl hl.1 rfl (Nat.le_of_ble_eq_true rfl) dX6_reach_11) hw rfl rfl (fun _ => (Nat.le_of_ble_eq_true rfl)) (fun _ => rfl) rfl rfl (fun _ H locs hw => ?_)
    have h := Option.some.inj h
    subst h
    exact hret () dX6_reach_14 rfl hw
theorem kM_X6_farthest : kM yX6_farthest cX6_farthest 5 (some FieldType.int) 2 := ⟨kc_X6_farthest, kn_RingsOffModel, by decide +kernel⟩
abbrev R_X6_farthest : Room := { frames := 5, cells := 0, slots := 0, locals := 118 }
set_option maxHeartbeats 4000000 in
set_option maxRecDepth 100000 in
theorem c_X6_farthest (l : Launch) {ad : Nat → Nat} {eK : Option Nat} {eT : Option Nat} {N : Nat} {rm : RM} {p1 : Int32} {p2 : Int32} {out : Int32 × RM} (h : M_X6_farthest N rm p1 p2 = some out) : gM l yX6_farthest cX6_farthest 5 (some FieldType.int) R_X6_farthest (fun _ => [.ref (ad 0), .int p1, .int p2]) (fun g => [wRM g ad eK eT rm]) (gQi (fun (_ : Unit) => out.1) (fun g (_ : Unit) => [wRM g ad eK eT out.2])) := by
  refine gM.ofi (by decide +kernel) (fun _ => Nat.le_of_ble_eq_true rfl) (fun g p e s m args below meth c A ls Q X hret hw hl => ?_)
  have hx := X.1.1
  have hb := X.1.2.1
  have hl : lv_has ls 5 [(0, .ref (ad 0)), (1, .int p1), (2, .int p2)] := hl
  have L47 : ∀ (n : Nat) (z47 : RM × Int32 × Int32), lp (M_X6_farthest_l47 N p1 p2) n z47 = some out → ∀ (H : Heap) (locs : List Loc) (ls : Array Slot), gW g A s.heap [wRM g ad eK eT z47.1] H locs → lv_has ls 5 [(0, .ref (ad 0)), (1, .int p1), (2, .int p2), (3, .int z47.2.1), (4, .int z47.2.2)] → W p l e R_X6_farthest s m args below meth c H locs 0 0 Q (F0 m 47 ls []) := by
    refine lp_ind ?_
    intro rec47 ih47
    have J101 : ∀ (z101 : RM × Int32 × Int32), M_X6_farthest_j101 N p1 p2 rec47 z101 = some out → ∀ (H : Heap) (locs : List Loc) (ls : Array Slot), gW g A s.heap [wRM g ad eK eT z101.1] H locs → lv_has ls 5 [(0, .ref (ad 0)), (1, .int p1), (2, .int p2), (4, .int z101.2.1)] → W p l e R_X6_farthest s m args below meth c H locs 0 0 Q (F0 m 101 ls [.int z101.2.2]) := by
      intro z101 h H locs ls hw hl
      unfold M_X6_farthest_j101 at h
      refine lv_istore_n (lv' := [(3, .int z101.2.2), (0, .ref (ad 0)), (1, .int p1), (2, .int p2), (4, .int z101.2.1)]) hx hb dX6_farthest_101 rfl hl (by decide) rfl (fun ls hl => ?_)
      refine lv_iinc (v := (z101.2.1 + 1)) (lv' := [(4, .int (z101.2.1 + 1)), (3, .int z101.2.2), (0, .ref (ad 0)), (1, .int p1), (2, .int p2)]) hx hb dX6_farthest_102 hl (k := 4) rfl rfl (by decide) rfl (fun ls hl => ?_)
      refine lv_goto (tgt := 47) hx hb dX6_farthest_105 (by decide) ?_
      exact ih47 _ h _ _ _ hw (lv_sub hl [2, 3, 4, 1, 0] rfl)
    have J100 : ∀ (z100 : RM × Int32 × Int32), M_X6_farthest_j100 N p1 p2 rec47 z100 = some out → ∀ (H : Heap) (locs : List Loc) (ls : Array Slot), gW g A s.heap [wRM g ad eK eT z100.1] H locs → lv_has ls 5 [(0, .ref (ad 0)), (1, .int p1), (2, .int p2), (3, .int z100.2.1), (4, .int z100.2.2)] → W p l e R_X6_farthest s m args below meth c H locs 0 0 Q (F0 m 100 ls []) := by
      intro z100 h H locs ls hw hl
      unfold M_X6_farthest_j100 at h
      refine lv_iload_n hx hb dX6_farthest_100 rfl (lv_at hl 3 rfl) ?_
      exact J101 _ h _ _ _ hw (lv_sub hl [0, 1, 2, 4] rfl)
    have J95 : ∀ (z95 : RM × Int32), M_X6_farthest_j95 N p1 p2 rec47 z95 = some out → ∀ (H : Heap) (locs : List Loc) (ls : Array Slot), gW g A s.heap [wRM g ad eK eT z95.1] H locs → lv_has ls 5 [(0, .ref (ad 0)), (1, .int p1), (2, .int p2), (4, .int z95.2)] → W p l e R_X6_farthest s m args below meth c H locs 0 0 Q (F0 m 95 ls []) := by
      intro z95 h H locs ls hw hl
      unfold M_X6_farthest_j95 at h
      refine lv_iload hx hb dX6_farthest_95 (lv_at hl 3 rfl) ?_
      refine lv_goto (tgt := 101) hx hb dX6_farthest_97 (by decide) ?_
      exact J101 _ h _ _ _ hw (lv_sub hl [0, 1, 2, 3] rfl)
    intro z47 h H locs ls hw hl
    unfold M_X6_farthest_l47 at h
    refine lv_iload hx hb dX6_farthest_47 (lv_at hl 4 rfl) ?_
    refine lv_aload_n hx hb dX6_farthest_49 rfl (lv_at hl 0 rfl) ?_
    refine lv_iload_n hx hb dX6_farthest_50 rfl (lv_at hl 1 rfl) ?_
    obtain ⟨r51, h51, h⟩ := bnd h
    refine g_calli0 (isC := [0]) (gn := fun _ => [wRM g ad eK eT z47.1]) (g_runV (isC := [0]) (rest := [.int z47.2.2]) (As := [.int p1]) X hw (c_X6_all l (ad := ad) (eK := eK) (eT := eT) h51) rfl kM_X6_all ki_X6_all ks_X6_all km_X6_86 ⟨(Nat.le_of_ble_eq_true rfl), (Nat.le_of_ble_eq_true rfl)⟩ ⟨(Nat.le_of_ble_eq_true rfl), (Nat.le_of_ble_eq_true rfl)⟩ rfl rfl ⟨_, _, _, _, rfl, rfl, rfl, rfl⟩ rfl hl.1 rfl (Nat.le_of_ble_eq_true rfl) dX6_farthest_51) hw rfl rfl (fun _ => (Nat.le_of_ble_eq_true rfl)) (fun _ => rfl) rfl rfl (fun _ H locs hw => ?_)
    refine lv_icmp_gt (tgt := 108) hx hb dX6_farthest_54 (by decide) (fun k54 => ?_) (fun k54 => ?_)
    · have h := itt k54 h
      refine lv_iload_n hx hb dX6_farthest_108 rfl (lv_at hl 2 rfl) ?_
      refine lv_if_ne (tgt := 116) hx hb dX6_farthest_109 (by decide) (fun k109 => ?_) (fun k109 => ?_)
      · have h := itt k109 h
        refine lv_aload_n hx hb dX6_farthest_116 rfl (lv_at hl 0 rfl) ?_
        refine RM_g_far X hw 0 rfl kf_X6_67 dX6_farthest_117 ?_
        refine lv_iload_n hx hb dX6_farthest_120 rfl (lv_at hl 3 rfl) ?_
        obtain ⟨q121, h⟩ := chk h
        refine RM_l_far X hw 0 rfl q121 dX6_farthest_121 ?_
        have h := Option.some.inj h
        subst h
        exact hret () dX6_farthest_122 rfl hw
      · have h := itf (fun z => z k109) h
        refine lv_iload_n hx hb dX6_farthest_112 rfl (lv_at hl 3 rfl) ?_
        refine lv_goto (tgt := 122) hx hb dX6_farthest_113 (by decide) ?_
        have h := Option.some.inj h
        subst h
        exact hret () dX6_farthest_122 rfl hw
    · have h := itf k54 h
      refine lv_aload_n hx hb dX6_farthest_57 rfl (lv_at hl 0 rfl) ?_
      refine RM_g_far X hw 0 rfl kf_X6_67 dX6_farthest_58 ?_
      refine lv_iload hx hb dX6_farthest_61 (lv_at hl 4 rfl) ?_
      obtain ⟨q63, h⟩ := chk h
      refine RM_l_far X hw 0 rfl q63 dX6_farthest_63 ?_
      refine lv_aload_n hx hb dX6_farthest_64 rfl (lv_at hl 0 rfl) ?_
      refine RM_g_far X hw 0 rfl kf_X6_67 dX6_farthest_65 ?_
      refine lv_iload_n hx hb dX6_farthest_68 rfl (lv_at hl 3 rfl) ?_
      obtain ⟨q69, h⟩ := chk h
      refine RM_l_far X hw 0 rfl q69 dX6_farthest_69 ?_
      refine lv_icmp_gt (tgt := 95) hx hb dX6_farthest_70 (by decide) (fun k70 => ?_) (fun k70 => ?_)
      · have h := itt k70 h
        exact J95 _ h _ _ _ hw (lv_sub hl [0, 1, 2, 4] rfl)
      · have h := itf k70 h
        refine lv_aload_n hx hb dX6_farthest_73 rfl (lv_at hl 0 rfl) ?_
        refine RM_g_far X hw 0 rfl kf_X6_67 dX6_farthest_74 ?_
        refine lv_iload hx hb dX6_farthest_77 (lv_at hl 4 rfl) ?_
        obtain ⟨q79, h⟩ := chk h
        refine RM_l_far X hw 0 rfl q79 dX6_farthest_79 ?_
        refine lv_aload_n hx hb dX6_farthest_80 rfl (lv_at hl 0 rfl) ?_
        refine RM_g_far X hw 0 rfl kf_X6_67 dX6_farthest_81 ?_
        refine lv_iload_n hx hb dX6_farthest_84 rfl (lv_at hl 3 rfl) ?_
        obtain ⟨q85, h⟩ := chk h
        refine RM_l_far X hw 0 rfl q85 dX6_farthest_85 ?_
        refine lv_icmp_ne (tgt := 100) hx hb dX6_farthest_86 (by decide) (fun k86 => ?_) (fun k86 => ?_)
        · have h := itt k86 h
          exact J100 _ h _ _ _ hw (lv_sub hl [0, 1, 2, 3, 4] rfl)
        · have h := itf (fun z => z k86) h
          refine lv_iload hx hb dX6_farthest_89 (lv_at hl 4 rfl) ?_
          refine lv_iload_n hx hb dX6_farthest_91 rfl (lv_at hl 3 rfl) ?_
          refine lv_icmp_ge (tgt := 100) hx hb dX6_farthest_92 (by decide) (fun k92 => ?_) (fun k92 => ?_)
          · have h := itt k92 h
            exact J100 _ h _ _ _ hw (lv_sub hl [0, 1, 2, 3, 4] rfl)
          · have h := itf k92 h
            exact J95 _ h _ _ _ hw (lv_sub hl [0, 1, 2, 4] rfl)
  have J18 : ∀ (z18 : RM), M_X6_farthest_j18 N p1 p2 z18 = some out → ∀ (H : Heap) (locs : List Loc) (ls : Array Slot), gW g A s.heap [wRM g ad eK eT z18] H locs → lv_has ls 5 [(0, .ref (ad 0))] → W p l e R_X6_farthest s m args below meth c H locs 0 0 Q (F0 m 18 ls []) := by
    intro z18 h H locs ls hw hl
    unfold M_X6_farthest_j18 at h
    refine lv_aload_n hx hb dX6_farthest_18 rfl (lv_at hl 0 rfl) ?_
    refine lv_bipush (v := -2) hx hb dX6_farthest_19 (by decide) ?_
    obtain ⟨r21, h21, h⟩ := bnd h
    refine g_calli0 (isC := [0]) (gn := fun _ => [wRM g ad eK eT r21.2]) (g_runV (isC := [0]) (rest := []) (As := [.int (-2 : Int32)]) X hw (c_X6_refuse l (ad := ad) (eK := eK) (eT := eT) h21) rfl kM_X6_refuse ki_X6_refuse ks_X6_refuse km_X6_96 ⟨(Nat.le_of_ble_eq_true rfl), (Nat.le_of_ble_eq_true rfl)⟩ ⟨(Nat.le_of_ble_eq_true rfl), (Nat.le_of_ble_eq_true rfl)⟩ rfl rfl ⟨_, _, _, _, rfl, rfl, rfl, rfl⟩ rfl hl.1 rfl (Nat.le_of_ble_eq_true rfl) dX6_farthest_21) hw rfl rfl (fun _ => (Nat.le_of_ble_eq_true rfl)) (fun _ => rfl) rfl rfl (fun _ H locs hw => ?_)
    have h := Option.some.inj h
    subst h
    exact hret () dX6_farthest_24 rfl hw
  unfold M_X6_farthest at h
  refine lv_aload_n hx hb dX6_farthest_0 rfl (lv_at hl 0 rfl) ?_
  refine lv_iload_n hx hb dX6_farthest_1 rfl (lv_at hl 1 rfl) ?_
  obtain ⟨r2, h2, h⟩ := bnd h
  refine g_calli0 (isC := [0]) (gn := fun _ => [wRM g ad eK eT rm]) (g_runV (isC := [0]) (rest := []) (As := [.int p1]) X hw (c_X6_isBar l (ad := ad) (eK := eK) (eT := eT) h2) rfl kM_X6_isBar ki_X6_isBar ks_X6_isBar km_X6_106 ⟨(Nat.le_of_ble_eq_true rfl), (Nat.le_of_ble_eq_true rfl)⟩ ⟨(Nat.le_of_ble_eq_true rfl), (Nat.le_of_ble_eq_true rfl)⟩ rfl rfl ⟨_, _, _, _, rfl, rfl, rfl, rfl⟩ rfl hl.1 rfl (Nat.le_of_ble_eq_true rfl) dX6_farthest_2) hw rfl rfl (fun _ => (Nat.le_of_ble_eq_true rfl)) (fun _ => rfl) rfl rfl (fun _ H locs hw => ?_)
  refine lv_if_eq (tgt := 18) hx hb dX6_farthest_5 (by decide) (fun k5 => ?_) (fun k5 => ?_)
  · have h := itt k5 h
    exact J18 _ h _ _ _ hw (lv_sub hl [0] rfl)
  · have h := itf k5 h
    refine lv_iload_n hx hb dX6_farthest_8 rfl (lv_at hl 2 rfl) ?_
    refine lv_i2l (v := p2.toInt64) hx hb dX6_farthest_9 rfl ?_
    refine lv_lconst (v := 0) hx hb dX6_farthest_10 (by decide) ?_
    refine lv_lconst (v := 1) hx hb dX6_farthest_11 (by decide) ?_
    obtain ⟨r12, h12, h⟩ := bnd h
    refine g_calli0 (isC := []) (gn := fun _ => [wRM g ad eK eT rm]) (g_runS (isC := []) (rest := []) (As := [.long p2.toInt64, .long (0 : Int64), .long (1 : Int64)]) X hw (c_X6_in l h12) rfl kM_X6_in kt_X6_in km_X6_82 ⟨(Nat.le_of_ble_eq_true rfl), (Nat.le_of_ble_eq_true rfl)⟩ ⟨(Nat.le_of_ble_eq_true rfl), (Nat.le_of_ble_eq_true rfl)⟩ rfl rfl rfl hl.1 rfl (Nat.le_of_ble_eq_true rfl) dX6_farthest_12) hw rfl rfl (fun _ => (Nat.le_of_ble_eq_true rfl)) (fun _ => rfl) rfl rfl (fun _ H locs hw => ?_)
    refine lv_if_ne (tgt := 25) hx hb dX6_farthest_15 (by decide) (fun k15 => ?_) (fun k15 => ?_)
    · have h := itt k15 h
      refine lv_aload_n hx hb dX6_farthest_25 rfl (lv_at hl 0 rfl) ?_
      refine lv_iload_n hx hb dX6_farthest_26 rfl (lv_at hl 1 rfl) ?_
      refine lv_aload_n hx hb dX6_farthest_27 rfl (lv_at hl 0 rfl) ?_
      refine RM_g_on X hw 0 rfl kf_X6_43 dX6_farthest_28 ?_
      refine lv_iload_n hx hb dX6_farthest_31 rfl (lv_at hl 1 rfl) ?_
      obtain ⟨q32, h⟩ := chk h
      refine RM_l_on X hw 0 rfl q32 dX6_farthest_32 ?_
      refine lv_iconst (v := 1) hx hb dX6_farthest_33 (by decide) ?_
      obtain ⟨r34, h34, h⟩ := bnd h
      refine g_callv0 (isC := [0]) (gn := fun _ => [wRM g ad eK eT r34]) (g_runV (isC := [0]) (rest := []) (As := [.int p1, .int (RM_on rm p1.toNatClampNeg), .int (1 : Int32)]) X hw (c_X6_findFar l (ad := ad) (eK := eK) (eT := eT) h34) rfl kM_X6_findFar ki_X6_findFar ks_X6_findFar km_X6_269 ⟨(Nat.le_of_ble_eq_true rfl), (Nat.le_of_ble_eq_true rfl)⟩ ⟨(Nat.le_of_ble_eq_true rfl), (Nat.le_of_ble_eq_true rfl)⟩ rfl rfl ⟨_, _, _, _, rfl, rfl, rfl, rfl⟩ rfl hl.1 rfl (Nat.le_of_ble_eq_true rfl) dX6_farthest_34) hw rfl rfl (fun _ => (Nat.le_of_ble_eq_true rfl)) (fun _ => rfl) rfl rfl (fun _ H locs hw => ?_)
      refine lv_aload_n hx hb dX6_farthest_37 rfl (lv_at hl 0 rfl) ?_
      refine RM_g_on X hw 0 rfl kf_X6_43 dX6_farthest_38 ?_
      refine lv_iload_n hx hb dX6_farthest_41 rfl (lv_at hl 1 rfl) ?_
      obtain ⟨q42, h⟩ := chk h
      refine RM_l_on X hw 0 rfl q42 dX6_farthest_42 ?_
      refine lv_istore_n (lv' := [(3, .int (RM_on r34 p1.toNatClampNeg)), (0, .ref (ad 0)), (1, .int p1), (2, .int p2)]) hx hb dX6_farthest_43 rfl hl (by decide) rfl (fun ls hl => ?_)
      refine lv_iconst (v := 0) hx hb dX6_farthest_44 (by decide) ?_
      refine lv_istore (lv' := [(4, .int (0 : Int32)), (3, .int (RM_on r34 p1.toNatClampNeg)), (0, .ref (ad 0)), (1, .int p1), (2, .int p2)]) hx hb dX6_farthest_45 hl (by decide) rfl (fun ls hl => ?_)
      exact L47 N _ h _ _ _ hw (lv_sub hl [2, 3, 4, 1, 0] rfl)
    · have h := itf (fun z => z k15) h
      exact J18 _ h _ _ _ hw (lv_sub hl [0] rfl)
theorem kM_X6_arePair : kM yX6_arePair cX6_arePair 4 (some FieldType.boolean) 3 := ⟨kc_X6_arePair, kn_RingsOffModel, by decide +kernel⟩
abbrev R_X6_arePair : Room := { frames := 4, cells := 0, slots := 0, locals := 92 }
set_option maxHeartbeats 4000000 in
set_option maxRecDepth 100000 in
theorem c_X6_arePair (l : Launch) {ad : Nat → Nat} {eK : Option Nat} {eT : Option Nat} {N : Nat} {rm : RM} {p1 : Int32} {p2 : Int32} {p3 : Int32} {out : Int32} (h : M_X6_arePair N rm p1 p2 p3 = some out) : gM l yX6_arePair cX6_arePair 4 (some FieldType.boolean) R_X6_arePair (fun _ => [.ref (ad 0), .int p1, .int p2, .int p3]) (fun g => [wRM g ad eK eT rm]) (gQi (fun (_ : Unit) => out) (fun g (_ : Unit) => [wRM g ad eK eT rm])) := by
  refine gM.ofz (by decide +kernel) (fun _ => Nat.le_of_ble_eq_true rfl) (fun g p e s m args below meth c A ls Q X hret hw hl => ?_)
  have hx := X.1.1
  have hb := X.1.2.1
  have hl : lv_has ls 4 [(0, .ref (ad 0)), (1, .int p1), (2, .int p2), (3, .int p3)] := hl
  unfold M_X6_arePair at h
  refine lv_aload_n hx hb dX6_arePair_0 rfl (lv_at hl 0 rfl) ?_
  refine lv_iload_n hx hb dX6_arePair_1 rfl (lv_at hl 1 rfl) ?_
  refine lv_iload_n hx hb dX6_arePair_2 rfl (lv_at hl 3 rfl) ?_
  obtain ⟨r3, h3, h⟩ := bnd h
  refine g_calli0 (isC := [0]) (gn := fun _ => [wRM g ad eK eT rm]) (g_runV (isC := [0]) (rest := []) (As := [.int p1, .int p3]) X hw (c_X6_isMove l (ad := ad) (eK := eK) (eT := eT) h3) rfl kM_X6_isMove ki_X6_isMove ks_X6_isMove km_X6_256 ⟨(Nat.le_of_ble_eq_true rfl), (Nat.le_of_ble_eq_true rfl)⟩ ⟨(Nat.le_of_ble_eq_true rfl), (Nat.le_of_ble_eq_true rfl)⟩ rfl rfl ⟨_, _, _, _, rfl, rfl, rfl, rfl⟩ rfl hl.1 rfl (Nat.le_of_ble_eq_true rfl) dX6_arePair_3) hw rfl rfl (fun _ => (Nat.le_of_ble_eq_true rfl)) (fun _ => rfl) rfl rfl (fun _ H locs hw => ?_)
  refine lv_if_eq (tgt := 38) hx hb dX6_arePair_6 (by decide) (fun k6 => ?_) (fun k6 => ?_)
  · have h := itt k6 h
    refine lv_iconst (v := 0) hx hb dX6_arePair_38 (by decide) ?_
    have h := Option.some.inj h
    subst h
    exact hret () dX6_arePair_39 (by decide) rfl hw
  · have h := itf k6 h
    refine lv_aload_n hx hb dX6_arePair_9 rfl (lv_at hl 0 rfl) ?_
    refine lv_iload_n hx hb dX6_arePair_10 rfl (lv_at hl 1 rfl) ?_
    refine lv_iload_n hx hb dX6_arePair_11 rfl (lv_at hl 2 rfl) ?_
    refine lv_iload_n hx hb dX6_arePair_12 rfl (lv_at hl 3 rfl) ?_
    obtain ⟨r13, h13, h⟩ := bnd h
    refine g_calli0 (isC := [0]) (gn := fun _ => [wRM g ad eK eT rm]) (g_runV (isC := [0]) (rest := []) (As := [.int p1, .int p2, .int p3]) X hw (c_X6_mayAt l (ad := ad) (eK := eK) (eT := eT) h13) rfl kM_X6_mayAt ki_X6_mayAt ks_X6_mayAt km_X6_131 ⟨(Nat.le_of_ble_eq_true rfl), (Nat.le_of_ble_eq_true rfl)⟩ ⟨(Nat.le_of_ble_eq_true rfl), (Nat.le_of_ble_eq_true rfl)⟩ rfl rfl ⟨_, _, _, _, rfl, rfl, rfl, rfl⟩ rfl hl.1 rfl (Nat.le_of_ble_eq_true rfl) dX6_arePair_13) hw rfl rfl (fun _ => (Nat.le_of_ble_eq_true rfl)) (fun _ => rfl) rfl rfl (fun _ H locs hw => ?_)
    refine lv_if_ne (tgt := 34) hx hb dX6_arePair_16 (by decide) (fun k16 => ?_) (fun k16 => ?_)
    · have h := itt k16 h
      refine lv_iconst (v := 1) hx hb dX6_arePair_34 (by decide) ?_
      refine lv_goto (tgt := 39) hx hb dX6_arePair_35 (by decide) ?_
      have h := Option.some.inj h
      subst h
      exact hret () dX6_arePair_39 (by decide) rfl hw
    · have h := itf (fun z => z k16) h
      refine lv_aload_n hx hb dX6_arePair_19 rfl (lv_at hl 0 rfl) ?_
      refine lv_iload_n hx hb dX6_arePair_20 rfl (lv_at hl 1 rfl) ?_
      refine lv_iload_n hx hb dX6_arePair_21 rfl (lv_at hl 2 rfl) ?_
      refine lv_iload_n hx hb dX6_arePair_22 rfl (lv_at hl 3 rfl) ?_
      obtain ⟨r23, h23, h⟩ := bnd h
      refine g_calli0 (isC := []) (gn := fun _ => [wRM g ad eK eT rm]) (g_runS (isC := []) (rest := [.int p2, .int p1, .ref (ad 0)]) (As := [.int p3]) X hw (c_X6_mask l h23) rfl kM_X6_mask kt_X6_mask km_X6_212 ⟨(Nat.le_of_ble_eq_true rfl), (Nat.le_of_ble_eq_true rfl)⟩ ⟨(Nat.le_of_ble_eq_true rfl), (Nat.le_of_ble_eq_true rfl)⟩ rfl rfl rfl hl.1 rfl (Nat.le_of_ble_eq_true rfl) dX6_arePair_23) hw rfl rfl (fun _ => (Nat.le_of_ble_eq_true rfl)) (fun _ => rfl) rfl rfl (fun _ H locs hw => ?_)
      refine lv_ixor hx hb dX6_arePair_26 ?_
      refine lv_iload_n hx hb dX6_arePair_27 rfl (lv_at hl 3 rfl) ?_
      obtain ⟨r28, h28, h⟩ := bnd h
      refine g_calli0 (isC := [0]) (gn := fun _ => [wRM g ad eK eT rm]) (g_runV (isC := [0]) (rest := []) (As := [.int p1, .int (p2 ^^^ r23), .int p3]) X hw (c_X6_mayAt l (ad := ad) (eK := eK) (eT := eT) h28) rfl kM_X6_mayAt ki_X6_mayAt ks_X6_mayAt km_X6_131 ⟨(Nat.le_of_ble_eq_true rfl), (Nat.le_of_ble_eq_true rfl)⟩ ⟨(Nat.le_of_ble_eq_true rfl), (Nat.le_of_ble_eq_true rfl)⟩ rfl rfl ⟨_, _, _, _, rfl, rfl, rfl, rfl⟩ rfl hl.1 rfl (Nat.le_of_ble_eq_true rfl) dX6_arePair_28) hw rfl rfl (fun _ => (Nat.le_of_ble_eq_true rfl)) (fun _ => rfl) rfl rfl (fun _ H locs hw => ?_)
      refine lv_if_eq (tgt := 38) hx hb dX6_arePair_31 (by decide) (fun k31 => ?_) (fun k31 => ?_)
      · have h := itt k31 h
        refine lv_iconst (v := 0) hx hb dX6_arePair_38 (by decide) ?_
        have h := Option.some.inj h
        subst h
        exact hret () dX6_arePair_39 (by decide) rfl hw
      · have h := itf k31 h
        refine lv_iconst (v := 1) hx hb dX6_arePair_34 (by decide) ?_
        refine lv_goto (tgt := 39) hx hb dX6_arePair_35 (by decide) ?_
        have h := Option.some.inj h
        subst h
        exact hret () dX6_arePair_39 (by decide) rfl hw
theorem kM_X6_shape : kM yX6_shape cX6_shape 9 (some FieldType.int) 1 := ⟨kc_X6_shape, kn_RingsOffModel, by decide +kernel⟩
abbrev R_X6_shape : Room := { frames := 5, cells := 0, slots := 0, locals := 118 }
set_option maxHeartbeats 4000000 in
set_option maxRecDepth 100000 in
theorem c_X6_shape (l : Launch) {ad : Nat → Nat} {eK : Option Nat} {eT : Option Nat} {N : Nat} {rm : RM} {p1 : Int32} {out : Int32 × RM} (h : M_X6_shape N rm p1 = some out) : gM l yX6_shape cX6_shape 9 (some FieldType.int) R_X6_shape (fun _ => [.ref (ad 0), .int p1]) (fun g => [wRM g ad eK eT rm]) (gQi (fun (_ : Unit) => out.1) (fun g (_ : Unit) => [wRM g ad eK eT out.2])) := by
  refine gM.ofi (by decide +kernel) (fun _ => Nat.le_of_ble_eq_true rfl) (fun g p e s m args below meth c A ls Q X hret hw hl => ?_)
  have hx := X.1.1
  have hb := X.1.2.1
  have hl : lv_has ls 9 [(0, .ref (ad 0)), (1, .int p1)] := hl
  have L37 : ∀ (n : Nat) (z37 : RM × Int32 × Int32 × Int32 × Int32), lp (M_X6_shape_l37 N p1) n z37 = some out → ∀ (H : Heap) (locs : List Loc) (ls : Array Slot), gW g A s.heap [wRM g ad eK eT z37.1] H locs → lv_has ls 9 [(0, .ref (ad 0)), (1, .int p1), (2, .int z37.2.1), (3, .int z37.2.2.1), (4, .int z37.2.2.2.1), (5, .int z37.2.2.2.2)] → W p l e R_X6_shape s m args below meth c H locs 0 0 Q (F0 m 37 ls []) := by
    refine lp_ind ?_
    intro rec37 ih37
    have J152 : ∀ (z152 : RM × Int32 × Int32 × Int32 × Int32), M_X6_shape_j152 N p1 rec37 z152 = some out → ∀ (H : Heap) (locs : List Loc) (ls : Array Slot), gW g A s.heap [wRM g ad eK eT z152.1] H locs → lv_has ls 9 [(0, .ref (ad 0)), (1, .int p1), (2, .int z152.2.1), (3, .int z152.2.2.1), (4, .int z152.2.2.2.1), (5, .int z152.2.2.2.2)] → W p l e R_X6_shape s m args below meth c H locs 0 0 Q (F0 m 152 ls []) := by
      intro z152 h H locs ls hw hl
      unfold M_X6_shape_j152 at h
      refine lv_iinc (v := (z152.2.2.2.2 + 1)) (lv' := [(5, .int (z152.2.2.2.2 + 1)), (0, .ref (ad 0)), (1, .int p1), (2, .int z152.2.1), (3, .int z152.2.2.1), (4, .int z152.2.2.2.1)]) hx hb dX6_shape_152 hl (k := 5) rfl rfl (by decide) rfl (fun ls hl => ?_)
      refine lv_goto (tgt := 37) hx hb dX6_shape_155 (by decide) ?_
      exact ih37 _ h _ _ _ hw (lv_sub hl [1, 2, 3, 4, 5, 0] rfl)
    have J150 : ∀ (z150 : RM × Int32 × Int32 × Int32 × Int32), M_X6_shape_j150 N p1 rec37 z150 = some out → ∀ (H : Heap) (locs : List Loc) (ls : Array Slot), gW g A s.heap [wRM g ad eK eT z150.1] H locs → lv_has ls 9 [(0, .ref (ad 0)), (1, .int p1), (2, .int z150.2.1), (3, .int z150.2.2.1), (5, .int z150.2.2.2.1)] → W p l e R_X6_shape s m args below meth c H locs 0 0 Q (F0 m 150 ls [.int z150.2.2.2.2]) := by
      intro z150 h H locs ls hw hl
      unfold M_X6_shape_j150 at h
      refine lv_istore (lv' := [(4, .int z150.2.2.2.2), (0, .ref (ad 0)), (1, .int p1), (2, .int z150.2.1), (3, .int z150.2.2.1), (5, .int z150.2.2.2.1)]) hx hb dX6_shape_150 hl (by decide) rfl (fun ls hl => ?_)
      exact J152 _ h _ _ _ hw (lv_sub hl [1, 2, 3, 4, 0, 5] rfl)
    have L64 : ∀ (n : Nat) (z64 : RM × Int32 × Int32 × Int32 × Int32 × Int32 × Int32), lp (M_X6_shape_l64 N p1 rec37) n z64 = some out → ∀ (H : Heap) (locs : List Loc) (ls : Array Slot), gW g A s.heap [wRM g ad eK eT z64.1] H locs → lv_has ls 9 [(0, .ref (ad 0)), (1, .int p1), (2, .int z64.2.1), (3, .int z64.2.2.1), (4, .int z64.2.2.2.1), (5, .int z64.2.2.2.2.1), (6, .int z64.2.2.2.2.2.1), (7, .int z64.2.2.2.2.2.2)] → W p l e R_X6_shape s m args below meth c H locs 0 0 Q (F0 m 64 ls []) := by
      refine lp_ind ?_
      intro rec64 ih64
      have J119 : ∀ (z119 : RM × Int32 × Int32 × Int32 × Int32 × Int32 × Int32 × Int32), M_X6_shape_j119 N p1 rec37 rec64 z119 = some out → ∀ (H : Heap) (locs : List Loc) (ls : Array Slot), gW g A s.heap [wRM g ad eK eT z119.1] H locs → lv_has ls 9 [(0, .ref (ad 0)), (1, .int p1), (2, .int z119.2.1), (3, .int z119.2.2.1), (4, .int z119.2.2.2.1), (5, .int z119.2.2.2.2.1), (7, .int z119.2.2.2.2.2.1)] → W p l e R_X6_shape s m args below meth c H locs 0 0 Q (F0 m 119 ls [.int z119.2.2.2.2.2.2.2, .int z119.2.2.2.2.2.2.1]) := by
        intro z119 h H locs ls hw hl
        unfold M_X6_shape_j119 at h
        refine lv_iadd hx hb dX6_shape_119 ?_
        refine lv_istore (lv' := [(6, .int (z119.2.2.2.2.2.2.1 + z119.2.2.2.2.2.2.2)), (0, .ref (ad 0)), (1, .int p1), (2, .int z119.2.1), (3, .int z119.2.2.1), (4, .int z119.2.2.2.1), (5, .int z119.2.2.2.2.1), (7, .int z119.2.2.2.2.2.1)]) hx hb dX6_shape_120 hl (by decide) rfl (fun ls hl => ?_)
        refine lv_iinc (v := (z119.2.2.2.2.2.1 + 1)) (lv' := [(7, .int (z119.2.2.2.2.2.1 + 1)), (6, .int (z119.2.2.2.2.2.2.1 + z119.2.2.2.2.2.2.2)), (0, .ref (ad 0)), (1, .int p1), (2, .int z119.2.1), (3, .int z119.2.2.1), (4, .int z119.2.2.2.1), (5, .int z119.2.2.2.2.1)]) hx hb dX6_shape_122 hl (k := 7) rfl rfl (by decide) rfl (fun ls hl => ?_)
        refine lv_goto (tgt := 64) hx hb dX6_shape_125 (by decide) ?_
        exact ih64 _ h _ _ _ hw (lv_sub hl [2, 3, 4, 5, 6, 7, 1, 0] rfl)
      have J105 : ∀ (z105 : RM × Int32 × Int32 × Int32 × Int32 × Int32 × Int32 × Int32), M_X6_shape_j105 N p1 rec37 rec64 z105 = some out → ∀ (H : Heap) (locs : List Loc) (ls : Array Slot), gW g A s.heap [wRM g ad eK eT z105.1] H locs → lv_has ls 9 [(0, .ref (ad 0)), (1, .int p1), (2, .int z105.2.1), (3, .int z105.2.2.1), (4, .int z105.2.2.2.1), (5, .int z105.2.2.2.2.1), (6, .int z105.2.2.2.2.2.1), (7, .int z105.2.2.2.2.2.2.1)] → W p l e R_X6_shape s m args below meth c H locs 0 0 Q (F0 m 105 ls [.int z105.2.2.2.2.2.2.2]) := by
        intro z105 h H locs ls hw hl
        unfold M_X6_shape_j105 at h
        refine lv_istore (lv' := [(8, .int z105.2.2.2.2.2.2.2), (0, .ref (ad 0)), (1, .int p1), (2, .int z105.2.1), (3, .int z105.2.2.1), (4, .int z105.2.2.2.1), (5, .int z105.2.2.2.2.1), (6, .int z105.2.2.2.2.2.1), (7, .int z105.2.2.2.2.2.2.1)]) hx hb dX6_shape_105 hl (by decide) rfl (fun ls hl => ?_)
        refine lv_iload hx hb dX6_shape_107 (lv_at hl 7 rfl) ?_
        refine lv_iload hx hb dX6_shape_109 (lv_at hl 0 rfl) ?_
        refine lv_if_eq (tgt := 118) hx hb dX6_shape_111 (by decide) (fun k111 => ?_) (fun k111 => ?_)
        · have h := itt k111 h
          refine lv_iconst (v := 0) hx hb dX6_shape_118 (by decide) ?_
          exact J119 _ h _ _ _ hw (lv_sub hl [1, 2, 3, 4, 5, 6, 8] rfl)
        · have h := itf k111 h
          refine lv_iconst (v := 1) hx hb dX6_shape_114 (by decide) ?_
          refine lv_goto (tgt := 119) hx hb dX6_shape_115 (by decide) ?_
          exact J119 _ h _ _ _ hw (lv_sub hl [1, 2, 3, 4, 5, 6, 8] rfl)
      have J104 : ∀ (z104 : RM × Int32 × Int32 × Int32 × Int32 × Int32 × Int32), M_X6_shape_j104 N p1 rec37 rec64 z104 = some out → ∀ (H : Heap) (locs : List Loc) (ls : Array Slot), gW g A s.heap [wRM g ad eK eT z104.1] H locs → lv_has ls 9 [(0, .ref (ad 0)), (1, .int p1), (2, .int z104.2.1), (3, .int z104.2.2.1), (4, .int z104.2.2.2.1), (5, .int z104.2.2.2.2.1), (6, .int z104.2.2.2.2.2.1), (7, .int z104.2.2.2.2.2.2)] → W p l e R_X6_shape s m args below meth c H locs 0 0 Q (F0 m 104 ls []) := by
        intro z104 h H locs ls hw hl
        unfold M_X6_shape_j104 at h
        refine lv_iconst (v := 0) hx hb dX6_shape_104 (by decide) ?_
        exact J105 _ h _ _ _ hw (lv_sub hl [0, 1, 2, 3, 4, 5, 6, 7] rfl)
      intro z64 h H locs ls hw hl
      unfold M_X6_shape_l64 at h
      refine lv_iload hx hb dX6_shape_64 (lv_at hl 7 rfl) ?_
      refine lv_bipush (v := 20) hx hb dX6_shape_66 (by decide) ?_
      refine lv_icmp_gt (tgt := 128) hx hb dX6_shape_68 (by decide) (fun k68 => ?_) (fun k68 => ?_)
      · have h := itt k68 h
        refine lv_iinc (v := (z64.2.1 + 1)) (lv' := [(2, .int (z64.2.1 + 1)), (0, .ref (ad 0)), (1, .int p1), (3, .int z64.2.2.1), (4, .int z64.2.2.2.1), (5, .int z64.2.2.2.2.1), (6, .int z64.2.2.2.2.2.1), (7, .int z64.2.2.2.2.2.2)]) hx hb dX6_shape_128 hl (k := 2) rfl rfl (by decide) rfl (fun ls hl => ?_)
        refine lv_iload_n hx hb dX6_shape_131 rfl (lv_at hl 3 rfl) ?_
        refine lv_iload hx hb dX6_shape_132 (lv_at hl 6 rfl) ?_
        refine lv_iadd hx hb dX6_shape_134 ?_
        refine lv_istore_n (lv' := [(3, .int (z64.2.2.1 + z64.2.2.2.2.2.1)), (2, .int (z64.2.1 + 1)), (0, .ref (ad 0)), (1, .int p1), (4, .int z64.2.2.2.1), (5, .int z64.2.2.2.2.1), (6, .int z64.2.2.2.2.2.1), (7, .int z64.2.2.2.2.2.2)]) hx hb dX6_shape_135 rfl hl (by decide) rfl (fun ls hl => ?_)
        refine lv_iload hx hb dX6_shape_136 (lv_at hl 6 rfl) ?_
        refine lv_iload hx hb dX6_shape_138 (lv_at hl 4 rfl) ?_
        refine lv_icmp_le (tgt := 148) hx hb dX6_shape_140 (by decide) (fun k140 => ?_) (fun k140 => ?_)
        · have h := itt k140 h
          refine lv_iload hx hb dX6_shape_148 (lv_at hl 4 rfl) ?_
          exact J150 _ h _ _ _ hw (lv_sub hl [2, 3, 1, 0, 5] rfl)
        · have h := itf k140 h
          refine lv_iload hx hb dX6_shape_143 (lv_at hl 6 rfl) ?_
          refine lv_goto (tgt := 150) hx hb dX6_shape_145 (by decide) ?_
          exact J150 _ h _ _ _ hw (lv_sub hl [2, 3, 1, 0, 5] rfl)
      · have h := itf k68 h
        refine lv_aload_n hx hb dX6_shape_71 rfl (lv_at hl 0 rfl) ?_
        refine lv_iload_n hx hb dX6_shape_72 rfl (lv_at hl 1 rfl) ?_
        refine lv_iload hx hb dX6_shape_73 (lv_at hl 5 rfl) ?_
        refine lv_iload hx hb dX6_shape_75 (lv_at hl 7 rfl) ?_
        obtain ⟨r77, h77, h⟩ := bnd h
        refine g_calli0 (isC := [0]) (gn := fun _ => [wRM g ad eK eT z64.1]) (g_runV (isC := [0]) (rest := []) (As := [.int p1, .int z64.2.2.2.2.1, .int z64.2.2.2.2.2.2]) X hw (c_X6_arePair l (ad := ad) (eK := eK) (eT := eT) h77) rfl kM_X6_arePair ki_X6_arePair ks_X6_arePair km_X6_276 ⟨(Nat.le_of_ble_eq_true rfl), (Nat.le_of_ble_eq_true rfl)⟩ ⟨(Nat.le_of_ble_eq_true rfl), (Nat.le_of_ble_eq_true rfl)⟩ rfl rfl ⟨_, _, _, _, rfl, rfl, rfl, rfl⟩ rfl hl.1 rfl (Nat.le_of_ble_eq_true rfl) dX6_shape_77) hw rfl rfl (fun _ => (Nat.le_of_ble_eq_true rfl)) (fun _ => rfl) rfl rfl (fun _ H locs hw => ?_)
        refine lv_if_eq (tgt := 104) hx hb dX6_shape_80 (by decide) (fun k80 => ?_) (fun k80 => ?_)
        · have h := itt k80 h
          exact J104 _ h _ _ _ hw (lv_sub hl [0, 1, 2, 3, 4, 5, 6, 7] rfl)
        · have h := itf k80 h
          refine lv_aload_n hx hb dX6_shape_83 rfl (lv_at hl 0 rfl) ?_
          refine RM_g_far X hw 0 rfl kf_X6_67 dX6_shape_84 ?_
          refine lv_iload hx hb dX6_shape_87 (lv_at hl 5 rfl) ?_
          refine lv_iload hx hb dX6_shape_89 (lv_at hl 7 rfl) ?_
          obtain ⟨r91, h91, h⟩ := bnd h
          refine g_calli0 (isC := []) (gn := fun _ => [wRM g ad eK eT z64.1]) (g_runS (isC := []) (rest := [.int z64.2.2.2.2.1, .ref (ad 33)]) (As := [.int z64.2.2.2.2.2.2]) X hw (c_X6_mask l h91) rfl kM_X6_mask kt_X6_mask km_X6_212 ⟨(Nat.le_of_ble_eq_true rfl), (Nat.le_of_ble_eq_true rfl)⟩ ⟨(Nat.le_of_ble_eq_true rfl), (Nat.le_of_ble_eq_true rfl)⟩ rfl rfl rfl hl.1 rfl (Nat.le_of_ble_eq_true rfl) dX6_shape_91) hw rfl rfl (fun _ => (Nat.le_of_ble_eq_true rfl)) (fun _ => rfl) rfl rfl (fun _ H locs hw => ?_)
          refine lv_ixor hx hb dX6_shape_94 ?_
          obtain ⟨q95, h⟩ := chk h
          refine RM_l_far X hw 0 rfl q95 dX6_shape_95 ?_
          refine lv_iconst (v := -1) hx hb dX6_shape_96 (by decide) ?_
          refine lv_icmp_eq (tgt := 104) hx hb dX6_shape_97 (by decide) (fun k97 => ?_) (fun k97 => ?_)
          · have h := itt k97 h
            exact J104 _ h _ _ _ hw (lv_sub hl [0, 1, 2, 3, 4, 5, 6, 7] rfl)
          · have h := itf k97 h
            refine lv_iconst (v := 1) hx hb dX6_shape_100 (by decide) ?_
            refine lv_goto (tgt := 105) hx hb dX6_shape_101 (by decide) ?_
            exact J105 _ h _ _ _ hw (lv_sub hl [0, 1, 2, 3, 4, 5, 6, 7] rfl)
    intro z37 h H locs ls hw hl
    unfold M_X6_shape_l37 at h
    refine lv_iload hx hb dX6_shape_37 (lv_at hl 5 rfl) ?_
    refine lv_aload_n hx hb dX6_shape_39 rfl (lv_at hl 0 rfl) ?_
    refine lv_iload_n hx hb dX6_shape_40 rfl (lv_at hl 1 rfl) ?_
    obtain ⟨r41, h41, h⟩ := bnd h
    refine g_calli0 (isC := [0]) (gn := fun _ => [wRM g ad eK eT z37.1]) (g_runV (isC := [0]) (rest := [.int z37.2.2.2.2]) (As := [.int p1]) X hw (c_X6_all l (ad := ad) (eK := eK) (eT := eT) h41) rfl kM_X6_all ki_X6_all ks_X6_all km_X6_86 ⟨(Nat.le_of_ble_eq_true rfl), (Nat.le_of_ble_eq_true rfl)⟩ ⟨(Nat.le_of_ble_eq_true rfl), (Nat.le_of_ble_eq_true rfl)⟩ rfl rfl ⟨_, _, _, _, rfl, rfl, rfl, rfl⟩ rfl hl.1 rfl (Nat.le_of_ble_eq_true rfl) dX6_shape_41) hw rfl rfl (fun _ => (Nat.le_of_ble_eq_true rfl)) (fun _ => rfl) rfl rfl (fun _ H locs hw => ?_)
    refine lv_icmp_gt (tgt := 158) hx hb dX6_shape_44 (by decide) (fun k44 => ?_) (fun k44 => ?_)
    · have h := itt k44 h
      refine lv_iload_n hx hb dX6_shape_158 rfl (lv_at hl 3 rfl) ?_
      refine lv_iconst (v := 2) hx hb dX6_shape_159 (by decide) ?_
      obtain ⟨q160, h⟩ := chk h
      refine lv_idiv hx hb dX6_shape_160 q160 ?_
      refine lv_iload_n hx hb dX6_shape_161 rfl (lv_at hl 2 rfl) ?_
      refine lv_icmp_lt (tgt := 169) hx hb dX6_shape_162 (by decide) (fun k162 => ?_) (fun k162 => ?_)
      · have h := itt k162 h
        refine lv_iload hx hb dX6_shape_169 (lv_at hl 4 rfl) ?_
        refine lv_iconst (v := 2) hx hb dX6_shape_171 (by decide) ?_
        refine lv_icmp_gt (tgt := 179) hx hb dX6_shape_172 (by decide) (fun k172 => ?_) (fun k172 => ?_)
        · have h := itt k172 h
          refine lv_iconst (v := 1) hx hb dX6_shape_179 (by decide) ?_
          have h := Option.some.inj h
          subst h
          exact hret () dX6_shape_180 rfl hw
        · have h := itf k172 h
          refine lv_iconst (v := 0) hx hb dX6_shape_175 (by decide) ?_
          refine lv_goto (tgt := 180) hx hb dX6_shape_176 (by decide) ?_
          have h := Option.some.inj h
          subst h
          exact hret () dX6_shape_180 rfl hw
      · have h := itf k162 h
        refine lv_iconst (v := 2) hx hb dX6_shape_165 (by decide) ?_
        refine lv_goto (tgt := 180) hx hb dX6_shape_166 (by decide) ?_
        have h := Option.some.inj h
        subst h
        exact hret () dX6_shape_180 rfl hw
    · have h := itf k44 h
      refine lv_aload_n hx hb dX6_shape_47 rfl (lv_at hl 0 rfl) ?_
      refine RM_g_far X hw 0 rfl kf_X6_67 dX6_shape_48 ?_
      refine lv_iload hx hb dX6_shape_51 (lv_at hl 5 rfl) ?_
      obtain ⟨q53, h⟩ := chk h
      refine RM_l_far X hw 0 rfl q53 dX6_shape_53 ?_
      refine lv_iconst (v := -1) hx hb dX6_shape_54 (by decide) ?_
      refine lv_icmp_eq (tgt := 152) hx hb dX6_shape_55 (by decide) (fun k55 => ?_) (fun k55 => ?_)
      · have h := itt k55 h
        exact J152 _ h _ _ _ hw (lv_sub hl [0, 1, 2, 3, 4, 5] rfl)
      · have h := itf k55 h
        refine lv_iconst (v := 0) hx hb dX6_shape_58 (by decide) ?_
        refine lv_istore (lv' := [(6, .int (0 : Int32)), (0, .ref (ad 0)), (1, .int p1), (2, .int z37.2.1), (3, .int z37.2.2.1), (4, .int z37.2.2.2.1), (5, .int z37.2.2.2.2)]) hx hb dX6_shape_59 hl (by decide) rfl (fun ls hl => ?_)
        refine lv_iconst (v := 0) hx hb dX6_shape_61 (by decide) ?_
        refine lv_istore (lv' := [(7, .int (0 : Int32)), (6, .int (0 : Int32)), (0, .ref (ad 0)), (1, .int p1), (2, .int z37.2.1), (3, .int z37.2.2.1), (4, .int z37.2.2.2.1), (5, .int z37.2.2.2.2)]) hx hb dX6_shape_62 hl (by decide) rfl (fun ls hl => ?_)
        exact L64 N _ h _ _ _ hw (lv_sub hl [2, 3, 4, 5, 6, 7, 1, 0] rfl)
  unfold M_X6_shape at h
  refine lv_aload_n hx hb dX6_shape_0 rfl (lv_at hl 0 rfl) ?_
  refine lv_iload_n hx hb dX6_shape_1 rfl (lv_at hl 1 rfl) ?_
  obtain ⟨r2, h2, h⟩ := bnd h
  refine g_calli0 (isC := [0]) (gn := fun _ => [wRM g ad eK eT rm]) (g_runV (isC := [0]) (rest := []) (As := [.int p1]) X hw (c_X6_isBar l (ad := ad) (eK := eK) (eT := eT) h2) rfl kM_X6_isBar ki_X6_isBar ks_X6_isBar km_X6_106 ⟨(Nat.le_of_ble_eq_true rfl), (Nat.le_of_ble_eq_true rfl)⟩ ⟨(Nat.le_of_ble_eq_true rfl), (Nat.le_of_ble_eq_true rfl)⟩ rfl rfl ⟨_, _, _, _, rfl, rfl, rfl, rfl⟩ rfl hl.1 rfl (Nat.le_of_ble_eq_true rfl) dX6_shape_2) hw rfl rfl (fun _ => (Nat.le_of_ble_eq_true rfl)) (fun _ => rfl) rfl rfl (fun _ H locs hw => ?_)
  refine lv_if_ne (tgt := 15) hx hb dX6_shape_5 (by decide) (fun k5 => ?_) (fun k5 => ?_)
  · have h := itt k5 h
    refine lv_aload_n hx hb dX6_shape_15 rfl (lv_at hl 0 rfl) ?_
    refine lv_iload_n hx hb dX6_shape_16 rfl (lv_at hl 1 rfl) ?_
    refine lv_aload_n hx hb dX6_shape_17 rfl (lv_at hl 0 rfl) ?_
    refine RM_g_on X hw 0 rfl kf_X6_43 dX6_shape_18 ?_
    refine lv_iload_n hx hb dX6_shape_21 rfl (lv_at hl 1 rfl) ?_
    obtain ⟨q22, h⟩ := chk h
    refine RM_l_on X hw 0 rfl q22 dX6_shape_22 ?_
    refine lv_iconst (v := 1) hx hb dX6_shape_23 (by decide) ?_
    obtain ⟨r24, h24, h⟩ := bnd h
    refine g_callv0 (isC := [0]) (gn := fun _ => [wRM g ad eK eT r24]) (g_runV (isC := [0]) (rest := []) (As := [.int p1, .int (RM_on rm p1.toNatClampNeg), .int (1 : Int32)]) X hw (c_X6_findFar l (ad := ad) (eK := eK) (eT := eT) h24) rfl kM_X6_findFar ki_X6_findFar ks_X6_findFar km_X6_269 ⟨(Nat.le_of_ble_eq_true rfl), (Nat.le_of_ble_eq_true rfl)⟩ ⟨(Nat.le_of_ble_eq_true rfl), (Nat.le_of_ble_eq_true rfl)⟩ rfl rfl ⟨_, _, _, _, rfl, rfl, rfl, rfl⟩ rfl hl.1 rfl (Nat.le_of_ble_eq_true rfl) dX6_shape_24) hw rfl rfl (fun _ => (Nat.le_of_ble_eq_true rfl)) (fun _ => rfl) rfl rfl (fun _ H locs hw => ?_)
    refine lv_iconst (v := 0) hx hb dX6_shape_27 (by decide) ?_
    refine lv_istore_n (lv' := [(2, .int (0 : Int32)), (0, .ref (ad 0)), (1, .int p1)]) hx hb dX6_shape_28 rfl hl (by decide) rfl (fun ls hl => ?_)
    refine lv_iconst (v := 0) hx hb dX6_shape_29 (by decide) ?_
    refine lv_istore_n (lv' := [(3, .int (0 : Int32)), (2, .int (0 : Int32)), (0, .ref (ad 0)), (1, .int p1)]) hx hb dX6_shape_30 rfl hl (by decide) rfl (fun ls hl => ?_)
    refine lv_iconst (v := 0) hx hb dX6_shape_31 (by decide) ?_
    refine lv_istore (lv' := [(4, .int (0 : Int32)), (3, .int (0 : Int32)), (2, .int (0 : Int32)), (0, .ref (ad 0)), (1, .int p1)]) hx hb dX6_shape_32 hl (by decide) rfl (fun ls hl => ?_)
    refine lv_iconst (v := 0) hx hb dX6_shape_34 (by decide) ?_
    refine lv_istore (lv' := [(5, .int (0 : Int32)), (4, .int (0 : Int32)), (3, .int (0 : Int32)), (2, .int (0 : Int32)), (0, .ref (ad 0)), (1, .int p1)]) hx hb dX6_shape_35 hl (by decide) rfl (fun ls hl => ?_)
    exact L37 N _ h _ _ _ hw (lv_sub hl [4, 5, 3, 2, 1, 0] rfl)
  · have h := itf (fun z => z k5) h
    refine lv_aload_n hx hb dX6_shape_8 rfl (lv_at hl 0 rfl) ?_
    refine lv_bipush (v := -2) hx hb dX6_shape_9 (by decide) ?_
    obtain ⟨r11, h11, h⟩ := bnd h
    refine g_calli0 (isC := [0]) (gn := fun _ => [wRM g ad eK eT r11.2]) (g_runV (isC := [0]) (rest := []) (As := [.int (-2 : Int32)]) X hw (c_X6_refuse l (ad := ad) (eK := eK) (eT := eT) h11) rfl kM_X6_refuse ki_X6_refuse ks_X6_refuse km_X6_96 ⟨(Nat.le_of_ble_eq_true rfl), (Nat.le_of_ble_eq_true rfl)⟩ ⟨(Nat.le_of_ble_eq_true rfl), (Nat.le_of_ble_eq_true rfl)⟩ rfl rfl ⟨_, _, _, _, rfl, rfl, rfl, rfl⟩ rfl hl.1 rfl (Nat.le_of_ble_eq_true rfl) dX6_shape_11) hw rfl rfl (fun _ => (Nat.le_of_ble_eq_true rfl)) (fun _ => rfl) rfl rfl (fun _ H locs hw => ?_)
    have h := Option.some.inj h
    subst h
    exact hret () dX6_shape_14 rfl hw
theorem kM_X6_parts : kM yX6_parts cX6_parts 6 (some FieldType.int) 1 := ⟨kc_X6_parts, kn_RingsOffModel, by decide +kernel⟩
abbrev R_X6_parts : Room := { frames := 5, cells := 0, slots := 0, locals := 115 }
set_option maxHeartbeats 4000000 in
set_option maxRecDepth 100000 in
theorem c_X6_parts (l : Launch) {ad : Nat → Nat} {eK : Option Nat} {eT : Option Nat} {N : Nat} {rm : RM} {p1 : Int32} {out : Int32 × RM} (h : M_X6_parts N rm p1 = some out) : gM l yX6_parts cX6_parts 6 (some FieldType.int) R_X6_parts (fun _ => [.ref (ad 0), .int p1]) (fun g => [wRM g ad eK eT rm]) (gQi (fun (_ : Unit) => out.1) (fun g (_ : Unit) => [wRM g ad eK eT out.2])) := by
  refine gM.ofi (by decide +kernel) (fun _ => Nat.le_of_ble_eq_true rfl) (fun g p e s m args below meth c A ls Q X hret hw hl => ?_)
  have hx := X.1.1
  have hb := X.1.2.1
  have hl : lv_has ls 6 [(0, .ref (ad 0)), (1, .int p1)] := hl
  have L43 : ∀ (n : Nat) (z43 : RM × Int32 × Int32), lp (M_X6_parts_l43 N p1) n z43 = some out → ∀ (H : Heap) (locs : List Loc) (ls : Array Slot), gW g A s.heap [wRM g ad eK eT z43.1] H locs → lv_has ls 6 [(0, .ref (ad 0)), (1, .int p1), (2, .int z43.2.1), (3, .int z43.2.2)] → W p l e R_X6_parts s m args below meth c H locs 0 0 Q (F0 m 43 ls []) := by
    refine lp_ind ?_
    intro rec43 ih43
    have J205 : ∀ (z205 : RM × Int32 × Int32), M_X6_parts_j205 N p1 rec43 z205 = some out → ∀ (H : Heap) (locs : List Loc) (ls : Array Slot), gW g A s.heap [wRM g ad eK eT z205.1] H locs → lv_has ls 6 [(0, .ref (ad 0)), (1, .int p1), (2, .int z205.2.1), (3, .int z205.2.2)] → W p l e R_X6_parts s m args below meth c H locs 0 0 Q (F0 m 205 ls []) := by
      intro z205 h H locs ls hw hl
      unfold M_X6_parts_j205 at h
      refine lv_iinc (v := (z205.2.2 + 1)) (lv' := [(3, .int (z205.2.2 + 1)), (0, .ref (ad 0)), (1, .int p1), (2, .int z205.2.1)]) hx hb dX6_parts_205 hl (k := 3) rfl rfl (by decide) rfl (fun ls hl => ?_)
      refine lv_goto (tgt := 43) hx hb dX6_parts_208 (by decide) ?_
      exact ih43 _ h _ _ _ hw (lv_sub hl [1, 2, 3, 0] rfl)
    have L84 : ∀ (n : Nat) (z84 : RM × Int32 × Int32 × Int32), lp (M_X6_parts_l84 N p1 rec43) n z84 = some out → ∀ (H : Heap) (locs : List Loc) (ls : Array Slot), gW g A s.heap [wRM g ad eK eT z84.1] H locs → lv_has ls 6 [(0, .ref (ad 0)), (1, .int p1), (2, .int z84.2.1), (3, .int z84.2.2.1), (4, .int z84.2.2.2)] → W p l e R_X6_parts s m args below meth c H locs 0 0 Q (F0 m 84 ls []) := by
      refine lp_ind ?_
      intro rec84 ih84
      have L96 : ∀ (n : Nat) (z96 : RM × Int32 × Int32 × Int32 × Int32), lp (M_X6_parts_l96 N p1 rec43 rec84) n z96 = some out → ∀ (H : Heap) (locs : List Loc) (ls : Array Slot), gW g A s.heap [wRM g ad eK eT z96.1] H locs → lv_has ls 6 [(0, .ref (ad 0)), (1, .int p1), (2, .int z96.2.1), (3, .int z96.2.2.1), (4, .int z96.2.2.2.1), (5, .int z96.2.2.2.2)] → W p l e R_X6_parts s m args below meth c H locs 0 0 Q (F0 m 96 ls []) := by
        refine lp_ind ?_
        intro rec96 ih96
        have J190 : ∀ (z190 : RM × Int32 × Int32 × Int32 × Int32), M_X6_parts_j190 N p1 rec43 rec84 rec96 z190 = some out → ∀ (H : Heap) (locs : List Loc) (ls : Array Slot), gW g A s.heap [wRM g ad eK eT z190.1] H locs → lv_has ls 6 [(0, .ref (ad 0)), (1, .int p1), (2, .int z190.2.1), (3, .int z190.2.2.1), (4, .int z190.2.2.2.1), (5, .int z190.2.2.2.2)] → W p l e R_X6_parts s m args below meth c H locs 0 0 Q (F0 m 190 ls []) := by
          intro z190 h H locs ls hw hl
          unfold M_X6_parts_j190 at h
          refine lv_iinc (v := (z190.2.2.2.2 + 1)) (lv' := [(5, .int (z190.2.2.2.2 + 1)), (0, .ref (ad 0)), (1, .int p1), (2, .int z190.2.1), (3, .int z190.2.2.1), (4, .int z190.2.2.2.1)]) hx hb dX6_parts_190 hl (k := 5) rfl rfl (by decide) rfl (fun ls hl => ?_)
          refine lv_goto (tgt := 96) hx hb dX6_parts_193 (by decide) ?_
          exact ih96 _ h _ _ _ hw (lv_sub hl [1, 2, 3, 4, 5, 0] rfl)
        intro z96 h H locs ls hw hl
        unfold M_X6_parts_l96 at h
        refine lv_iload hx hb dX6_parts_96 (lv_at hl 5 rfl) ?_
        refine lv_bipush (v := 20) hx hb dX6_parts_98 (by decide) ?_
        refine lv_icmp_gt (tgt := 196) hx hb dX6_parts_100 (by decide) (fun k100 => ?_) (fun k100 => ?_)
        · have h := itt k100 h
          refine lv_iinc (v := (z96.2.2.2.1 + 1)) (lv' := [(4, .int (z96.2.2.2.1 + 1)), (0, .ref (ad 0)), (1, .int p1), (2, .int z96.2.1), (3, .int z96.2.2.1), (5, .int z96.2.2.2.2)]) hx hb dX6_parts_196 hl (k := 4) rfl rfl (by decide) rfl (fun ls hl => ?_)
          refine lv_goto (tgt := 84) hx hb dX6_parts_199 (by decide) ?_
          exact ih84 _ h _ _ _ hw (lv_sub hl [1, 2, 3, 4, 0] rfl)
        · have h := itf k100 h
          refine lv_aload_n hx hb dX6_parts_103 rfl (lv_at hl 0 rfl) ?_
          refine lv_iload_n hx hb dX6_parts_104 rfl (lv_at hl 1 rfl) ?_
          refine lv_aload_n hx hb dX6_parts_105 rfl (lv_at hl 0 rfl) ?_
          refine RM_g_queue X hw 0 rfl kf_X6_70 dX6_parts_106 ?_
          refine lv_iload hx hb dX6_parts_109 (lv_at hl 4 rfl) ?_
          obtain ⟨q111, h⟩ := chk h
          refine RM_l_queue X hw 0 rfl q111 dX6_parts_111 ?_
          refine lv_iload hx hb dX6_parts_112 (lv_at hl 5 rfl) ?_
          obtain ⟨r114, h114, h⟩ := bnd h
          refine g_calli0 (isC := [0]) (gn := fun _ => [wRM g ad eK eT z96.1]) (g_runV (isC := [0]) (rest := []) (As := [.int p1, .int (RM_queue z96.1 z96.2.2.2.1.toNatClampNeg), .int z96.2.2.2.2]) X hw (c_X6_arePair l (ad := ad) (eK := eK) (eT := eT) h114) rfl kM_X6_arePair ki_X6_arePair ks_X6_arePair km_X6_276 ⟨(Nat.le_of_ble_eq_true rfl), (Nat.le_of_ble_eq_true rfl)⟩ ⟨(Nat.le_of_ble_eq_true rfl), (Nat.le_of_ble_eq_true rfl)⟩ rfl rfl ⟨_, _, _, _, rfl, rfl, rfl, rfl⟩ rfl hl.1 rfl (Nat.le_of_ble_eq_true rfl) dX6_parts_114) hw rfl rfl (fun _ => (Nat.le_of_ble_eq_true rfl)) (fun _ => rfl) rfl rfl (fun _ H locs hw => ?_)
          refine lv_if_eq (tgt := 190) hx hb dX6_parts_117 (by decide) (fun k117 => ?_) (fun k117 => ?_)
          · have h := itt k117 h
            exact J190 _ h _ _ _ hw (lv_sub hl [0, 1, 2, 3, 4, 5] rfl)
          · have h := itf k117 h
            refine lv_aload_n hx hb dX6_parts_120 rfl (lv_at hl 0 rfl) ?_
            refine RM_g_far X hw 0 rfl kf_X6_67 dX6_parts_121 ?_
            refine lv_aload_n hx hb dX6_parts_124 rfl (lv_at hl 0 rfl) ?_
            refine RM_g_queue X hw 0 rfl kf_X6_70 dX6_parts_125 ?_
            refine lv_iload hx hb dX6_parts_128 (lv_at hl 4 rfl) ?_
            obtain ⟨q130, h⟩ := chk h
            refine RM_l_queue X hw 0 rfl q130 dX6_parts_130 ?_
            refine lv_iload hx hb dX6_parts_131 (lv_at hl 5 rfl) ?_
            obtain ⟨r133, h133, h⟩ := bnd h
            refine g_calli0 (isC := []) (gn := fun _ => [wRM g ad eK eT z96.1]) (g_runS (isC := []) (rest := [.int (RM_queue z96.1 z96.2.2.2.1.toNatClampNeg), .ref (ad 33)]) (As := [.int z96.2.2.2.2]) X hw (c_X6_mask l h133) rfl kM_X6_mask kt_X6_mask km_X6_212 ⟨(Nat.le_of_ble_eq_true rfl), (Nat.le_of_ble_eq_true rfl)⟩ ⟨(Nat.le_of_ble_eq_true rfl), (Nat.le_of_ble_eq_true rfl)⟩ rfl rfl rfl hl.1 rfl (Nat.le_of_ble_eq_true rfl) dX6_parts_133) hw rfl rfl (fun _ => (Nat.le_of_ble_eq_true rfl)) (fun _ => rfl) rfl rfl (fun _ H locs hw => ?_)
            refine lv_ixor hx hb dX6_parts_136 ?_
            obtain ⟨q137, h⟩ := chk h
            refine RM_l_far X hw 0 rfl q137 dX6_parts_137 ?_
            refine lv_iconst (v := -1) hx hb dX6_parts_138 (by decide) ?_
            refine lv_icmp_ne (tgt := 190) hx hb dX6_parts_139 (by decide) (fun k139 => ?_) (fun k139 => ?_)
            · have h := itt k139 h
              exact J190 _ h _ _ _ hw (lv_sub hl [0, 1, 2, 3, 4, 5] rfl)
            · have h := itf (fun z => z k139) h
              refine lv_aload_n hx hb dX6_parts_142 rfl (lv_at hl 0 rfl) ?_
              refine RM_g_far X hw 0 rfl kf_X6_67 dX6_parts_143 ?_
              refine lv_aload_n hx hb dX6_parts_146 rfl (lv_at hl 0 rfl) ?_
              refine RM_g_queue X hw 0 rfl kf_X6_70 dX6_parts_147 ?_
              refine lv_iload hx hb dX6_parts_150 (lv_at hl 4 rfl) ?_
              obtain ⟨q152, h⟩ := chk h
              refine RM_l_queue X hw 0 rfl q152 dX6_parts_152 ?_
              refine lv_iload hx hb dX6_parts_153 (lv_at hl 5 rfl) ?_
              obtain ⟨r155, h155, h⟩ := bnd h
              refine g_calli0 (isC := []) (gn := fun _ => [wRM g ad eK eT z96.1]) (g_runS (isC := []) (rest := [.int (RM_queue z96.1 z96.2.2.2.1.toNatClampNeg), .ref (ad 33)]) (As := [.int z96.2.2.2.2]) X hw (c_X6_mask l h155) rfl kM_X6_mask kt_X6_mask km_X6_212 ⟨(Nat.le_of_ble_eq_true rfl), (Nat.le_of_ble_eq_true rfl)⟩ ⟨(Nat.le_of_ble_eq_true rfl), (Nat.le_of_ble_eq_true rfl)⟩ rfl rfl rfl hl.1 rfl (Nat.le_of_ble_eq_true rfl) dX6_parts_155) hw rfl rfl (fun _ => (Nat.le_of_ble_eq_true rfl)) (fun _ => rfl) rfl rfl (fun _ H locs hw => ?_)
              refine lv_ixor hx hb dX6_parts_158 ?_
              refine lv_iload_n hx hb dX6_parts_159 rfl (lv_at hl 2 rfl) ?_
              obtain ⟨q160, h⟩ := chk h
              refine RM_a_far (gs' := [wRM g ad eK eT (RM_s_far z96.1 (upd (RM_far z96.1) ((RM_queue z96.1 z96.2.2.2.1.toNatClampNeg) ^^^ r155).toNatClampNeg z96.2.1))]) X hw 0 rfl q160 dX6_parts_160 rfl (fun H locs hw => ?_)
              refine lv_aload_n hx hb dX6_parts_161 rfl (lv_at hl 0 rfl) ?_
              refine RM_g_queue X hw 0 rfl kf_X6_70 dX6_parts_162 ?_
              refine lv_aload_n hx hb dX6_parts_165 rfl (lv_at hl 0 rfl) ?_
              refine lv_dup hx hb dX6_parts_166 rfl ?_
              refine RM_g_queued X hw 0 rfl kf_X6_266 dX6_parts_167 ?_
              refine lv_dup_x1 hx hb dX6_parts_170 rfl rfl ?_
              refine lv_iconst (v := 1) hx hb dX6_parts_171 (by decide) ?_
              refine lv_iadd hx hb dX6_parts_172 ?_
              refine RM_p_queued (gs' := [wRM g ad eK eT (RM_s_queued (RM_s_far z96.1 (upd (RM_far z96.1) ((RM_queue z96.1 z96.2.2.2.1.toNatClampNeg) ^^^ r155).toNatClampNeg z96.2.1)) ((RM_queued (RM_s_far z96.1 (upd (RM_far z96.1) ((RM_queue z96.1 z96.2.2.2.1.toNatClampNeg) ^^^ r155).toNatClampNeg z96.2.1))) + (1 : Int32)))]) X hw 0 rfl kf_X6_266 dX6_parts_173 rfl (fun H locs hw => ?_)
              refine lv_aload_n hx hb dX6_parts_176 rfl (lv_at hl 0 rfl) ?_
              refine RM_g_queue X hw 0 rfl kf_X6_70 dX6_parts_177 ?_
              refine lv_iload hx hb dX6_parts_180 (lv_at hl 4 rfl) ?_
              obtain ⟨q182, h⟩ := chk h
              refine RM_l_queue X hw 0 rfl q182 dX6_parts_182 ?_
              refine lv_iload hx hb dX6_parts_183 (lv_at hl 5 rfl) ?_
              obtain ⟨r185, h185, h⟩ := bnd h
              refine g_calli0 (isC := []) (gn := fun _ => [wRM g ad eK eT (RM_s_queued (RM_s_far z96.1 (upd (RM_far z96.1) ((RM_queue z96.1 z96.2.2.2.1.toNatClampNeg) ^^^ r155).toNatClampNeg z96.2.1)) ((RM_queued (RM_s_far z96.1 (upd (RM_far z96.1) ((RM_queue z96.1 z96.2.2.2.1.toNatClampNeg) ^^^ r155).toNatClampNeg z96.2.1))) + (1 : Int32)))]) (g_runS (isC := []) (rest := [.int (RM_queue (RM_s_queued (RM_s_far z96.1 (upd (RM_far z96.1) ((RM_queue z96.1 z96.2.2.2.1.toNatClampNeg) ^^^ r155).toNatClampNeg z96.2.1)) ((RM_queued (RM_s_far z96.1 (upd (RM_far z96.1) ((RM_queue z96.1 z96.2.2.2.1.toNatClampNeg) ^^^ r155).toNatClampNeg z96.2.1))) + (1 : Int32))) z96.2.2.2.1.toNatClampNeg), .int (RM_queued (RM_s_far z96.1 (upd (RM_far z96.1) ((RM_queue z96.1 z96.2.2.2.1.toNatClampNeg) ^^^ r155).toNatClampNeg z96.2.1))), .ref (ad 34)]) (As := [.int z96.2.2.2.2]) X hw (c_X6_mask l h185) rfl kM_X6_mask kt_X6_mask km_X6_212 ⟨(Nat.le_of_ble_eq_true rfl), (Nat.le_of_ble_eq_true rfl)⟩ ⟨(Nat.le_of_ble_eq_true rfl), (Nat.le_of_ble_eq_true rfl)⟩ rfl rfl rfl hl.1 rfl (Nat.le_of_ble_eq_true rfl) dX6_parts_185) hw rfl rfl (fun _ => (Nat.le_of_ble_eq_true rfl)) (fun _ => rfl) rfl rfl (fun _ H locs hw => ?_)
              refine lv_ixor hx hb dX6_parts_188 ?_
              obtain ⟨q189, h⟩ := chk h
              refine RM_a_queue (gs' := [wRM g ad eK eT (RM_s_queue (RM_s_queued (RM_s_far z96.1 (upd (RM_far z96.1) ((RM_queue z96.1 z96.2.2.2.1.toNatClampNeg) ^^^ r155).toNatClampNeg z96.2.1)) ((RM_queued (RM_s_far z96.1 (upd (RM_far z96.1) ((RM_queue z96.1 z96.2.2.2.1.toNatClampNeg) ^^^ r155).toNatClampNeg z96.2.1))) + (1 : Int32))) (upd (RM_queue (RM_s_queued (RM_s_far z96.1 (upd (RM_far z96.1) ((RM_queue z96.1 z96.2.2.2.1.toNatClampNeg) ^^^ r155).toNatClampNeg z96.2.1)) ((RM_queued (RM_s_far z96.1 (upd (RM_far z96.1) ((RM_queue z96.1 z96.2.2.2.1.toNatClampNeg) ^^^ r155).toNatClampNeg z96.2.1))) + (1 : Int32)))) (RM_queued (RM_s_far z96.1 (upd (RM_far z96.1) ((RM_queue z96.1 z96.2.2.2.1.toNatClampNeg) ^^^ r155).toNatClampNeg z96.2.1))).toNatClampNeg ((RM_queue (RM_s_queued (RM_s_far z96.1 (upd (RM_far z96.1) ((RM_queue z96.1 z96.2.2.2.1.toNatClampNeg) ^^^ r155).toNatClampNeg z96.2.1)) ((RM_queued (RM_s_far z96.1 (upd (RM_far z96.1) ((RM_queue z96.1 z96.2.2.2.1.toNatClampNeg) ^^^ r155).toNatClampNeg z96.2.1))) + (1 : Int32))) z96.2.2.2.1.toNatClampNeg) ^^^ r185)))]) X hw 0 rfl q189 dX6_parts_189 rfl (fun H locs hw => ?_)
              exact J190 _ h _ _ _ hw (lv_sub hl [0, 1, 2, 3, 4, 5] rfl)
      intro z84 h H locs ls hw hl
      unfold M_X6_parts_l84 at h
      refine lv_iload hx hb dX6_parts_84 (lv_at hl 4 rfl) ?_
      refine lv_aload_n hx hb dX6_parts_86 rfl (lv_at hl 0 rfl) ?_
      refine RM_g_queued X hw 0 rfl kf_X6_266 dX6_parts_87 ?_
      refine lv_icmp_ge (tgt := 202) hx hb dX6_parts_90 (by decide) (fun k90 => ?_) (fun k90 => ?_)
      · have h := itt k90 h
        refine lv_iinc (v := (z84.2.1 + 1)) (lv' := [(2, .int (z84.2.1 + 1)), (0, .ref (ad 0)), (1, .int p1), (3, .int z84.2.2.1), (4, .int z84.2.2.2)]) hx hb dX6_parts_202 hl (k := 2) rfl rfl (by decide) rfl (fun ls hl => ?_)
        exact J205 _ h _ _ _ hw (lv_sub hl [1, 2, 0, 3] rfl)
      · have h := itf k90 h
        refine lv_iconst (v := 0) hx hb dX6_parts_93 (by decide) ?_
        refine lv_istore (lv' := [(5, .int (0 : Int32)), (0, .ref (ad 0)), (1, .int p1), (2, .int z84.2.1), (3, .int z84.2.2.1), (4, .int z84.2.2.2)]) hx hb dX6_parts_94 hl (by decide) rfl (fun ls hl => ?_)
        exact L96 N _ h _ _ _ hw (lv_sub hl [1, 2, 3, 4, 5, 0] rfl)
    intro z43 h H locs ls hw hl
    unfold M_X6_parts_l43 at h
    refine lv_iload_n hx hb dX6_parts_43 rfl (lv_at hl 3 rfl) ?_
    refine lv_aload_n hx hb dX6_parts_44 rfl (lv_at hl 0 rfl) ?_
    refine lv_iload_n hx hb dX6_parts_45 rfl (lv_at hl 1 rfl) ?_
    obtain ⟨r46, h46, h⟩ := bnd h
    refine g_calli0 (isC := [0]) (gn := fun _ => [wRM g ad eK eT z43.1]) (g_runV (isC := [0]) (rest := [.int z43.2.2]) (As := [.int p1]) X hw (c_X6_all l (ad := ad) (eK := eK) (eT := eT) h46) rfl kM_X6_all ki_X6_all ks_X6_all km_X6_86 ⟨(Nat.le_of_ble_eq_true rfl), (Nat.le_of_ble_eq_true rfl)⟩ ⟨(Nat.le_of_ble_eq_true rfl), (Nat.le_of_ble_eq_true rfl)⟩ rfl rfl ⟨_, _, _, _, rfl, rfl, rfl, rfl⟩ rfl hl.1 rfl (Nat.le_of_ble_eq_true rfl) dX6_parts_46) hw rfl rfl (fun _ => (Nat.le_of_ble_eq_true rfl)) (fun _ => rfl) rfl rfl (fun _ H locs hw => ?_)
    refine lv_icmp_gt (tgt := 211) hx hb dX6_parts_49 (by decide) (fun k49 => ?_) (fun k49 => ?_)
    · have h := itt k49 h
      refine lv_iload_n hx hb dX6_parts_211 rfl (lv_at hl 2 rfl) ?_
      have h := Option.some.inj h
      subst h
      exact hret () dX6_parts_212 rfl hw
    · have h := itf k49 h
      refine lv_aload_n hx hb dX6_parts_52 rfl (lv_at hl 0 rfl) ?_
      refine RM_g_far X hw 0 rfl kf_X6_67 dX6_parts_53 ?_
      refine lv_iload_n hx hb dX6_parts_56 rfl (lv_at hl 3 rfl) ?_
      obtain ⟨q57, h⟩ := chk h
      refine RM_l_far X hw 0 rfl q57 dX6_parts_57 ?_
      refine lv_iconst (v := -1) hx hb dX6_parts_58 (by decide) ?_
      refine lv_icmp_ne (tgt := 205) hx hb dX6_parts_59 (by decide) (fun k59 => ?_) (fun k59 => ?_)
      · have h := itt k59 h
        exact J205 _ h _ _ _ hw (lv_sub hl [0, 1, 2, 3] rfl)
      · have h := itf (fun z => z k59) h
        refine lv_aload_n hx hb dX6_parts_62 rfl (lv_at hl 0 rfl) ?_
        refine RM_g_far X hw 0 rfl kf_X6_67 dX6_parts_63 ?_
        refine lv_iload_n hx hb dX6_parts_66 rfl (lv_at hl 3 rfl) ?_
        refine lv_iload_n hx hb dX6_parts_67 rfl (lv_at hl 2 rfl) ?_
        obtain ⟨q68, h⟩ := chk h
        refine RM_a_far (gs' := [wRM g ad eK eT (RM_s_far z43.1 (upd (RM_far z43.1) z43.2.2.toNatClampNeg z43.2.1))]) X hw 0 rfl q68 dX6_parts_68 rfl (fun H locs hw => ?_)
        refine lv_aload_n hx hb dX6_parts_69 rfl (lv_at hl 0 rfl) ?_
        refine RM_g_queue X hw 0 rfl kf_X6_70 dX6_parts_70 ?_
        refine lv_iconst (v := 0) hx hb dX6_parts_73 (by decide) ?_
        refine lv_iload_n hx hb dX6_parts_74 rfl (lv_at hl 3 rfl) ?_
        obtain ⟨q75, h⟩ := chk h
        refine RM_a_queue (gs' := [wRM g ad eK eT (RM_s_queue (RM_s_far z43.1 (upd (RM_far z43.1) z43.2.2.toNatClampNeg z43.2.1)) (upd (RM_queue (RM_s_far z43.1 (upd (RM_far z43.1) z43.2.2.toNatClampNeg z43.2.1))) (0 : Int32).toNatClampNeg z43.2.2))]) X hw 0 rfl q75 dX6_parts_75 rfl (fun H locs hw => ?_)
        refine lv_aload_n hx hb dX6_parts_76 rfl (lv_at hl 0 rfl) ?_
        refine lv_iconst (v := 1) hx hb dX6_parts_77 (by decide) ?_
        refine RM_p_queued (gs' := [wRM g ad eK eT (RM_s_queued (RM_s_queue (RM_s_far z43.1 (upd (RM_far z43.1) z43.2.2.toNatClampNeg z43.2.1)) (upd (RM_queue (RM_s_far z43.1 (upd (RM_far z43.1) z43.2.2.toNatClampNeg z43.2.1))) (0 : Int32).toNatClampNeg z43.2.2)) (1 : Int32))]) X hw 0 rfl kf_X6_266 dX6_parts_78 rfl (fun H locs hw => ?_)
        refine lv_iconst (v := 0) hx hb dX6_parts_81 (by decide) ?_
        refine lv_istore (lv' := [(4, .int (0 : Int32)), (0, .ref (ad 0)), (1, .int p1), (2, .int z43.2.1), (3, .int z43.2.2)]) hx hb dX6_parts_82 hl (by decide) rfl (fun ls hl => ?_)
        exact L84 N _ h _ _ _ hw (lv_sub hl [1, 2, 3, 4, 0] rfl)
  have L17 : ∀ (n : Nat) (z17 : RM × Int32), lp (M_X6_parts_l17 N p1) n z17 = some out → ∀ (H : Heap) (locs : List Loc) (ls : Array Slot), gW g A s.heap [wRM g ad eK eT z17.1] H locs → lv_has ls 6 [(0, .ref (ad 0)), (1, .int p1), (2, .int z17.2)] → W p l e R_X6_parts s m args below meth c H locs 0 0 Q (F0 m 17 ls []) := by
    refine lp_ind ?_
    intro rec17 ih17
    intro z17 h H locs ls hw hl
    unfold M_X6_parts_l17 at h
    refine lv_iload_n hx hb dX6_parts_17 rfl (lv_at hl 2 rfl) ?_
    refine lv_aload_n hx hb dX6_parts_18 rfl (lv_at hl 0 rfl) ?_
    refine lv_iload_n hx hb dX6_parts_19 rfl (lv_at hl 1 rfl) ?_
    obtain ⟨r20, h20, h⟩ := bnd h
    refine g_calli0 (isC := [0]) (gn := fun _ => [wRM g ad eK eT z17.1]) (g_runV (isC := [0]) (rest := [.int z17.2]) (As := [.int p1]) X hw (c_X6_all l (ad := ad) (eK := eK) (eT := eT) h20) rfl kM_X6_all ki_X6_all ks_X6_all km_X6_86 ⟨(Nat.le_of_ble_eq_true rfl), (Nat.le_of_ble_eq_true rfl)⟩ ⟨(Nat.le_of_ble_eq_true rfl), (Nat.le_of_ble_eq_true rfl)⟩ rfl rfl ⟨_, _, _, _, rfl, rfl, rfl, rfl⟩ rfl hl.1 rfl (Nat.le_of_ble_eq_true rfl) dX6_parts_20) hw rfl rfl (fun _ => (Nat.le_of_ble_eq_true rfl)) (fun _ => rfl) rfl rfl (fun _ H locs hw => ?_)
    refine lv_icmp_gt (tgt := 39) hx hb dX6_parts_23 (by decide) (fun k23 => ?_) (fun k23 => ?_)
    · have h := itt k23 h
      refine lv_iconst (v := 0) hx hb dX6_parts_39 (by decide) ?_
      refine lv_istore_n (lv' := [(2, .int (0 : Int32)), (0, .ref (ad 0)), (1, .int p1)]) hx hb dX6_parts_40 rfl hl (by decide) rfl (fun ls hl => ?_)
      refine lv_iconst (v := 0) hx hb dX6_parts_41 (by decide) ?_
      refine lv_istore_n (lv' := [(3, .int (0 : Int32)), (2, .int (0 : Int32)), (0, .ref (ad 0)), (1, .int p1)]) hx hb dX6_parts_42 rfl hl (by decide) rfl (fun ls hl => ?_)
      exact L43 N _ h _ _ _ hw (lv_sub hl [2, 3, 1, 0] rfl)
    · have h := itf k23 h
      refine lv_aload_n hx hb dX6_parts_26 rfl (lv_at hl 0 rfl) ?_
      refine RM_g_far X hw 0 rfl kf_X6_67 dX6_parts_27 ?_
      refine lv_iload_n hx hb dX6_parts_30 rfl (lv_at hl 2 rfl) ?_
      refine lv_iconst (v := -1) hx hb dX6_parts_31 (by decide) ?_
      obtain ⟨q32, h⟩ := chk h
      refine RM_a_far (gs' := [wRM g ad eK eT (RM_s_far z17.1 (upd (RM_far z17.1) z17.2.toNatClampNeg (-1 : Int32)))]) X hw 0 rfl q32 dX6_parts_32 rfl (fun H locs hw => ?_)
      refine lv_iinc (v := (z17.2 + 1)) (lv' := [(2, .int (z17.2 + 1)), (0, .ref (ad 0)), (1, .int p1)]) hx hb dX6_parts_33 hl (k := 2) rfl rfl (by decide) rfl (fun ls hl => ?_)
      refine lv_goto (tgt := 17) hx hb dX6_parts_36 (by decide) ?_
      exact ih17 _ h _ _ _ hw (lv_sub hl [1, 2, 0] rfl)
  unfold M_X6_parts at h
  refine lv_aload_n hx hb dX6_parts_0 rfl (lv_at hl 0 rfl) ?_
  refine lv_iload_n hx hb dX6_parts_1 rfl (lv_at hl 1 rfl) ?_
  obtain ⟨r2, h2, h⟩ := bnd h
  refine g_calli0 (isC := [0]) (gn := fun _ => [wRM g ad eK eT rm]) (g_runV (isC := [0]) (rest := []) (As := [.int p1]) X hw (c_X6_isBar l (ad := ad) (eK := eK) (eT := eT) h2) rfl kM_X6_isBar ki_X6_isBar ks_X6_isBar km_X6_106 ⟨(Nat.le_of_ble_eq_true rfl), (Nat.le_of_ble_eq_true rfl)⟩ ⟨(Nat.le_of_ble_eq_true rfl), (Nat.le_of_ble_eq_true rfl)⟩ rfl rfl ⟨_, _, _, _, rfl, rfl, rfl, rfl⟩ rfl hl.1 rfl (Nat.le_of_ble_eq_true rfl) dX6_parts_2) hw rfl rfl (fun _ => (Nat.le_of_ble_eq_true rfl)) (fun _ => rfl) rfl rfl (fun _ H locs hw => ?_)
  refine lv_if_ne (tgt := 15) hx hb dX6_parts_5 (by decide) (fun k5 => ?_) (fun k5 => ?_)
  · have h := itt k5 h
    refine lv_iconst (v := 0) hx hb dX6_parts_15 (by decide) ?_
    refine lv_istore_n (lv' := [(2, .int (0 : Int32)), (0, .ref (ad 0)), (1, .int p1)]) hx hb dX6_parts_16 rfl hl (by decide) rfl (fun ls hl => ?_)
    exact L17 N _ h _ _ _ hw (lv_sub hl [1, 2, 0] rfl)
  · have h := itf (fun z => z k5) h
    refine lv_aload_n hx hb dX6_parts_8 rfl (lv_at hl 0 rfl) ?_
    refine lv_bipush (v := -2) hx hb dX6_parts_9 (by decide) ?_
    obtain ⟨r11, h11, h⟩ := bnd h
    refine g_calli0 (isC := [0]) (gn := fun _ => [wRM g ad eK eT r11.2]) (g_runV (isC := [0]) (rest := []) (As := [.int (-2 : Int32)]) X hw (c_X6_refuse l (ad := ad) (eK := eK) (eT := eT) h11) rfl kM_X6_refuse ki_X6_refuse ks_X6_refuse km_X6_96 ⟨(Nat.le_of_ble_eq_true rfl), (Nat.le_of_ble_eq_true rfl)⟩ ⟨(Nat.le_of_ble_eq_true rfl), (Nat.le_of_ble_eq_true rfl)⟩ rfl rfl ⟨_, _, _, _, rfl, rfl, rfl, rfl⟩ rfl hl.1 rfl (Nat.le_of_ble_eq_true rfl) dX6_parts_11) hw rfl rfl (fun _ => (Nat.le_of_ble_eq_true rfl)) (fun _ => rfl) rfl rfl (fun _ H locs hw => ?_)
    have h := Option.some.inj h
    subst h
    exact hret () dX6_parts_14 rfl hw
theorem kM_X6_longest : kM yX6_longest cX6_longest 5 (some FieldType.int) 1 := ⟨kc_X6_longest, kn_RingsOffModel, by decide +kernel⟩
abbrev R_X6_longest : Room := { frames := 5, cells := 0, slots := 0, locals := 118 }
set_option maxHeartbeats 4000000 in
set_option maxRecDepth 100000 in
theorem c_X6_longest (l : Launch) {ad : Nat → Nat} {eK : Option Nat} {eT : Option Nat} {N : Nat} {rm : RM} {p1 : Int32} {out : Int32 × RM} (h : M_X6_longest N rm p1 = some out) : gM l yX6_longest cX6_longest 5 (some FieldType.int) R_X6_longest (fun _ => [.ref (ad 0), .int p1]) (fun g => [wRM g ad eK eT rm]) (gQi (fun (_ : Unit) => out.1) (fun g (_ : Unit) => [wRM g ad eK eT out.2])) := by
  refine gM.ofi (by decide +kernel) (fun _ => Nat.le_of_ble_eq_true rfl) (fun g p e s m args below meth c A ls Q X hret hw hl => ?_)
  have hx := X.1.1
  have hb := X.1.2.1
  have hl : lv_has ls 5 [(0, .ref (ad 0)), (1, .int p1)] := hl
  have L37 : ∀ (n : Nat) (z37 : RM × Int32 × Int32), lp (M_X6_longest_l37 N p1) n z37 = some out → ∀ (H : Heap) (locs : List Loc) (ls : Array Slot), gW g A s.heap [wRM g ad eK eT z37.1] H locs → lv_has ls 5 [(0, .ref (ad 0)), (1, .int p1), (2, .int z37.2.1), (3, .int z37.2.2)] → W p l e R_X6_longest s m args below meth c H locs 0 0 Q (F0 m 37 ls []) := by
    refine lp_ind ?_
    intro rec37 ih37
    have L56 : ∀ (n : Nat) (z56 : RM × Int32 × Int32 × Int32), lp (M_X6_longest_l56 N p1 rec37) n z56 = some out → ∀ (H : Heap) (locs : List Loc) (ls : Array Slot), gW g A s.heap [wRM g ad eK eT z56.1] H locs → lv_has ls 5 [(0, .ref (ad 0)), (1, .int p1), (2, .int z56.2.1), (3, .int z56.2.2.1), (4, .int z56.2.2.2)] → W p l e R_X6_longest s m args below meth c H locs 0 0 Q (F0 m 56 ls []) := by
      refine lp_ind ?_
      intro rec56 ih56
      have J88 : ∀ (z88 : RM × Int32 × Int32 × Int32), M_X6_longest_j88 N p1 rec37 rec56 z88 = some out → ∀ (H : Heap) (locs : List Loc) (ls : Array Slot), gW g A s.heap [wRM g ad eK eT z88.1] H locs → lv_has ls 5 [(0, .ref (ad 0)), (1, .int p1), (3, .int z88.2.1), (4, .int z88.2.2.1)] → W p l e R_X6_longest s m args below meth c H locs 0 0 Q (F0 m 88 ls [.int z88.2.2.2]) := by
        intro z88 h H locs ls hw hl
        unfold M_X6_longest_j88 at h
        refine lv_istore_n (lv' := [(2, .int z88.2.2.2), (0, .ref (ad 0)), (1, .int p1), (3, .int z88.2.1), (4, .int z88.2.2.1)]) hx hb dX6_longest_88 rfl hl (by decide) rfl (fun ls hl => ?_)
        refine lv_iinc (v := (z88.2.2.1 + 1)) (lv' := [(4, .int (z88.2.2.1 + 1)), (2, .int z88.2.2.2), (0, .ref (ad 0)), (1, .int p1), (3, .int z88.2.1)]) hx hb dX6_longest_89 hl (k := 4) rfl rfl (by decide) rfl (fun ls hl => ?_)
        refine lv_goto (tgt := 56) hx hb dX6_longest_92 (by decide) ?_
        exact ih56 _ h _ _ _ hw (lv_sub hl [2, 3, 1, 4, 0] rfl)
      intro z56 h H locs ls hw hl
      unfold M_X6_longest_l56 at h
      refine lv_iload hx hb dX6_longest_56 (lv_at hl 4 rfl) ?_
      refine lv_aload_n hx hb dX6_longest_58 rfl (lv_at hl 0 rfl) ?_
      refine lv_iload_n hx hb dX6_longest_59 rfl (lv_at hl 1 rfl) ?_
      obtain ⟨r60, h60, h⟩ := bnd h
      refine g_calli0 (isC := [0]) (gn := fun _ => [wRM g ad eK eT z56.1]) (g_runV (isC := [0]) (rest := [.int z56.2.2.2]) (As := [.int p1]) X hw (c_X6_all l (ad := ad) (eK := eK) (eT := eT) h60) rfl kM_X6_all ki_X6_all ks_X6_all km_X6_86 ⟨(Nat.le_of_ble_eq_true rfl), (Nat.le_of_ble_eq_true rfl)⟩ ⟨(Nat.le_of_ble_eq_true rfl), (Nat.le_of_ble_eq_true rfl)⟩ rfl rfl ⟨_, _, _, _, rfl, rfl, rfl, rfl⟩ rfl hl.1 rfl (Nat.le_of_ble_eq_true rfl) dX6_longest_60) hw rfl rfl (fun _ => (Nat.le_of_ble_eq_true rfl)) (fun _ => rfl) rfl rfl (fun _ H locs hw => ?_)
      refine lv_icmp_gt (tgt := 95) hx hb dX6_longest_63 (by decide) (fun k63 => ?_) (fun k63 => ?_)
      · have h := itt k63 h
        refine lv_iinc (v := (z56.2.2.1 + 1)) (lv' := [(3, .int (z56.2.2.1 + 1)), (0, .ref (ad 0)), (1, .int p1), (2, .int z56.2.1), (4, .int z56.2.2.2)]) hx hb dX6_longest_95 hl (k := 3) rfl rfl (by decide) rfl (fun ls hl => ?_)
        refine lv_goto (tgt := 37) hx hb dX6_longest_98 (by decide) ?_
        exact ih37 _ h _ _ _ hw (lv_sub hl [1, 2, 3, 0] rfl)
      · have h := itf k63 h
        refine lv_aload_n hx hb dX6_longest_66 rfl (lv_at hl 0 rfl) ?_
        refine RM_g_far X hw 0 rfl kf_X6_67 dX6_longest_67 ?_
        refine lv_iload hx hb dX6_longest_70 (lv_at hl 4 rfl) ?_
        obtain ⟨q72, h⟩ := chk h
        refine RM_l_far X hw 0 rfl q72 dX6_longest_72 ?_
        refine lv_iload_n hx hb dX6_longest_73 rfl (lv_at hl 2 rfl) ?_
        refine lv_icmp_le (tgt := 87) hx hb dX6_longest_74 (by decide) (fun k74 => ?_) (fun k74 => ?_)
        · have h := itt k74 h
          refine lv_iload_n hx hb dX6_longest_87 rfl (lv_at hl 2 rfl) ?_
          exact J88 _ h _ _ _ hw (lv_sub hl [0, 1, 3, 4] rfl)
        · have h := itf k74 h
          refine lv_aload_n hx hb dX6_longest_77 rfl (lv_at hl 0 rfl) ?_
          refine RM_g_far X hw 0 rfl kf_X6_67 dX6_longest_78 ?_
          refine lv_iload hx hb dX6_longest_81 (lv_at hl 4 rfl) ?_
          obtain ⟨q83, h⟩ := chk h
          refine RM_l_far X hw 0 rfl q83 dX6_longest_83 ?_
          refine lv_goto (tgt := 88) hx hb dX6_longest_84 (by decide) ?_
          exact J88 _ h _ _ _ hw (lv_sub hl [0, 1, 3, 4] rfl)
    intro z37 h H locs ls hw hl
    unfold M_X6_longest_l37 at h
    refine lv_iload_n hx hb dX6_longest_37 rfl (lv_at hl 3 rfl) ?_
    refine lv_aload_n hx hb dX6_longest_38 rfl (lv_at hl 0 rfl) ?_
    refine lv_iload_n hx hb dX6_longest_39 rfl (lv_at hl 1 rfl) ?_
    obtain ⟨r40, h40, h⟩ := bnd h
    refine g_calli0 (isC := [0]) (gn := fun _ => [wRM g ad eK eT z37.1]) (g_runV (isC := [0]) (rest := [.int z37.2.2]) (As := [.int p1]) X hw (c_X6_all l (ad := ad) (eK := eK) (eT := eT) h40) rfl kM_X6_all ki_X6_all ks_X6_all km_X6_86 ⟨(Nat.le_of_ble_eq_true rfl), (Nat.le_of_ble_eq_true rfl)⟩ ⟨(Nat.le_of_ble_eq_true rfl), (Nat.le_of_ble_eq_true rfl)⟩ rfl rfl ⟨_, _, _, _, rfl, rfl, rfl, rfl⟩ rfl hl.1 rfl (Nat.le_of_ble_eq_true rfl) dX6_longest_40) hw rfl rfl (fun _ => (Nat.le_of_ble_eq_true rfl)) (fun _ => rfl) rfl rfl (fun _ H locs hw => ?_)
    refine lv_icmp_gt (tgt := 101) hx hb dX6_longest_43 (by decide) (fun k43 => ?_) (fun k43 => ?_)
    · have h := itt k43 h
      refine lv_iload_n hx hb dX6_longest_101 rfl (lv_at hl 2 rfl) ?_
      have h := Option.some.inj h
      subst h
      exact hret () dX6_longest_102 rfl hw
    · have h := itf k43 h
      refine lv_aload_n hx hb dX6_longest_46 rfl (lv_at hl 0 rfl) ?_
      refine lv_iload_n hx hb dX6_longest_47 rfl (lv_at hl 1 rfl) ?_
      refine lv_iload_n hx hb dX6_longest_48 rfl (lv_at hl 3 rfl) ?_
      refine lv_iconst (v := 1) hx hb dX6_longest_49 (by decide) ?_
      obtain ⟨r50, h50, h⟩ := bnd h
      refine g_callv0 (isC := [0]) (gn := fun _ => [wRM g ad eK eT r50]) (g_runV (isC := [0]) (rest := []) (As := [.int p1, .int z37.2.2, .int (1 : Int32)]) X hw (c_X6_findFar l (ad := ad) (eK := eK) (eT := eT) h50) rfl kM_X6_findFar ki_X6_findFar ks_X6_findFar km_X6_269 ⟨(Nat.le_of_ble_eq_true rfl), (Nat.le_of_ble_eq_true rfl)⟩ ⟨(Nat.le_of_ble_eq_true rfl), (Nat.le_of_ble_eq_true rfl)⟩ rfl rfl ⟨_, _, _, _, rfl, rfl, rfl, rfl⟩ rfl hl.1 rfl (Nat.le_of_ble_eq_true rfl) dX6_longest_50) hw rfl rfl (fun _ => (Nat.le_of_ble_eq_true rfl)) (fun _ => rfl) rfl rfl (fun _ H locs hw => ?_)
      refine lv_iconst (v := 0) hx hb dX6_longest_53 (by decide) ?_
      refine lv_istore (lv' := [(4, .int (0 : Int32)), (0, .ref (ad 0)), (1, .int p1), (2, .int z37.2.1), (3, .int z37.2.2)]) hx hb dX6_longest_54 hl (by decide) rfl (fun ls hl => ?_)
      exact L56 N _ h _ _ _ hw (lv_sub hl [1, 2, 3, 4, 0] rfl)
  unfold M_X6_longest at h
  refine lv_aload_n hx hb dX6_longest_0 rfl (lv_at hl 0 rfl) ?_
  refine lv_iload_n hx hb dX6_longest_1 rfl (lv_at hl 1 rfl) ?_
  obtain ⟨r2, h2, h⟩ := bnd h
  refine g_calli0 (isC := [0]) (gn := fun _ => [wRM g ad eK eT rm]) (g_runV (isC := [0]) (rest := []) (As := [.int p1]) X hw (c_X6_isBar l (ad := ad) (eK := eK) (eT := eT) h2) rfl kM_X6_isBar ki_X6_isBar ks_X6_isBar km_X6_106 ⟨(Nat.le_of_ble_eq_true rfl), (Nat.le_of_ble_eq_true rfl)⟩ ⟨(Nat.le_of_ble_eq_true rfl), (Nat.le_of_ble_eq_true rfl)⟩ rfl rfl ⟨_, _, _, _, rfl, rfl, rfl, rfl⟩ rfl hl.1 rfl (Nat.le_of_ble_eq_true rfl) dX6_longest_2) hw rfl rfl (fun _ => (Nat.le_of_ble_eq_true rfl)) (fun _ => rfl) rfl rfl (fun _ H locs hw => ?_)
  refine lv_if_ne (tgt := 15) hx hb dX6_longest_5 (by decide) (fun k5 => ?_) (fun k5 => ?_)
  · have h := itt k5 h
    refine lv_aload_n hx hb dX6_longest_15 rfl (lv_at hl 0 rfl) ?_
    refine RM_g_size X hw 0 rfl kf_X6_40 dX6_longest_16 ?_
    refine lv_iload_n hx hb dX6_longest_19 rfl (lv_at hl 1 rfl) ?_
    obtain ⟨q20, h⟩ := chk h
    refine RM_l_size X hw 0 rfl q20 dX6_longest_20 ?_
    refine lv_bipush (v := 6) hx hb dX6_longest_21 (by decide) ?_
    refine lv_icmp_le (tgt := 33) hx hb dX6_longest_23 (by decide) (fun k23 => ?_) (fun k23 => ?_)
    · have h := itt k23 h
      refine lv_iconst (v := 0) hx hb dX6_longest_33 (by decide) ?_
      refine lv_istore_n (lv' := [(2, .int (0 : Int32)), (0, .ref (ad 0)), (1, .int p1)]) hx hb dX6_longest_34 rfl hl (by decide) rfl (fun ls hl => ?_)
      refine lv_iconst (v := 0) hx hb dX6_longest_35 (by decide) ?_
      refine lv_istore_n (lv' := [(3, .int (0 : Int32)), (2, .int (0 : Int32)), (0, .ref (ad 0)), (1, .int p1)]) hx hb dX6_longest_36 rfl hl (by decide) rfl (fun ls hl => ?_)
      exact L37 N _ h _ _ _ hw (lv_sub hl [2, 3, 1, 0] rfl)
    · have h := itf k23 h
      refine lv_aload_n hx hb dX6_longest_26 rfl (lv_at hl 0 rfl) ?_
      refine lv_bipush (v := -5) hx hb dX6_longest_27 (by decide) ?_
      obtain ⟨r29, h29, h⟩ := bnd h
      refine g_calli0 (isC := [0]) (gn := fun _ => [wRM g ad eK eT r29.2]) (g_runV (isC := [0]) (rest := []) (As := [.int (-5 : Int32)]) X hw (c_X6_refuse l (ad := ad) (eK := eK) (eT := eT) h29) rfl kM_X6_refuse ki_X6_refuse ks_X6_refuse km_X6_96 ⟨(Nat.le_of_ble_eq_true rfl), (Nat.le_of_ble_eq_true rfl)⟩ ⟨(Nat.le_of_ble_eq_true rfl), (Nat.le_of_ble_eq_true rfl)⟩ rfl rfl ⟨_, _, _, _, rfl, rfl, rfl, rfl⟩ rfl hl.1 rfl (Nat.le_of_ble_eq_true rfl) dX6_longest_29) hw rfl rfl (fun _ => (Nat.le_of_ble_eq_true rfl)) (fun _ => rfl) rfl rfl (fun _ H locs hw => ?_)
      have h := Option.some.inj h
      subst h
      exact hret () dX6_longest_32 rfl hw
  · have h := itf (fun z => z k5) h
    refine lv_aload_n hx hb dX6_longest_8 rfl (lv_at hl 0 rfl) ?_
    refine lv_bipush (v := -2) hx hb dX6_longest_9 (by decide) ?_
    obtain ⟨r11, h11, h⟩ := bnd h
    refine g_calli0 (isC := [0]) (gn := fun _ => [wRM g ad eK eT r11.2]) (g_runV (isC := [0]) (rest := []) (As := [.int (-2 : Int32)]) X hw (c_X6_refuse l (ad := ad) (eK := eK) (eT := eT) h11) rfl kM_X6_refuse ki_X6_refuse ks_X6_refuse km_X6_96 ⟨(Nat.le_of_ble_eq_true rfl), (Nat.le_of_ble_eq_true rfl)⟩ ⟨(Nat.le_of_ble_eq_true rfl), (Nat.le_of_ble_eq_true rfl)⟩ rfl rfl ⟨_, _, _, _, rfl, rfl, rfl, rfl⟩ rfl hl.1 rfl (Nat.le_of_ble_eq_true rfl) dX6_longest_11) hw rfl rfl (fun _ => (Nat.le_of_ble_eq_true rfl)) (fun _ => rfl) rfl rfl (fun _ H locs hw => ?_)
    have h := Option.some.inj h
    subst h
    exact hret () dX6_longest_14 rfl hw
theorem kM_X6_luck : kM yX6_luck cX6_luck 3 (some FieldType.int) 1 := ⟨kc_X6_luck, kn_RingsOffModel, by decide +kernel⟩
abbrev R_X6_luck : Room := { frames := 2, cells := 0, slots := 0, locals := 46 }
set_option maxHeartbeats 4000000 in
set_option maxRecDepth 100000 in
theorem c_X6_luck (l : Launch) {ad : Nat → Nat} {eK : Option Nat} {eT : Option Nat} {N : Nat} {rm : RM} {p1 : Int32} {out : Int32 × RM} (h : M_X6_luck N rm p1 = some out) : gM l yX6_luck cX6_luck 3 (some FieldType.int) R_X6_luck (fun _ => [.ref (ad 0), .int p1]) (fun g => [wRM g ad eK eT rm]) (gQi (fun (_ : Unit) => out.1) (fun g (_ : Unit) => [wRM g ad eK eT out.2])) := by
  refine gM.ofi (by decide +kernel) (fun _ => Nat.le_of_ble_eq_true rfl) (fun g p e s m args below meth c A ls Q X hret hw hl => ?_)
  have hx := X.1.1
  have hb := X.1.2.1
  have hl : lv_has ls 3 [(0, .ref (ad 0)), (1, .int p1)] := hl
  have J34 : ∀ (z34 : RM), M_X6_luck_j34 N p1 z34 = some out → ∀ (H : Heap) (locs : List Loc) (ls : Array Slot), gW g A s.heap [wRM g ad eK eT z34] H locs → lv_has ls 3 [(0, .ref (ad 0))] → W p l e R_X6_luck s m args below meth c H locs 0 0 Q (F0 m 34 ls []) := by
    intro z34 h H locs ls hw hl
    unfold M_X6_luck_j34 at h
    refine lv_aload_n hx hb dX6_luck_34 rfl (lv_at hl 0 rfl) ?_
    refine lv_bipush (v := -5) hx hb dX6_luck_35 (by decide) ?_
    obtain ⟨r37, h37, h⟩ := bnd h
    refine g_calli0 (isC := [0]) (gn := fun _ => [wRM g ad eK eT r37.2]) (g_runV (isC := [0]) (rest := []) (As := [.int (-5 : Int32)]) X hw (c_X6_refuse l (ad := ad) (eK := eK) (eT := eT) h37) rfl kM_X6_refuse ki_X6_refuse ks_X6_refuse km_X6_96 ⟨(Nat.le_of_ble_eq_true rfl), (Nat.le_of_ble_eq_true rfl)⟩ ⟨(Nat.le_of_ble_eq_true rfl), (Nat.le_of_ble_eq_true rfl)⟩ rfl rfl ⟨_, _, _, _, rfl, rfl, rfl, rfl⟩ rfl hl.1 rfl (Nat.le_of_ble_eq_true rfl) dX6_luck_37) hw rfl rfl (fun _ => (Nat.le_of_ble_eq_true rfl)) (fun _ => rfl) rfl rfl (fun _ H locs hw => ?_)
    have h := Option.some.inj h
    subst h
    exact hret () dX6_luck_40 rfl hw
  unfold M_X6_luck at h
  refine lv_aload_n hx hb dX6_luck_0 rfl (lv_at hl 0 rfl) ?_
  refine lv_iload_n hx hb dX6_luck_1 rfl (lv_at hl 1 rfl) ?_
  obtain ⟨r2, h2, h⟩ := bnd h
  refine g_calli0 (isC := [0]) (gn := fun _ => [wRM g ad eK eT rm]) (g_runV (isC := [0]) (rest := []) (As := [.int p1]) X hw (c_X6_isBar l (ad := ad) (eK := eK) (eT := eT) h2) rfl kM_X6_isBar ki_X6_isBar ks_X6_isBar km_X6_106 ⟨(Nat.le_of_ble_eq_true rfl), (Nat.le_of_ble_eq_true rfl)⟩ ⟨(Nat.le_of_ble_eq_true rfl), (Nat.le_of_ble_eq_true rfl)⟩ rfl rfl ⟨_, _, _, _, rfl, rfl, rfl, rfl⟩ rfl hl.1 rfl (Nat.le_of_ble_eq_true rfl) dX6_luck_2) hw rfl rfl (fun _ => (Nat.le_of_ble_eq_true rfl)) (fun _ => rfl) rfl rfl (fun _ H locs hw => ?_)
  refine lv_if_ne (tgt := 15) hx hb dX6_luck_5 (by decide) (fun k5 => ?_) (fun k5 => ?_)
  · have h := itt k5 h
    refine lv_aload_n hx hb dX6_luck_15 rfl (lv_at hl 0 rfl) ?_
    refine RM_g_kind X hw 0 rfl kf_X6_37 dX6_luck_16 ?_
    refine lv_iload_n hx hb dX6_luck_19 rfl (lv_at hl 1 rfl) ?_
    obtain ⟨q20, h⟩ := chk h
    refine RM_l_kind X hw 0 rfl q20 dX6_luck_20 ?_
    refine lv_iconst (v := 1) hx hb dX6_luck_21 (by decide) ?_
    refine lv_icmp_ne (tgt := 34) hx hb dX6_luck_22 (by decide) (fun k22 => ?_) (fun k22 => ?_)
    · have h := itt k22 h
      exact J34 _ h _ _ _ hw (lv_sub hl [0] rfl)
    · have h := itf (fun z => z k22) h
      refine lv_aload_n hx hb dX6_luck_25 rfl (lv_at hl 0 rfl) ?_
      refine RM_g_stuck X hw 0 rfl kf_X6_46 dX6_luck_26 ?_
      refine lv_iload_n hx hb dX6_luck_29 rfl (lv_at hl 1 rfl) ?_
      obtain ⟨q30, h⟩ := chk h
      refine RM_l_stuck X hw 0 rfl q30 dX6_luck_30 ?_
      refine lv_if_eq (tgt := 41) hx hb dX6_luck_31 (by decide) (fun k31 => ?_) (fun k31 => ?_)
      · have h := itt k31 h
        refine lv_aload_n hx hb dX6_luck_41 rfl (lv_at hl 0 rfl) ?_
        refine RM_g_on X hw 0 rfl kf_X6_43 dX6_luck_42 ?_
        refine lv_iload_n hx hb dX6_luck_45 rfl (lv_at hl 1 rfl) ?_
        obtain ⟨q46, h⟩ := chk h
        refine RM_l_on X hw 0 rfl q46 dX6_luck_46 ?_
        refine lv_i2l (v := (RM_on rm p1.toNatClampNeg).toInt64) hx hb dX6_luck_47 rfl ?_
        obtain ⟨r48, h48, h⟩ := bnd h
        refine g_calll0 (isC := []) (gn := fun _ => [wRM g ad eK eT rm]) (g_runS (isC := []) (rest := []) (As := [.long (RM_on rm p1.toNatClampNeg).toInt64]) X hw (c_X6_placeOf l h48) rfl kM_X6_placeOf kt_X6_placeOf km_X6_123 ⟨(Nat.le_of_ble_eq_true rfl), (Nat.le_of_ble_eq_true rfl)⟩ ⟨(Nat.le_of_ble_eq_true rfl), (Nat.le_of_ble_eq_true rfl)⟩ rfl rfl rfl hl.1 rfl (Nat.le_of_ble_eq_true rfl) dX6_luck_48) hw rfl rfl (fun _ => (Nat.le_of_ble_eq_true rfl)) (fun _ => rfl) rfl rfl (fun _ H locs hw => ?_)
        refine lv_l2i (v := r48.toInt32) hx hb dX6_luck_51 rfl ?_
        refine lv_istore_n (lv' := [(2, .int r48.toInt32), (0, .ref (ad 0)), (1, .int p1)]) hx hb dX6_luck_52 rfl hl (by decide) rfl (fun ls hl => ?_)
        refine lv_iload_n hx hb dX6_luck_53 rfl (lv_at hl 0 rfl) ?_
        refine lv_iconst (v := 2) hx hb dX6_luck_54 (by decide) ?_
        refine lv_aload_n hx hb dX6_luck_55 rfl (lv_at hl 1 rfl) ?_
        refine lv_iload_n hx hb dX6_luck_56 rfl (lv_at hl 2 rfl) ?_
        obtain ⟨r57, h57, h⟩ := bnd h
        refine g_calli0 (isC := [0]) (gn := fun _ => [wRM g ad eK eT rm]) (g_runV (isC := [0]) (rest := [.int (2 : Int32), .int r48.toInt32]) (As := [.int p1]) X hw (c_X6_all l (ad := ad) (eK := eK) (eT := eT) h57) rfl kM_X6_all ki_X6_all ks_X6_all km_X6_86 ⟨(Nat.le_of_ble_eq_true rfl), (Nat.le_of_ble_eq_true rfl)⟩ ⟨(Nat.le_of_ble_eq_true rfl), (Nat.le_of_ble_eq_true rfl)⟩ rfl rfl ⟨_, _, _, _, rfl, rfl, rfl, rfl⟩ rfl hl.1 rfl (Nat.le_of_ble_eq_true rfl) dX6_luck_57) hw rfl rfl (fun _ => (Nat.le_of_ble_eq_true rfl)) (fun _ => rfl) rfl rfl (fun _ H locs hw => ?_)
        refine lv_imul hx hb dX6_luck_60 ?_
        refine lv_iload_n hx hb dX6_luck_61 rfl (lv_at hl 0 rfl) ?_
        refine lv_isub hx hb dX6_luck_62 ?_
        refine lv_imul hx hb dX6_luck_63 ?_
        have h := Option.some.inj h
        subst h
        exact hret () dX6_luck_64 rfl hw
      · have h := itf k31 h
        exact J34 _ h _ _ _ hw (lv_sub hl [0] rfl)
  · have h := itf (fun z => z k5) h
    refine lv_aload_n hx hb dX6_luck_8 rfl (lv_at hl 0 rfl) ?_
    refine lv_bipush (v := -2) hx hb dX6_luck_9 (by decide) ?_
    obtain ⟨r11, h11, h⟩ := bnd h
    refine g_calli0 (isC := [0]) (gn := fun _ => [wRM g ad eK eT r11.2]) (g_runV (isC := [0]) (rest := []) (As := [.int (-2 : Int32)]) X hw (c_X6_refuse l (ad := ad) (eK := eK) (eT := eT) h11) rfl kM_X6_refuse ki_X6_refuse ks_X6_refuse km_X6_96 ⟨(Nat.le_of_ble_eq_true rfl), (Nat.le_of_ble_eq_true rfl)⟩ ⟨(Nat.le_of_ble_eq_true rfl), (Nat.le_of_ble_eq_true rfl)⟩ rfl rfl ⟨_, _, _, _, rfl, rfl, rfl, rfl⟩ rfl hl.1 rfl (Nat.le_of_ble_eq_true rfl) dX6_luck_11) hw rfl rfl (fun _ => (Nat.le_of_ble_eq_true rfl)) (fun _ => rfl) rfl rfl (fun _ H locs hw => ?_)
    have h := Option.some.inj h
    subst h
    exact hret () dX6_luck_14 rfl hw
