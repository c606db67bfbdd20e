theorem kM_X6_play : kM yX6_play cX6_play 7 (some FieldType.int) 2 := ⟨kc_X6_play, kn_RingsOffModel, by decide +kernel⟩
abbrev R_X6_play : Room := { frames := 4, cells := 0, slots := 0, locals := 92 }
set_option maxHeartbeats 4000000 in
set_option maxRecDepth 100000 in
theorem c_X6_play (l : Launch) {ad : Nat → Nat} {eK : Option Nat} {eT : Option Nat} {N : Nat} {rm : RM} {p1 : Int32} {p2 : Int32} {out : Int32 × RM} (h : M_X6_play N rm p1 p2 = some out) : gM l yX6_play cX6_play 7 (some FieldType.int) R_X6_play (fun _ => [.ref (ad 0), .int p1, .int p2]) (fun g => [wRM g ad eK eT rm]) (gQi (fun (_ : Unit) => out.1) (fun g (_ : Unit) => [wRM g ad eK eT out.2])) := by
  refine gM.ofi (by decide +kernel) (fun _ => Nat.le_of_ble_eq_true rfl) (fun g p e s m args below meth c A ls Q X hret hw hl => ?_)
  have hx := X.1.1
  have hb := X.1.2.1
  have hl : lv_has ls 7 [(0, .ref (ad 0)), (1, .int p1), (2, .int p2)] := hl
  have L29 : ∀ (n : Nat) (z29 : RM × Int32), lp (M_X6_play_l29 N p1 p2) n z29 = some out → ∀ (H : Heap) (locs : List Loc) (ls : Array Slot), gW g A s.heap [wRM g ad eK eT z29.1] H locs → lv_has ls 7 [(0, .ref (ad 0)), (1, .int p1), (2, .int p2), (3, .int z29.2)] → W p l e R_X6_play s m args below meth c H locs 0 0 Q (F0 m 29 ls []) := by
    refine lp_ind ?_
    intro rec29 ih29
    have L97 : ∀ (n : Nat) (z97 : RM × Int32 × Int32 × Int32), lp (M_X6_play_l97 N p1 p2 rec29) n z97 = some out → ∀ (H : Heap) (locs : List Loc) (ls : Array Slot), gW g A s.heap [wRM g ad eK eT z97.1] H locs → lv_has ls 7 [(0, .ref (ad 0)), (1, .int p1), (2, .int p2), (3, .int z97.2.1), (5, .int z97.2.2.1), (6, .int z97.2.2.2)] → W p l e R_X6_play s m args below meth c H locs 0 0 Q (F0 m 97 ls []) := by
      refine lp_ind ?_
      intro rec97 ih97
      have J121 : ∀ (z121 : RM × Int32 × Int32 × Int32), M_X6_play_j121 N p1 p2 rec29 rec97 z121 = some out → ∀ (H : Heap) (locs : List Loc) (ls : Array Slot), gW g A s.heap [wRM g ad eK eT z121.1] H locs → lv_has ls 7 [(0, .ref (ad 0)), (1, .int p1), (2, .int p2), (3, .int z121.2.1), (5, .int z121.2.2.1), (6, .int z121.2.2.2)] → W p l e R_X6_play s m args below meth c H locs 0 0 Q (F0 m 121 ls []) := by
        intro z121 h H locs ls hw hl
        unfold M_X6_play_j121 at h
        refine lv_iinc (v := (z121.2.2.2 + 1)) (lv' := [(6, .int (z121.2.2.2 + 1)), (0, .ref (ad 0)), (1, .int p1), (2, .int p2), (3, .int z121.2.1), (5, .int z121.2.2.1)]) hx hb dX6_play_121 hl (k := 5) rfl rfl (by decide) rfl (fun ls hl => ?_)
        refine lv_goto (tgt := 97) hx hb dX6_play_124 (by decide) ?_
        exact ih97 _ h _ _ _ hw (lv_sub hl [1, 2, 3, 4, 5, 0] rfl)
      intro z97 h H locs ls hw hl
      unfold M_X6_play_l97 at h
      refine lv_aload_n hx hb dX6_play_97 rfl (lv_at hl 0 rfl) ?_
      refine lv_iload_n hx hb dX6_play_98 rfl (lv_at hl 1 rfl) ?_
      refine lv_aload_n hx hb dX6_play_99 rfl (lv_at hl 0 rfl) ?_
      refine RM_g_on X hw 0 rfl kf_X6_43 dX6_play_100 ?_
      refine lv_iload_n hx hb dX6_play_103 rfl (lv_at hl 1 rfl) ?_
      obtain ⟨q104, h⟩ := chk h
      refine RM_l_on X hw 0 rfl q104 dX6_play_104 ?_
      refine lv_iload hx hb dX6_play_105 (lv_at hl 5 rfl) ?_
      obtain ⟨r107, h107, h⟩ := bnd h
      refine g_calli0 (isC := [0]) (gn := fun _ => [wRM g ad eK eT z97.1]) (g_runV (isC := [0]) (rest := []) (As := [.int p1, .int (RM_on z97.1 p1.toNatClampNeg), .int z97.2.2.2]) X hw (c_X6_mayAt l (ad := ad) (eK := eK) (eT := eT) h107) rfl kM_X6_mayAt ki_X6_mayAt ks_X6_mayAt km_X6_131 ⟨(Nat.le_of_ble_eq_true rfl), (Nat.le_of_ble_eq_true rfl)⟩ ⟨(Nat.le_of_ble_eq_true rfl), (Nat.le_of_ble_eq_true rfl)⟩ rfl rfl ⟨_, _, _, _, rfl, rfl, rfl, rfl⟩ rfl hl.1 rfl (Nat.le_of_ble_eq_true rfl) dX6_play_107) hw rfl rfl (fun _ => (Nat.le_of_ble_eq_true rfl)) (fun _ => rfl) rfl rfl (fun _ H locs hw => ?_)
      refine lv_if_eq (tgt := 121) hx hb dX6_play_110 (by decide) (fun k110 => ?_) (fun k110 => ?_)
      · have h := itt k110 h
        exact J121 _ h _ _ _ hw (lv_sub hl [0, 1, 2, 3, 4, 5] rfl)
      · have h := itf k110 h
        refine lv_iload hx hb dX6_play_113 (lv_at hl 4 rfl) ?_
        obtain ⟨y115, e115⟩ : ∃ y : Int32, y = (z97.2.2.1 + (-1)) := ⟨_, rfl⟩
        try rw [← e115] at h
        refine lv_iinc (v := y115) (lv' := [(5, .int y115), (0, .ref (ad 0)), (1, .int p1), (2, .int p2), (3, .int z97.2.1), (6, .int z97.2.2.2)]) hx hb dX6_play_115 hl (k := 4) rfl (by rw [ofI_m1, e115]) (by decide) rfl (fun ls hl => ?_)
        refine lv_if_le (tgt := 127) hx hb dX6_play_118 (by decide) (fun k118 => ?_) (fun k118 => ?_)
        · have h := itt k118 h
          refine lv_aload_n hx hb dX6_play_127 rfl (lv_at hl 1 rfl) ?_
          refine lv_iload_n hx hb dX6_play_128 rfl (lv_at hl 2 rfl) ?_
          refine lv_iload hx hb dX6_play_129 (lv_at hl 5 rfl) ?_
          obtain ⟨r131, h131, h⟩ := bnd h
          refine g_callv0 (isC := [0]) (gn := fun _ => [wRM g ad eK eT r131]) (g_runV (isC := [0]) (rest := []) (As := [.int p1, .int z97.2.2.2]) X hw (c_X6_makes l (ad := ad) (eK := eK) (eT := eT) h131) rfl kM_X6_makes ki_X6_makes ks_X6_makes km_X6_263 ⟨(Nat.le_of_ble_eq_true rfl), (Nat.le_of_ble_eq_true rfl)⟩ ⟨(Nat.le_of_ble_eq_true rfl), (Nat.le_of_ble_eq_true rfl)⟩ rfl rfl ⟨_, _, _, _, rfl, rfl, rfl, rfl⟩ rfl hl.1 rfl (Nat.le_of_ble_eq_true rfl) dX6_play_131) hw rfl rfl (fun _ => (Nat.le_of_ble_eq_true rfl)) (fun _ => rfl) rfl rfl (fun _ H locs hw => ?_)
          refine lv_iinc (v := (z97.2.1 + 1)) (lv' := [(3, .int (z97.2.1 + 1)), (5, .int y115), (0, .ref (ad 0)), (1, .int p1), (2, .int p2), (6, .int z97.2.2.2)]) hx hb dX6_play_134 hl (k := 4) rfl rfl (by decide) rfl (fun ls hl => ?_)
          refine lv_goto (tgt := 29) hx hb dX6_play_137 (by decide) ?_
          exact ih29 _ h _ _ _ hw (lv_sub hl [2, 3, 4, 0] rfl)
        · have h := itf k118 h
          exact J121 _ h _ _ _ hw (lv_sub hl [1, 2, 3, 4, 0, 5] rfl)
    have L40 : ∀ (n : Nat) (z40 : RM × Int32 × Int32 × Int32), lp (M_X6_play_l40 N p1 p2 rec29) n z40 = some out → ∀ (H : Heap) (locs : List Loc) (ls : Array Slot), gW g A s.heap [wRM g ad eK eT z40.1] H locs → lv_has ls 7 [(0, .ref (ad 0)), (1, .int p1), (2, .int p2), (3, .int z40.2.1), (4, .int z40.2.2.1), (5, .int z40.2.2.2)] → W p l e R_X6_play s m args below meth c H locs 0 0 Q (F0 m 40 ls []) := by
      refine lp_ind ?_
      intro rec40 ih40
      have J70 : ∀ (z70 : RM × Int32 × Int32 × Int32 × Int32), M_X6_play_j70 N p1 p2 rec29 rec40 z70 = some out → ∀ (H : Heap) (locs : List Loc) (ls : Array Slot), gW g A s.heap [wRM g ad eK eT z70.1] H locs → lv_has ls 7 [(0, .ref (ad 0)), (1, .int p1), (2, .int p2), (3, .int z70.2.1), (5, .int z70.2.2.1)] → W p l e R_X6_play s m args below meth c H locs 0 0 Q (F0 m 70 ls [.int z70.2.2.2.2, .int z70.2.2.2.1]) := by
        intro z70 h H locs ls hw hl
        unfold M_X6_play_j70 at h
        refine lv_iadd hx hb dX6_play_70 ?_
        refine lv_istore (lv' := [(4, .int (z70.2.2.2.1 + z70.2.2.2.2)), (0, .ref (ad 0)), (1, .int p1), (2, .int p2), (3, .int z70.2.1), (5, .int z70.2.2.1)]) hx hb dX6_play_71 hl (by decide) rfl (fun ls hl => ?_)
        refine lv_iinc (v := (z70.2.2.1 + 1)) (lv' := [(5, .int (z70.2.2.1 + 1)), (4, .int (z70.2.2.2.1 + z70.2.2.2.2)), (0, .ref (ad 0)), (1, .int p1), (2, .int p2), (3, .int z70.2.1)]) hx hb dX6_play_73 hl (k := 5) rfl rfl (by decide) rfl (fun ls hl => ?_)
        refine lv_goto (tgt := 40) hx hb dX6_play_76 (by decide) ?_
        exact ih40 _ h _ _ _ hw (lv_sub hl [2, 3, 4, 5, 1, 0] rfl)
      intro z40 h H locs ls hw hl
      unfold M_X6_play_l40 at h
      refine lv_iload hx hb dX6_play_40 (lv_at hl 5 rfl) ?_
      refine lv_bipush (v := 20) hx hb dX6_play_42 (by decide) ?_
      refine lv_icmp_gt (tgt := 79) hx hb dX6_play_44 (by decide) (fun k44 => ?_) (fun k44 => ?_)
      · have h := itt k44 h
        refine lv_iload hx hb dX6_play_79 (lv_at hl 4 rfl) ?_
        refine lv_if_ne (tgt := 86) hx hb dX6_play_81 (by decide) (fun k81 => ?_) (fun k81 => ?_)
        · have h := itt k81 h
          refine lv_aload_n hx hb dX6_play_86 rfl (lv_at hl 0 rfl) ?_
          refine lv_iload hx hb dX6_play_87 (lv_at hl 4 rfl) ?_
          obtain ⟨r89, h89, h⟩ := bnd h
          refine g_calli0 (isC := [0]) (gn := fun _ => [wRM g ad eK eT r89.2]) (g_runV (isC := [0]) (rest := []) (As := [.int z40.2.2.1]) X hw (c_X6_below l (ad := ad) (eK := eK) (eT := eT) h89) rfl kM_X6_below ki_X6_below ks_X6_below km_X6_320 ⟨(Nat.le_of_ble_eq_true rfl), (Nat.le_of_ble_eq_true rfl)⟩ ⟨(Nat.le_of_ble_eq_true rfl), (Nat.le_of_ble_eq_true rfl)⟩ rfl rfl ⟨_, _, _, _, rfl, rfl, rfl, rfl⟩ rfl hl.1 rfl (Nat.le_of_ble_eq_true rfl) dX6_play_89) hw rfl rfl (fun _ => (Nat.le_of_ble_eq_true rfl)) (fun _ => rfl) rfl rfl (fun _ H locs hw => ?_)
          refine lv_istore (lv' := [(5, .int r89.1), (0, .ref (ad 0)), (1, .int p1), (2, .int p2), (3, .int z40.2.1), (4, .int z40.2.2.1)]) hx hb dX6_play_92 hl (by decide) rfl (fun ls hl => ?_)
          refine lv_iconst (v := 0) hx hb dX6_play_94 (by decide) ?_
          refine lv_istore (lv' := [(6, .int (0 : Int32)), (5, .int r89.1), (0, .ref (ad 0)), (1, .int p1), (2, .int p2), (3, .int z40.2.1), (4, .int z40.2.2.1)]) hx hb dX6_play_95 hl (by decide) rfl (fun ls hl => ?_)
          exact L97 N _ h _ _ _ hw (lv_sub hl [2, 3, 4, 5, 1, 0] rfl)
        · have h := itf (fun z => z k81) h
          refine lv_iload_n hx hb dX6_play_84 rfl (lv_at hl 3 rfl) ?_
          have h := Option.some.inj h
          subst h
          exact hret () dX6_play_85 rfl hw
      · have h := itf k44 h
        refine lv_iload hx hb dX6_play_47 (lv_at hl 4 rfl) ?_
        refine lv_aload_n hx hb dX6_play_49 rfl (lv_at hl 0 rfl) ?_
        refine lv_iload_n hx hb dX6_play_50 rfl (lv_at hl 1 rfl) ?_
        refine lv_aload_n hx hb dX6_play_51 rfl (lv_at hl 0 rfl) ?_
        refine RM_g_on X hw 0 rfl kf_X6_43 dX6_play_52 ?_
        refine lv_iload_n hx hb dX6_play_55 rfl (lv_at hl 1 rfl) ?_
        obtain ⟨q56, h⟩ := chk h
        refine RM_l_on X hw 0 rfl q56 dX6_play_56 ?_
        refine lv_iload hx hb dX6_play_57 (lv_at hl 5 rfl) ?_
        obtain ⟨r59, h59, h⟩ := bnd h
        refine g_calli0 (isC := [0]) (gn := fun _ => [wRM g ad eK eT z40.1]) (g_runV (isC := [0]) (rest := [.int z40.2.2.1]) (As := [.int p1, .int (RM_on z40.1 p1.toNatClampNeg), .int z40.2.2.2]) X hw (c_X6_mayAt l (ad := ad) (eK := eK) (eT := eT) h59) rfl kM_X6_mayAt ki_X6_mayAt ks_X6_mayAt km_X6_131 ⟨(Nat.le_of_ble_eq_true rfl), (Nat.le_of_ble_eq_true rfl)⟩ ⟨(Nat.le_of_ble_eq_true rfl), (Nat.le_of_ble_eq_true rfl)⟩ rfl rfl ⟨_, _, _, _, rfl, rfl, rfl, rfl⟩ rfl hl.1 rfl (Nat.le_of_ble_eq_true rfl) dX6_play_59) hw rfl rfl (fun _ => (Nat.le_of_ble_eq_true rfl)) (fun _ => rfl) rfl rfl (fun _ H locs hw => ?_)
        refine lv_if_eq (tgt := 69) hx hb dX6_play_62 (by decide) (fun k62 => ?_) (fun k62 => ?_)
        · have h := itt k62 h
          refine lv_iconst (v := 0) hx hb dX6_play_69 (by decide) ?_
          exact J70 _ h _ _ _ hw (lv_sub hl [0, 1, 2, 3, 5] rfl)
        · have h := itf k62 h
          refine lv_iconst (v := 1) hx hb dX6_play_65 (by decide) ?_
          refine lv_goto (tgt := 70) hx hb dX6_play_66 (by decide) ?_
          exact J70 _ h _ _ _ hw (lv_sub hl [0, 1, 2, 3, 5] rfl)
    intro z29 h H locs ls hw hl
    unfold M_X6_play_l29 at h
    refine lv_iload_n hx hb dX6_play_29 rfl (lv_at hl 3 rfl) ?_
    refine lv_iload_n hx hb dX6_play_30 rfl (lv_at hl 2 rfl) ?_
    refine lv_icmp_ge (tgt := 140) hx hb dX6_play_31 (by decide) (fun k31 => ?_) (fun k31 => ?_)
    · have h := itt k31 h
      refine lv_iload_n hx hb dX6_play_140 rfl (lv_at hl 2 rfl) ?_
      have h := Option.some.inj h
      subst h
      exact hret () dX6_play_141 rfl hw
    · have h := itf k31 h
      refine lv_iconst (v := 0) hx hb dX6_play_34 (by decide) ?_
      refine lv_istore (lv' := [(4, .int (0 : Int32)), (0, .ref (ad 0)), (1, .int p1), (2, .int p2), (3, .int z29.2)]) hx hb dX6_play_35 hl (by decide) rfl (fun ls hl => ?_)
      refine lv_iconst (v := 0) hx hb dX6_play_37 (by decide) ?_
      refine lv_istore (lv' := [(5, .int (0 : Int32)), (4, .int (0 : Int32)), (0, .ref (ad 0)), (1, .int p1), (2, .int p2), (3, .int z29.2)]) hx hb dX6_play_38 hl (by decide) rfl (fun ls hl => ?_)
      exact L40 N _ h _ _ _ hw (lv_sub hl [2, 3, 4, 5, 1, 0] rfl)
  have J20 : ∀ (z20 : RM), M_X6_play_j20 N p1 p2 z20 = some out → ∀ (H : Heap) (locs : List Loc) (ls : Array Slot), gW g A s.heap [wRM g ad eK eT z20] H locs → lv_has ls 7 [(0, .ref (ad 0))] → W p l e R_X6_play s m args below meth c H locs 0 0 Q (F0 m 20 ls []) := by
    intro z20 h H locs ls hw hl
    unfold M_X6_play_j20 at h
    refine lv_aload_n hx hb dX6_play_20 rfl (lv_at hl 0 rfl) ?_
    refine lv_bipush (v := -2) hx hb dX6_play_21 (by decide) ?_
    obtain ⟨r23, h23, h⟩ := bnd h
    refine g_calli0 (isC := [0]) (gn := fun _ => [wRM g ad eK eT r23.2]) (g_runV (isC := [0]) (rest := []) (As := [.int (-2 : Int32)]) X hw (c_X6_refuse l (ad := ad) (eK := eK) (eT := eT) h23) rfl kM_X6_refuse ki_X6_refuse ks_X6_refuse km_X6_96 ⟨(Nat.le_of_ble_eq_true rfl), (Nat.le_of_ble_eq_true rfl)⟩ ⟨(Nat.le_of_ble_eq_true rfl), (Nat.le_of_ble_eq_true rfl)⟩ rfl rfl ⟨_, _, _, _, rfl, rfl, rfl, rfl⟩ rfl hl.1 rfl (Nat.le_of_ble_eq_true rfl) dX6_play_23) hw rfl rfl (fun _ => (Nat.le_of_ble_eq_true rfl)) (fun _ => rfl) rfl rfl (fun _ H locs hw => ?_)
    have h := Option.some.inj h
    subst h
    exact hret () dX6_play_26 rfl hw
  unfold M_X6_play at h
  refine lv_aload_n hx hb dX6_play_0 rfl (lv_at hl 0 rfl) ?_
  refine lv_iload_n hx hb dX6_play_1 rfl (lv_at hl 1 rfl) ?_
  obtain ⟨r2, h2, h⟩ := bnd h
  refine g_calli0 (isC := [0]) (gn := fun _ => [wRM g ad eK eT rm]) (g_runV (isC := [0]) (rest := []) (As := [.int p1]) X hw (c_X6_isBar l (ad := ad) (eK := eK) (eT := eT) h2) rfl kM_X6_isBar ki_X6_isBar ks_X6_isBar km_X6_106 ⟨(Nat.le_of_ble_eq_true rfl), (Nat.le_of_ble_eq_true rfl)⟩ ⟨(Nat.le_of_ble_eq_true rfl), (Nat.le_of_ble_eq_true rfl)⟩ rfl rfl ⟨_, _, _, _, rfl, rfl, rfl, rfl⟩ rfl hl.1 rfl (Nat.le_of_ble_eq_true rfl) dX6_play_2) hw rfl rfl (fun _ => (Nat.le_of_ble_eq_true rfl)) (fun _ => rfl) rfl rfl (fun _ H locs hw => ?_)
  refine lv_if_eq (tgt := 20) hx hb dX6_play_5 (by decide) (fun k5 => ?_) (fun k5 => ?_)
  · have h := itt k5 h
    exact J20 _ h _ _ _ hw (lv_sub hl [0] rfl)
  · have h := itf k5 h
    refine lv_iload_n hx hb dX6_play_8 rfl (lv_at hl 2 rfl) ?_
    refine lv_i2l (v := p2.toInt64) hx hb dX6_play_9 rfl ?_
    refine lv_lconst (v := 1) hx hb dX6_play_10 (by decide) ?_
    refine lv_ldc2 hx hb X.1.2.2.2.1 (gK1 X _ kq_X6_317) dX6_play_11 ?_
    obtain ⟨r14, h14, h⟩ := bnd h
    refine g_calli0 (isC := []) (gn := fun _ => [wRM g ad eK eT rm]) (g_runS (isC := []) (rest := []) (As := [.long p2.toInt64, .long (1 : Int64), .long (60 : Int64)]) X hw (c_X6_in l h14) rfl kM_X6_in kt_X6_in km_X6_82 ⟨(Nat.le_of_ble_eq_true rfl), (Nat.le_of_ble_eq_true rfl)⟩ ⟨(Nat.le_of_ble_eq_true rfl), (Nat.le_of_ble_eq_true rfl)⟩ rfl rfl rfl hl.1 rfl (Nat.le_of_ble_eq_true rfl) dX6_play_14) hw rfl rfl (fun _ => (Nat.le_of_ble_eq_true rfl)) (fun _ => rfl) rfl rfl (fun _ H locs hw => ?_)
    refine lv_if_ne (tgt := 27) hx hb dX6_play_17 (by decide) (fun k17 => ?_) (fun k17 => ?_)
    · have h := itt k17 h
      refine lv_iconst (v := 0) hx hb dX6_play_27 (by decide) ?_
      refine lv_istore_n (lv' := [(3, .int (0 : Int32)), (0, .ref (ad 0)), (1, .int p1), (2, .int p2)]) hx hb dX6_play_28 rfl hl (by decide) rfl (fun ls hl => ?_)
      exact L29 N _ h _ _ _ hw (lv_sub hl [1, 2, 3, 0] rfl)
    · have h := itf (fun z => z k17) h
      exact J20 _ h _ _ _ hw (lv_sub hl [0] rfl)
