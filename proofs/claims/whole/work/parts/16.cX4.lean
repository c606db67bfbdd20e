theorem kM_X4_isFull : kM yX4_isFull cX4_isFull 1 (some FieldType.boolean) 0 := ⟨kc_X4_isFull, kn_RingsOff_Tape, by decide +kernel⟩
abbrev R_X4_isFull : Room := { frames := 0, cells := 0, slots := 0, locals := 0 }
set_option maxHeartbeats 4000000 in
set_option maxRecDepth 100000 in
theorem c_X4_isFull (l : Launch) {ad : Nat → Nat} {N : Nat} {tp : TP} {out : Int32} (h : M_X4_isFull N tp = some out) : gM l yX4_isFull cX4_isFull 1 (some FieldType.boolean) R_X4_isFull (fun _ => [.ref (ad 0)]) (fun g => [wTP g ad tp]) (gQi (fun (_ : Unit) => out) (fun g (_ : Unit) => [wTP g ad tp])) := by
  refine gM.ofz (by decide +kernel) (fun _ => Nat.le_of_ble_eq_true rfl) (fun g p e s m args below meth c A ls Q X hret hw hl => ?_)
  have hx := X.1.1
  have hb := X.1.2.1
  have hl : lv_has ls 1 [(0, .ref (ad 0))] := hl
  unfold M_X4_isFull at h
  refine lv_aload_n hx hb dX4_isFull_0 rfl (lv_at hl 0 rfl) ?_
  refine TP_g_size X hw 0 rfl kf_X4_15 dX4_isFull_1 ?_
  refine lv_sipush (v := 250) hx hb dX4_isFull_4 (by decide) ?_
  refine lv_icmp_lt (tgt := 14) hx hb dX4_isFull_7 (by decide) (fun k7 => ?_) (fun k7 => ?_)
  · have h := itt k7 h
    refine lv_iconst (v := 0) hx hb dX4_isFull_14 (by decide) ?_
    have h := Option.some.inj h
    subst h
    exact hret () dX4_isFull_15 (by decide) rfl hw
  · have h := itf k7 h
    refine lv_iconst (v := 1) hx hb dX4_isFull_10 (by decide) ?_
    refine lv_goto (tgt := 15) hx hb dX4_isFull_11 (by decide) ?_
    have h := Option.some.inj h
    subst h
    exact hret () dX4_isFull_15 (by decide) rfl hw
theorem kM_X4_append : kM yX4_append cX4_append 2 (some FieldType.int) 1 := ⟨kc_X4_append, kn_RingsOff_Tape, by decide +kernel⟩
abbrev R_X4_append : Room := { frames := 0, cells := 0, slots := 0, locals := 0 }
set_option maxHeartbeats 4000000 in
set_option maxRecDepth 100000 in
theorem c_X4_append (l : Launch) {ad : Nat → Nat} {N : Nat} {tp : TP} {p1 : Int32} {out : Int32 × TP} (h : M_X4_append N tp p1 = some out) : gM l yX4_append cX4_append 2 (some FieldType.int) R_X4_append (fun _ => [.ref (ad 0), .int p1]) (fun g => [wTP g ad tp]) (gQi (fun (_ : Unit) => out.1) (fun g (_ : Unit) => [wTP g ad out.2])) := by
  refine gM.ofi (by decide +kernel) (fun _ => Nat.le_of_ble_eq_true rfl) (fun g p e s m args below meth c A ls Q X hret hw hl => ?_)
  have hx := X.1.1
  have hb := X.1.2.1
  have hl : lv_has ls 2 [(0, .ref (ad 0)), (1, .int p1)] := hl
  have J37 : ∀ (z37 : TP), M_X4_append_j37 N p1 z37 = some out → ∀ (H : Heap) (locs : List Loc) (ls : Array Slot), gW g A s.heap [wTP g ad z37] H locs → lv_has ls 2 [(0, .ref (ad 0))] → W p l e R_X4_append s m args below meth c H locs 0 0 Q (F0 m 37 ls []) := by
    intro z37 h H locs ls hw hl
    unfold M_X4_append_j37 at h
    refine lv_aload_n hx hb dX4_append_37 rfl (lv_at hl 0 rfl) ?_
    refine TP_g_size X hw 0 rfl kf_X4_15 dX4_append_38 ?_
    have h := Option.some.inj h
    subst h
    exact hret () dX4_append_41 rfl hw
  unfold M_X4_append at h
  refine lv_aload_n hx hb dX4_append_0 rfl (lv_at hl 0 rfl) ?_
  refine TP_g_size X hw 0 rfl kf_X4_15 dX4_append_1 ?_
  refine lv_if_lt (tgt := 37) hx hb dX4_append_4 (by decide) (fun k4 => ?_) (fun k4 => ?_)
  · have h := itt k4 h
    exact J37 _ h _ _ _ hw (lv_sub hl [0] rfl)
  · have h := itf k4 h
    refine lv_aload_n hx hb dX4_append_7 rfl (lv_at hl 0 rfl) ?_
    refine TP_g_size X hw 0 rfl kf_X4_15 dX4_append_8 ?_
    refine lv_sipush (v := 250) hx hb dX4_append_11 (by decide) ?_
    refine lv_icmp_ge (tgt := 37) hx hb dX4_append_14 (by decide) (fun k14 => ?_) (fun k14 => ?_)
    · have h := itt k14 h
      exact J37 _ h _ _ _ hw (lv_sub hl [0] rfl)
    · have h := itf k14 h
      refine lv_aload_n hx hb dX4_append_17 rfl (lv_at hl 0 rfl) ?_
      refine TP_g_bytes X hw 0 rfl kf_X4_11 dX4_append_18 ?_
      refine lv_aload_n hx hb dX4_append_21 rfl (lv_at hl 0 rfl) ?_
      refine TP_g_size X hw 0 rfl kf_X4_15 dX4_append_22 ?_
      refine lv_iload_n hx hb dX4_append_25 rfl (lv_at hl 1 rfl) ?_
      obtain ⟨q26, h⟩ := chk h
      refine TP_a_bytes (gs' := [wTP g ad (TP_s_bytes tp (upd (TP_bytes tp) (TP_size tp).toNatClampNeg p1))]) X hw 0 rfl q26 dX4_append_26 rfl (fun H locs hw => ?_)
      refine lv_aload_n hx hb dX4_append_27 rfl (lv_at hl 0 rfl) ?_
      refine lv_dup hx hb dX4_append_28 rfl ?_
      refine TP_g_size X hw 0 rfl kf_X4_15 dX4_append_29 ?_
      refine lv_iconst (v := 1) hx hb dX4_append_32 (by decide) ?_
      refine lv_iadd hx hb dX4_append_33 ?_
      refine TP_p_size (gs' := [wTP g ad (TP_s_size (TP_s_bytes tp (upd (TP_bytes tp) (TP_size tp).toNatClampNeg p1)) ((TP_size (TP_s_bytes tp (upd (TP_bytes tp) (TP_size tp).toNatClampNeg p1))) + (1 : Int32)))]) X hw 0 rfl kf_X4_15 dX4_append_34 rfl (fun H locs hw => ?_)
      exact J37 _ h _ _ _ hw (lv_sub hl [0] rfl)
theorem kM_X4_clear : kM yX4_clear cX4_clear 1 (none : Option Jvm.ClassFile.FieldType) 0 := ⟨kc_X4_clear, kn_RingsOff_Tape, by decide +kernel⟩
abbrev R_X4_clear : Room := { frames := 0, cells := 0, slots := 0, locals := 0 }
set_option maxHeartbeats 4000000 in
set_option maxRecDepth 100000 in
theorem c_X4_clear (l : Launch) {ad : Nat → Nat} {N : Nat} {tp : TP} {out : TP} (h : M_X4_clear N tp = some out) : gM l yX4_clear cX4_clear 1 (none : Option Jvm.ClassFile.FieldType) R_X4_clear (fun _ => [.ref (ad 0)]) (fun g => [wTP g ad tp]) (gQv (fun g (_ : Unit) => [wTP g ad out])) := by
  refine gM.ofv (by decide +kernel) (fun _ => Nat.le_of_ble_eq_true rfl) (fun g p e s m args below meth c A ls Q X hret hw hl => ?_)
  have hx := X.1.1
  have hb := X.1.2.1
  have hl : lv_has ls 1 [(0, .ref (ad 0))] := hl
  unfold M_X4_clear at h
  refine lv_aload_n hx hb dX4_clear_0 rfl (lv_at hl 0 rfl) ?_
  refine lv_iconst (v := 0) hx hb dX4_clear_1 (by decide) ?_
  refine TP_p_size (gs' := [wTP g ad (TP_s_size tp (0 : Int32))]) X hw 0 rfl kf_X4_15 dX4_clear_2 rfl (fun H locs hw => ?_)
  have h := Option.some.inj h
  subst h
  exact hret () dX4_clear_5 hw
theorem kM_X4_byteAt : kM yX4_byteAt cX4_byteAt 2 (some FieldType.int) 1 := ⟨kc_X4_byteAt, kn_RingsOff_Tape, by decide +kernel⟩
abbrev R_X4_byteAt : Room := { frames := 0, cells := 0, slots := 0, locals := 0 }
set_option maxHeartbeats 4000000 in
set_option maxRecDepth 100000 in
theorem c_X4_byteAt (l : Launch) {ad : Nat → Nat} {N : Nat} {tp : TP} {p1 : Int32} {out : Int32} (h : M_X4_byteAt N tp p1 = some out) : gM l yX4_byteAt cX4_byteAt 2 (some FieldType.int) R_X4_byteAt (fun _ => [.ref (ad 0), .int p1]) (fun g => [wTP g ad tp]) (gQi (fun (_ : Unit) => out) (fun g (_ : Unit) => [wTP g ad tp])) := by
  refine gM.ofi (by decide +kernel) (fun _ => Nat.le_of_ble_eq_true rfl) (fun g p e s m args below meth c A ls Q X hret hw hl => ?_)
  have hx := X.1.1
  have hb := X.1.2.1
  have hl : lv_has ls 2 [(0, .ref (ad 0)), (1, .int p1)] := hl
  unfold M_X4_byteAt at h
  refine lv_iload_n hx hb dX4_byteAt_0 rfl (lv_at hl 1 rfl) ?_
  refine lv_if_lt (tgt := 28) hx hb dX4_byteAt_1 (by decide) (fun k1 => ?_) (fun k1 => ?_)
  · have h := itt k1 h
    refine lv_iconst (v := -1) hx hb dX4_byteAt_28 (by decide) ?_
    have h := Option.some.inj h
    subst h
    exact hret () dX4_byteAt_29 rfl hw
  · have h := itf k1 h
    refine lv_iload_n hx hb dX4_byteAt_4 rfl (lv_at hl 1 rfl) ?_
    refine lv_aload_n hx hb dX4_byteAt_5 rfl (lv_at hl 0 rfl) ?_
    refine TP_g_size X hw 0 rfl kf_X4_15 dX4_byteAt_6 ?_
    refine lv_icmp_ge (tgt := 28) hx hb dX4_byteAt_9 (by decide) (fun k9 => ?_) (fun k9 => ?_)
    · have h := itt k9 h
      refine lv_iconst (v := -1) hx hb dX4_byteAt_28 (by decide) ?_
      have h := Option.some.inj h
      subst h
      exact hret () dX4_byteAt_29 rfl hw
    · have h := itf k9 h
      refine lv_iload_n hx hb dX4_byteAt_12 rfl (lv_at hl 1 rfl) ?_
      refine lv_sipush (v := 250) hx hb dX4_byteAt_13 (by decide) ?_
      refine lv_icmp_ge (tgt := 28) hx hb dX4_byteAt_16 (by decide) (fun k16 => ?_) (fun k16 => ?_)
      · have h := itt k16 h
        refine lv_iconst (v := -1) hx hb dX4_byteAt_28 (by decide) ?_
        have h := Option.some.inj h
        subst h
        exact hret () dX4_byteAt_29 rfl hw
      · have h := itf k16 h
        refine lv_aload_n hx hb dX4_byteAt_19 rfl (lv_at hl 0 rfl) ?_
        refine TP_g_bytes X hw 0 rfl kf_X4_11 dX4_byteAt_20 ?_
        refine lv_iload_n hx hb dX4_byteAt_23 rfl (lv_at hl 1 rfl) ?_
        obtain ⟨q24, h⟩ := chk h
        refine TP_l_bytes X hw 0 rfl q24 dX4_byteAt_24 ?_
        refine lv_goto (tgt := 29) hx hb dX4_byteAt_25 (by decide) ?_
        have h := Option.some.inj h
        subst h
        exact hret () dX4_byteAt_29 rfl hw
theorem kM_X4_isLetter : kM yX4_isLetter cX4_isLetter 1 (some FieldType.boolean) 1 := ⟨kc_X4_isLetter, kn_RingsOff_Tape, by decide +kernel⟩
abbrev R_X4_isLetter : Room := { frames := 0, cells := 0, slots := 0, locals := 0 }
set_option maxHeartbeats 4000000 in
set_option maxRecDepth 100000 in
theorem c_X4_isLetter (l : Launch) {N : Nat} {p1 : Int32} {out : Int32} (h : M_X4_isLetter N p1 = some out) : gM l yX4_isLetter cX4_isLetter 1 (some FieldType.boolean) R_X4_isLetter (fun _ => [.int p1]) (fun g => []) (gQi (fun (_ : Unit) => out) (fun g (_ : Unit) => [])) := by
  refine gM.ofz (by decide +kernel) (fun _ => Nat.le_of_ble_eq_true rfl) (fun g p e s m args below meth c A ls Q X hret hw hl => ?_)
  have hx := X.1.1
  have hb := X.1.2.1
  have hl : lv_has ls 1 [(0, .int p1)] := hl
  unfold M_X4_isLetter at h
  refine lv_iload_n hx hb dX4_isLetter_0 rfl (lv_at hl 0 rfl) ?_
  refine lv_bipush (v := 97) hx hb dX4_isLetter_1 (by decide) ?_
  refine lv_icmp_lt (tgt := 16) hx hb dX4_isLetter_3 (by decide) (fun k3 => ?_) (fun k3 => ?_)
  · have h := itt k3 h
    refine lv_iconst (v := 0) hx hb dX4_isLetter_16 (by decide) ?_
    have h := Option.some.inj h
    subst h
    exact hret () dX4_isLetter_17 (by decide) rfl hw
  · have h := itf k3 h
    refine lv_iload_n hx hb dX4_isLetter_6 rfl (lv_at hl 0 rfl) ?_
    refine lv_bipush (v := 122) hx hb dX4_isLetter_7 (by decide) ?_
    refine lv_icmp_gt (tgt := 16) hx hb dX4_isLetter_9 (by decide) (fun k9 => ?_) (fun k9 => ?_)
    · have h := itt k9 h
      refine lv_iconst (v := 0) hx hb dX4_isLetter_16 (by decide) ?_
      have h := Option.some.inj h
      subst h
      exact hret () dX4_isLetter_17 (by decide) rfl hw
    · have h := itf k9 h
      refine lv_iconst (v := 1) hx hb dX4_isLetter_12 (by decide) ?_
      refine lv_goto (tgt := 17) hx hb dX4_isLetter_13 (by decide) ?_
      have h := Option.some.inj h
      subst h
      exact hret () dX4_isLetter_17 (by decide) rfl hw
theorem kM_X4_isDigit : kM yX4_isDigit cX4_isDigit 1 (some FieldType.boolean) 1 := ⟨kc_X4_isDigit, kn_RingsOff_Tape, by decide +kernel⟩
abbrev R_X4_isDigit : Room := { frames := 0, cells := 0, slots := 0, locals := 0 }
set_option maxHeartbeats 4000000 in
set_option maxRecDepth 100000 in
theorem c_X4_isDigit (l : Launch) {N : Nat} {p1 : Int32} {out : Int32} (h : M_X4_isDigit N p1 = some out) : gM l yX4_isDigit cX4_isDigit 1 (some FieldType.boolean) R_X4_isDigit (fun _ => [.int p1]) (fun g => []) (gQi (fun (_ : Unit) => out) (fun g (_ : Unit) => [])) := by
  refine gM.ofz (by decide +kernel) (fun _ => Nat.le_of_ble_eq_true rfl) (fun g p e s m args below meth c A ls Q X hret hw hl => ?_)
  have hx := X.1.1
  have hb := X.1.2.1
  have hl : lv_has ls 1 [(0, .int p1)] := hl
  unfold M_X4_isDigit at h
  refine lv_iload_n hx hb dX4_isDigit_0 rfl (lv_at hl 0 rfl) ?_
  refine lv_bipush (v := 48) hx hb dX4_isDigit_1 (by decide) ?_
  refine lv_icmp_lt (tgt := 16) hx hb dX4_isDigit_3 (by decide) (fun k3 => ?_) (fun k3 => ?_)
  · have h := itt k3 h
    refine lv_iconst (v := 0) hx hb dX4_isDigit_16 (by decide) ?_
    have h := Option.some.inj h
    subst h
    exact hret () dX4_isDigit_17 (by decide) rfl hw
  · have h := itf k3 h
    refine lv_iload_n hx hb dX4_isDigit_6 rfl (lv_at hl 0 rfl) ?_
    refine lv_bipush (v := 57) hx hb dX4_isDigit_7 (by decide) ?_
    refine lv_icmp_gt (tgt := 16) hx hb dX4_isDigit_9 (by decide) (fun k9 => ?_) (fun k9 => ?_)
    · have h := itt k9 h
      refine lv_iconst (v := 0) hx hb dX4_isDigit_16 (by decide) ?_
      have h := Option.some.inj h
      subst h
      exact hret () dX4_isDigit_17 (by decide) rfl hw
    · have h := itf k9 h
      refine lv_iconst (v := 1) hx hb dX4_isDigit_12 (by decide) ?_
      refine lv_goto (tgt := 17) hx hb dX4_isDigit_13 (by decide) ?_
      have h := Option.some.inj h
      subst h
      exact hret () dX4_isDigit_17 (by decide) rfl hw
theorem kM_X4_readToken : kM yX4_readToken cX4_readToken 2 (none : Option Jvm.ClassFile.FieldType) 0 := ⟨kc_X4_readToken, kn_RingsOff_Tape, by decide +kernel⟩
abbrev R_X4_readToken : Room := { frames := 1, cells := 0, slots := 0, locals := 21 }
set_option maxHeartbeats 4000000 in
set_option maxRecDepth 100000 in
theorem c_X4_readToken (l : Launch) {ad : Nat → Nat} {N : Nat} {tp : TP} {out : TP} (h : M_X4_readToken N tp = some out) : gM l yX4_readToken cX4_readToken 2 (none : Option Jvm.ClassFile.FieldType) R_X4_readToken (fun _ => [.ref (ad 0)]) (fun g => [wTP g ad tp]) (gQv (fun g (_ : Unit) => [wTP g ad out])) := by
  refine gM.ofv (by decide +kernel) (fun _ => Nat.le_of_ble_eq_true rfl) (fun g p e s m args below meth c A ls Q X hret hw hl => ?_)
  have hx := X.1.1
  have hb := X.1.2.1
  have hl : lv_has ls 2 [(0, .ref (ad 0))] := hl
  have L164 : ∀ (n : Nat) (z164 : TP), lp (M_X4_readToken_l164 N) n z164 = some out → ∀ (H : Heap) (locs : List Loc) (ls : Array Slot), gW g A s.heap [wTP g ad z164] H locs → lv_has ls 2 [(0, .ref (ad 0))] → W p l e R_X4_readToken s m args below meth c H locs 0 0 Q (F0 m 164 ls []) := by
    refine lp_ind ?_
    intro rec164 ih164
    intro z164 h H locs ls hw hl
    unfold M_X4_readToken_l164 at h
    refine lv_aload_n hx hb dX4_readToken_164 rfl (lv_at hl 0 rfl) ?_
    refine TP_g_at X hw 0 rfl kf_X4_19 dX4_readToken_165 ?_
    refine lv_aload_n hx hb dX4_readToken_168 rfl (lv_at hl 0 rfl) ?_
    refine TP_g_size X hw 0 rfl kf_X4_15 dX4_readToken_169 ?_
    refine lv_icmp_ge (tgt := 230) hx hb dX4_readToken_172 (by decide) (fun k172 => ?_) (fun k172 => ?_)
    · have h := itt k172 h
      have h := Option.some.inj h
      subst h
      exact hret () dX4_readToken_230 hw
    · have h := itf k172 h
      refine lv_aload_n hx hb dX4_readToken_175 rfl (lv_at hl 0 rfl) ?_
      refine lv_aload_n hx hb dX4_readToken_176 rfl (lv_at hl 0 rfl) ?_
      refine TP_g_at X hw 0 rfl kf_X4_19 dX4_readToken_177 ?_
      obtain ⟨r180, h180, h⟩ := bnd h
      refine g_calli0 (isC := [0]) (gn := fun _ => [wTP g ad z164]) (g_runV (isC := [0]) (rest := []) (As := [.int (TP_at z164)]) X hw (c_X4_byteAt l (ad := ad) h180) rfl kM_X4_byteAt ki_X4_byteAt ks_X4_byteAt km_X4_131 ⟨(Nat.le_of_ble_eq_true rfl), (Nat.le_of_ble_eq_true rfl)⟩ ⟨(Nat.le_of_ble_eq_true rfl), (Nat.le_of_ble_eq_true rfl)⟩ rfl rfl ⟨_, _, _, _, rfl, rfl, rfl, rfl⟩ rfl hl.1 rfl (Nat.le_of_ble_eq_true rfl) dX4_readToken_180) hw rfl rfl (fun _ => (Nat.le_of_ble_eq_true rfl)) (fun _ => rfl) rfl rfl (fun _ H locs hw => ?_)
      obtain ⟨r183, h183, h⟩ := bnd h
      refine g_calli0 (isC := []) (gn := fun _ => [wTP g ad z164]) (g_runS (isC := []) (rest := []) (As := [.int r180]) X hw (c_X4_isDigit l h183) rfl kM_X4_isDigit kt_X4_isDigit km_X4_137 ⟨(Nat.le_of_ble_eq_true rfl), (Nat.le_of_ble_eq_true rfl)⟩ ⟨(Nat.le_of_ble_eq_true rfl), (Nat.le_of_ble_eq_true rfl)⟩ rfl rfl rfl hl.1 rfl (Nat.le_of_ble_eq_true rfl) dX4_readToken_183) hw rfl rfl (fun _ => (Nat.le_of_ble_eq_true rfl)) (fun _ => rfl) rfl rfl (fun _ H locs hw => ?_)
      refine lv_if_eq (tgt := 230) hx hb dX4_readToken_186 (by decide) (fun k186 => ?_) (fun k186 => ?_)
      · have h := itt k186 h
        have h := Option.some.inj h
        subst h
        exact hret () dX4_readToken_230 hw
      · have h := itf k186 h
        refine lv_aload_n hx hb dX4_readToken_189 rfl (lv_at hl 0 rfl) ?_
        refine lv_aload_n hx hb dX4_readToken_190 rfl (lv_at hl 0 rfl) ?_
        refine TP_g_value X hw 0 rfl kf_X4_28 dX4_readToken_191 ?_
        refine lv_bipush (v := 10) hx hb dX4_readToken_194 (by decide) ?_
        refine lv_imul hx hb dX4_readToken_196 ?_
        refine lv_aload_n hx hb dX4_readToken_197 rfl (lv_at hl 0 rfl) ?_
        refine lv_aload_n hx hb dX4_readToken_198 rfl (lv_at hl 0 rfl) ?_
        refine TP_g_at X hw 0 rfl kf_X4_19 dX4_readToken_199 ?_
        obtain ⟨r202, h202, h⟩ := bnd h
        refine g_calli0 (isC := [0]) (gn := fun _ => [wTP g ad z164]) (g_runV (isC := [0]) (rest := [.int ((TP_value z164) * (10 : Int32)), .ref (ad 0)]) (As := [.int (TP_at z164)]) X hw (c_X4_byteAt l (ad := ad) h202) rfl kM_X4_byteAt ki_X4_byteAt ks_X4_byteAt km_X4_131 ⟨(Nat.le_of_ble_eq_true rfl), (Nat.le_of_ble_eq_true rfl)⟩ ⟨(Nat.le_of_ble_eq_true rfl), (Nat.le_of_ble_eq_true rfl)⟩ rfl rfl ⟨_, _, _, _, rfl, rfl, rfl, rfl⟩ rfl hl.1 rfl (Nat.le_of_ble_eq_true rfl) dX4_readToken_202) hw rfl rfl (fun _ => (Nat.le_of_ble_eq_true rfl)) (fun _ => rfl) rfl rfl (fun _ H locs hw => ?_)
        refine lv_iadd hx hb dX4_readToken_205 ?_
        refine lv_bipush (v := 48) hx hb dX4_readToken_206 (by decide) ?_
        refine lv_isub hx hb dX4_readToken_208 ?_
        refine TP_p_value (gs' := [wTP g ad (TP_s_value z164 ((((TP_value z164) * (10 : Int32)) + r202) - (48 : Int32)))]) X hw 0 rfl kf_X4_28 dX4_readToken_209 rfl (fun H locs hw => ?_)
        refine lv_aload_n hx hb dX4_readToken_212 rfl (lv_at hl 0 rfl) ?_
        refine lv_dup hx hb dX4_readToken_213 rfl ?_
        refine TP_g_at X hw 0 rfl kf_X4_19 dX4_readToken_214 ?_
        refine lv_iconst (v := 1) hx hb dX4_readToken_217 (by decide) ?_
        refine lv_iadd hx hb dX4_readToken_218 ?_
        refine TP_p_at (gs' := [wTP g ad (TP_s_at (TP_s_value z164 ((((TP_value z164) * (10 : Int32)) + r202) - (48 : Int32))) ((TP_at (TP_s_value z164 ((((TP_value z164) * (10 : Int32)) + r202) - (48 : Int32)))) + (1 : Int32)))]) X hw 0 rfl kf_X4_19 dX4_readToken_219 rfl (fun H locs hw => ?_)
        refine lv_goto (tgt := 164) hx hb dX4_readToken_222 (by decide) ?_
        exact ih164 _ h _ _ _ hw (lv_sub hl [0] rfl)
  have L109 : ∀ (n : Nat) (z109 : TP), lp (M_X4_readToken_l109 N) n z109 = some out → ∀ (H : Heap) (locs : List Loc) (ls : Array Slot), gW g A s.heap [wTP g ad z109] H locs → lv_has ls 2 [(0, .ref (ad 0))] → W p l e R_X4_readToken s m args below meth c H locs 0 0 Q (F0 m 109 ls []) := by
    refine lp_ind ?_
    intro rec109 ih109
    intro z109 h H locs ls hw hl
    unfold M_X4_readToken_l109 at h
    refine lv_aload_n hx hb dX4_readToken_109 rfl (lv_at hl 0 rfl) ?_
    refine TP_g_at X hw 0 rfl kf_X4_19 dX4_readToken_110 ?_
    refine lv_aload_n hx hb dX4_readToken_113 rfl (lv_at hl 0 rfl) ?_
    refine TP_g_size X hw 0 rfl kf_X4_15 dX4_readToken_114 ?_
    refine lv_icmp_ge (tgt := 230) hx hb dX4_readToken_117 (by decide) (fun k117 => ?_) (fun k117 => ?_)
    · have h := itt k117 h
      have h := Option.some.inj h
      subst h
      exact hret () dX4_readToken_230 hw
    · have h := itf k117 h
      refine lv_aload_n hx hb dX4_readToken_120 rfl (lv_at hl 0 rfl) ?_
      refine lv_aload_n hx hb dX4_readToken_121 rfl (lv_at hl 0 rfl) ?_
      refine TP_g_at X hw 0 rfl kf_X4_19 dX4_readToken_122 ?_
      obtain ⟨r125, h125, h⟩ := bnd h
      refine g_calli0 (isC := [0]) (gn := fun _ => [wTP g ad z109]) (g_runV (isC := [0]) (rest := []) (As := [.int (TP_at z109)]) X hw (c_X4_byteAt l (ad := ad) h125) rfl kM_X4_byteAt ki_X4_byteAt ks_X4_byteAt km_X4_131 ⟨(Nat.le_of_ble_eq_true rfl), (Nat.le_of_ble_eq_true rfl)⟩ ⟨(Nat.le_of_ble_eq_true rfl), (Nat.le_of_ble_eq_true rfl)⟩ rfl rfl ⟨_, _, _, _, rfl, rfl, rfl, rfl⟩ rfl hl.1 rfl (Nat.le_of_ble_eq_true rfl) dX4_readToken_125) hw rfl rfl (fun _ => (Nat.le_of_ble_eq_true rfl)) (fun _ => rfl) rfl rfl (fun _ H locs hw => ?_)
      obtain ⟨r128, h128, h⟩ := bnd h
      refine g_calli0 (isC := []) (gn := fun _ => [wTP g ad z109]) (g_runS (isC := []) (rest := []) (As := [.int r125]) X hw (c_X4_isLetter l h128) rfl kM_X4_isLetter kt_X4_isLetter km_X4_134 ⟨(Nat.le_of_ble_eq_true rfl), (Nat.le_of_ble_eq_true rfl)⟩ ⟨(Nat.le_of_ble_eq_true rfl), (Nat.le_of_ble_eq_true rfl)⟩ rfl rfl rfl hl.1 rfl (Nat.le_of_ble_eq_true rfl) dX4_readToken_128) hw rfl rfl (fun _ => (Nat.le_of_ble_eq_true rfl)) (fun _ => rfl) rfl rfl (fun _ H locs hw => ?_)
      refine lv_if_eq (tgt := 230) hx hb dX4_readToken_131 (by decide) (fun k131 => ?_) (fun k131 => ?_)
      · have h := itt k131 h
        have h := Option.some.inj h
        subst h
        exact hret () dX4_readToken_230 hw
      · have h := itf k131 h
        refine lv_aload_n hx hb dX4_readToken_134 rfl (lv_at hl 0 rfl) ?_
        refine lv_dup hx hb dX4_readToken_135 rfl ?_
        refine TP_g_at X hw 0 rfl kf_X4_19 dX4_readToken_136 ?_
        refine lv_iconst (v := 1) hx hb dX4_readToken_139 (by decide) ?_
        refine lv_iadd hx hb dX4_readToken_140 ?_
        refine TP_p_at (gs' := [wTP g ad (TP_s_at z109 ((TP_at z109) + (1 : Int32)))]) X hw 0 rfl kf_X4_19 dX4_readToken_141 rfl (fun H locs hw => ?_)
        refine lv_goto (tgt := 109) hx hb dX4_readToken_144 (by decide) ?_
        exact ih109 _ h _ _ _ hw (lv_sub hl [0] rfl)
  have J37 : ∀ (z37 : TP), M_X4_readToken_j37 N z37 = some out → ∀ (H : Heap) (locs : List Loc) (ls : Array Slot), gW g A s.heap [wTP g ad z37] H locs → lv_has ls 2 [(0, .ref (ad 0))] → W p l e R_X4_readToken s m args below meth c H locs 0 0 Q (F0 m 37 ls []) := by
    intro z37 h H locs ls hw hl
    unfold M_X4_readToken_j37 at h
    refine lv_aload_n hx hb dX4_readToken_37 rfl (lv_at hl 0 rfl) ?_
    refine lv_aload_n hx hb dX4_readToken_38 rfl (lv_at hl 0 rfl) ?_
    refine TP_g_at X hw 0 rfl kf_X4_19 dX4_readToken_39 ?_
    refine TP_p_start (gs' := [wTP g ad (TP_s_start z37 (TP_at z37))]) X hw 0 rfl kf_X4_22 dX4_readToken_42 rfl (fun H locs hw => ?_)
    refine lv_aload_n hx hb dX4_readToken_45 rfl (lv_at hl 0 rfl) ?_
    refine lv_aload_n hx hb dX4_readToken_46 rfl (lv_at hl 0 rfl) ?_
    refine TP_g_at X hw 0 rfl kf_X4_19 dX4_readToken_47 ?_
    obtain ⟨r50, h50, h⟩ := bnd h
    refine g_calli0 (isC := [0]) (gn := fun _ => [wTP g ad (TP_s_start z37 (TP_at z37))]) (g_runV (isC := [0]) (rest := []) (As := [.int (TP_at (TP_s_start z37 (TP_at z37)))]) X hw (c_X4_byteAt l (ad := ad) h50) rfl kM_X4_byteAt ki_X4_byteAt ks_X4_byteAt km_X4_131 ⟨(Nat.le_of_ble_eq_true rfl), (Nat.le_of_ble_eq_true rfl)⟩ ⟨(Nat.le_of_ble_eq_true rfl), (Nat.le_of_ble_eq_true rfl)⟩ rfl rfl ⟨_, _, _, _, rfl, rfl, rfl, rfl⟩ rfl hl.1 rfl (Nat.le_of_ble_eq_true rfl) dX4_readToken_50) hw rfl rfl (fun _ => (Nat.le_of_ble_eq_true rfl)) (fun _ => rfl) rfl rfl (fun _ H locs hw => ?_)
    refine lv_istore_n (lv' := [(1, .int r50), (0, .ref (ad 0))]) hx hb dX4_readToken_53 rfl hl (by decide) rfl (fun ls hl => ?_)
    refine lv_aload_n hx hb dX4_readToken_54 rfl (lv_at hl 1 rfl) ?_
    refine TP_g_at X hw 0 rfl kf_X4_19 dX4_readToken_55 ?_
    refine lv_aload_n hx hb dX4_readToken_58 rfl (lv_at hl 1 rfl) ?_
    refine TP_g_size X hw 0 rfl kf_X4_15 dX4_readToken_59 ?_
    refine lv_icmp_lt (tgt := 73) hx hb dX4_readToken_62 (by decide) (fun k62 => ?_) (fun k62 => ?_)
    · have h := itt k62 h
      refine lv_iload_n hx hb dX4_readToken_73 rfl (lv_at hl 0 rfl) ?_
      refine lv_bipush (v := 59) hx hb dX4_readToken_74 (by decide) ?_
      refine lv_icmp_ne (tgt := 97) hx hb dX4_readToken_76 (by decide) (fun k76 => ?_) (fun k76 => ?_)
      · have h := itt k76 h
        refine lv_iload_n hx hb dX4_readToken_97 rfl (lv_at hl 0 rfl) ?_
        obtain ⟨r98, h98, h⟩ := bnd h
        refine g_calli0 (isC := []) (gn := fun _ => [wTP g ad (TP_s_start z37 (TP_at z37))]) (g_runS (isC := []) (rest := []) (As := [.int r50]) X hw (c_X4_isLetter l h98) rfl kM_X4_isLetter kt_X4_isLetter km_X4_134 ⟨(Nat.le_of_ble_eq_true rfl), (Nat.le_of_ble_eq_true rfl)⟩ ⟨(Nat.le_of_ble_eq_true rfl), (Nat.le_of_ble_eq_true rfl)⟩ rfl rfl rfl hl.1 rfl (Nat.le_of_ble_eq_true rfl) dX4_readToken_98) hw rfl rfl (fun _ => (Nat.le_of_ble_eq_true rfl)) (fun _ => rfl) rfl rfl (fun _ H locs hw => ?_)
        refine lv_if_eq (tgt := 147) hx hb dX4_readToken_101 (by decide) (fun k101 => ?_) (fun k101 => ?_)
        · have h := itt k101 h
          refine lv_iload_n hx hb dX4_readToken_147 rfl (lv_at hl 0 rfl) ?_
          obtain ⟨r148, h148, h⟩ := bnd h
          refine g_calli0 (isC := []) (gn := fun _ => [wTP g ad (TP_s_start z37 (TP_at z37))]) (g_runS (isC := []) (rest := []) (As := [.int r50]) X hw (c_X4_isDigit l h148) rfl kM_X4_isDigit kt_X4_isDigit km_X4_137 ⟨(Nat.le_of_ble_eq_true rfl), (Nat.le_of_ble_eq_true rfl)⟩ ⟨(Nat.le_of_ble_eq_true rfl), (Nat.le_of_ble_eq_true rfl)⟩ rfl rfl rfl hl.1 rfl (Nat.le_of_ble_eq_true rfl) dX4_readToken_148) hw rfl rfl (fun _ => (Nat.le_of_ble_eq_true rfl)) (fun _ => rfl) rfl rfl (fun _ H locs hw => ?_)
          refine lv_if_eq (tgt := 225) hx hb dX4_readToken_151 (by decide) (fun k151 => ?_) (fun k151 => ?_)
          · have h := itt k151 h
            refine lv_aload_n hx hb dX4_readToken_225 rfl (lv_at hl 1 rfl) ?_
            refine lv_iconst (v := 4) hx hb dX4_readToken_226 (by decide) ?_
            refine TP_p_type (gs' := [wTP g ad (TP_s_type (TP_s_start z37 (TP_at z37)) (4 : Int32))]) X hw 0 rfl kf_X4_25 dX4_readToken_227 rfl (fun H locs hw => ?_)
            have h := Option.some.inj h
            subst h
            exact hret () dX4_readToken_230 hw
          · have h := itf k151 h
            refine lv_aload_n hx hb dX4_readToken_154 rfl (lv_at hl 1 rfl) ?_
            refine lv_iconst (v := 2) hx hb dX4_readToken_155 (by decide) ?_
            refine TP_p_type (gs' := [wTP g ad (TP_s_type (TP_s_start z37 (TP_at z37)) (2 : Int32))]) X hw 0 rfl kf_X4_25 dX4_readToken_156 rfl (fun H locs hw => ?_)
            refine lv_aload_n hx hb dX4_readToken_159 rfl (lv_at hl 1 rfl) ?_
            refine lv_iconst (v := 0) hx hb dX4_readToken_160 (by decide) ?_
            refine TP_p_value (gs' := [wTP g ad (TP_s_value (TP_s_type (TP_s_start z37 (TP_at z37)) (2 : Int32)) (0 : Int32))]) X hw 0 rfl kf_X4_28 dX4_readToken_161 rfl (fun H locs hw => ?_)
            exact L164 N _ h _ _ _ hw (lv_sub hl [1] rfl)
        · have h := itf k101 h
          refine lv_aload_n hx hb dX4_readToken_104 rfl (lv_at hl 1 rfl) ?_
          refine lv_iconst (v := 1) hx hb dX4_readToken_105 (by decide) ?_
          refine TP_p_type (gs' := [wTP g ad (TP_s_type (TP_s_start z37 (TP_at z37)) (1 : Int32))]) X hw 0 rfl kf_X4_25 dX4_readToken_106 rfl (fun H locs hw => ?_)
          exact L109 N _ h _ _ _ hw (lv_sub hl [1] rfl)
      · have h := itf (fun z => z k76) h
        refine lv_aload_n hx hb dX4_readToken_79 rfl (lv_at hl 1 rfl) ?_
        refine lv_iconst (v := 3) hx hb dX4_readToken_80 (by decide) ?_
        refine TP_p_type (gs' := [wTP g ad (TP_s_type (TP_s_start z37 (TP_at z37)) (3 : Int32))]) X hw 0 rfl kf_X4_25 dX4_readToken_81 rfl (fun H locs hw => ?_)
        refine lv_aload_n hx hb dX4_readToken_84 rfl (lv_at hl 1 rfl) ?_
        refine lv_dup hx hb dX4_readToken_85 rfl ?_
        refine TP_g_at X hw 0 rfl kf_X4_19 dX4_readToken_86 ?_
        refine lv_iconst (v := 1) hx hb dX4_readToken_89 (by decide) ?_
        refine lv_iadd hx hb dX4_readToken_90 ?_
        refine TP_p_at (gs' := [wTP g ad (TP_s_at (TP_s_type (TP_s_start z37 (TP_at z37)) (3 : Int32)) ((TP_at (TP_s_type (TP_s_start z37 (TP_at z37)) (3 : Int32))) + (1 : Int32)))]) X hw 0 rfl kf_X4_19 dX4_readToken_91 rfl (fun H locs hw => ?_)
        refine lv_goto (tgt := 230) hx hb dX4_readToken_94 (by decide) ?_
        have h := Option.some.inj h
        subst h
        exact hret () dX4_readToken_230 hw
    · have h := itf k62 h
      refine lv_aload_n hx hb dX4_readToken_65 rfl (lv_at hl 1 rfl) ?_
      refine lv_iconst (v := 0) hx hb dX4_readToken_66 (by decide) ?_
      refine TP_p_type (gs' := [wTP g ad (TP_s_type (TP_s_start z37 (TP_at z37)) (0 : Int32))]) X hw 0 rfl kf_X4_25 dX4_readToken_67 rfl (fun H locs hw => ?_)
      refine lv_goto (tgt := 230) hx hb dX4_readToken_70 (by decide) ?_
      have h := Option.some.inj h
      subst h
      exact hret () dX4_readToken_230 hw
  have L0 : ∀ (n : Nat) (z0 : TP), lp (M_X4_readToken_l0 N) n z0 = some out → ∀ (H : Heap) (locs : List Loc) (ls : Array Slot), gW g A s.heap [wTP g ad z0] H locs → lv_has ls 2 [(0, .ref (ad 0))] → W p l e R_X4_readToken s m args below meth c H locs 0 0 Q (F0 m 0 ls []) := by
    refine lp_ind ?_
    intro rec0 ih0
    intro z0 h H locs ls hw hl
    unfold M_X4_readToken_l0 at h
    refine lv_aload_n hx hb dX4_readToken_0 rfl (lv_at hl 0 rfl) ?_
    refine TP_g_at X hw 0 rfl kf_X4_19 dX4_readToken_1 ?_
    refine lv_aload_n hx hb dX4_readToken_4 rfl (lv_at hl 0 rfl) ?_
    refine TP_g_size X hw 0 rfl kf_X4_15 dX4_readToken_5 ?_
    refine lv_icmp_ge (tgt := 37) hx hb dX4_readToken_8 (by decide) (fun k8 => ?_) (fun k8 => ?_)
    · have h := itt k8 h
      exact J37 _ h _ _ _ hw (lv_sub hl [0] rfl)
    · have h := itf k8 h
      refine lv_aload_n hx hb dX4_readToken_11 rfl (lv_at hl 0 rfl) ?_
      refine lv_aload_n hx hb dX4_readToken_12 rfl (lv_at hl 0 rfl) ?_
      refine TP_g_at X hw 0 rfl kf_X4_19 dX4_readToken_13 ?_
      obtain ⟨r16, h16, h⟩ := bnd h
      refine g_calli0 (isC := [0]) (gn := fun _ => [wTP g ad z0]) (g_runV (isC := [0]) (rest := []) (As := [.int (TP_at z0)]) X hw (c_X4_byteAt l (ad := ad) h16) rfl kM_X4_byteAt ki_X4_byteAt ks_X4_byteAt km_X4_131 ⟨(Nat.le_of_ble_eq_true rfl), (Nat.le_of_ble_eq_true rfl)⟩ ⟨(Nat.le_of_ble_eq_true rfl), (Nat.le_of_ble_eq_true rfl)⟩ rfl rfl ⟨_, _, _, _, rfl, rfl, rfl, rfl⟩ rfl hl.1 rfl (Nat.le_of_ble_eq_true rfl) dX4_readToken_16) hw rfl rfl (fun _ => (Nat.le_of_ble_eq_true rfl)) (fun _ => rfl) rfl rfl (fun _ H locs hw => ?_)
      refine lv_bipush (v := 32) hx hb dX4_readToken_19 (by decide) ?_
      refine lv_icmp_ne (tgt := 37) hx hb dX4_readToken_21 (by decide) (fun k21 => ?_) (fun k21 => ?_)
      · have h := itt k21 h
        exact J37 _ h _ _ _ hw (lv_sub hl [0] rfl)
      · have h := itf (fun z => z k21) h
        refine lv_aload_n hx hb dX4_readToken_24 rfl (lv_at hl 0 rfl) ?_
        refine lv_dup hx hb dX4_readToken_25 rfl ?_
        refine TP_g_at X hw 0 rfl kf_X4_19 dX4_readToken_26 ?_
        refine lv_iconst (v := 1) hx hb dX4_readToken_29 (by decide) ?_
        refine lv_iadd hx hb dX4_readToken_30 ?_
        refine TP_p_at (gs' := [wTP g ad (TP_s_at z0 ((TP_at z0) + (1 : Int32)))]) X hw 0 rfl kf_X4_19 dX4_readToken_31 rfl (fun H locs hw => ?_)
        refine lv_goto (tgt := 0) hx hb dX4_readToken_34 (by decide) ?_
        exact ih0 _ h _ _ _ hw (lv_sub hl [0] rfl)
  unfold M_X4_readToken at h
  exact L0 N _ h _ _ _ hw (lv_sub hl [0] rfl)
theorem kM_X4_readNumber : kM yX4_readNumber cX4_readNumber 1 (some FieldType.boolean) 0 := ⟨kc_X4_readNumber, kn_RingsOff_Tape, by decide +kernel⟩
abbrev R_X4_readNumber : Room := { frames := 2, cells := 0, slots := 0, locals := 42 }
set_option maxHeartbeats 4000000 in
set_option maxRecDepth 100000 in
theorem c_X4_readNumber (l : Launch) {ad : Nat → Nat} {N : Nat} {tp : TP} {out : Int32 × TP} (h : M_X4_readNumber N tp = some out) : gM l yX4_readNumber cX4_readNumber 1 (some FieldType.boolean) R_X4_readNumber (fun _ => [.ref (ad 0)]) (fun g => [wTP g ad tp]) (gQi (fun (_ : Unit) => out.1) (fun g (_ : Unit) => [wTP g ad out.2])) := by
  refine gM.ofz (by decide +kernel) (fun _ => Nat.le_of_ble_eq_true rfl) (fun g p e s m args below meth c A ls Q X hret hw hl => ?_)
  have hx := X.1.1
  have hb := X.1.2.1
  have hl : lv_has ls 1 [(0, .ref (ad 0))] := hl
  unfold M_X4_readNumber at h
  refine lv_aload_n hx hb dX4_readNumber_0 rfl (lv_at hl 0 rfl) ?_
  obtain ⟨r1, h1, h⟩ := bnd h
  refine g_callv0 (isC := [0]) (gn := fun _ => [wTP g ad r1]) (g_runV (isC := [0]) (rest := []) (As := []) X hw (c_X4_readToken l (ad := ad) h1) rfl kM_X4_readToken ki_X4_readToken ks_X4_readToken km_X4_35 ⟨(Nat.le_of_ble_eq_true rfl), (Nat.le_of_ble_eq_true rfl)⟩ ⟨(Nat.le_of_ble_eq_true rfl), (Nat.le_of_ble_eq_true rfl)⟩ rfl rfl ⟨_, _, _, _, rfl, rfl, rfl, rfl⟩ rfl hl.1 rfl (Nat.le_of_ble_eq_true rfl) dX4_readNumber_1) hw rfl rfl (fun _ => (Nat.le_of_ble_eq_true rfl)) (fun _ => rfl) rfl rfl (fun _ H locs hw => ?_)
  refine lv_aload_n hx hb dX4_readNumber_4 rfl (lv_at hl 0 rfl) ?_
  refine TP_g_type X hw 0 rfl kf_X4_25 dX4_readNumber_5 ?_
  refine lv_iconst (v := 2) hx hb dX4_readNumber_8 (by decide) ?_
  refine lv_icmp_ne (tgt := 29) hx hb dX4_readNumber_9 (by decide) (fun k9 => ?_) (fun k9 => ?_)
  · have h := itt k9 h
    refine lv_iconst (v := 0) hx hb dX4_readNumber_29 (by decide) ?_
    have h := Option.some.inj h
    subst h
    exact hret () dX4_readNumber_30 (by decide) rfl hw
  · have h := itf (fun z => z k9) h
    refine lv_aload_n hx hb dX4_readNumber_12 rfl (lv_at hl 0 rfl) ?_
    refine TP_g_at X hw 0 rfl kf_X4_19 dX4_readNumber_13 ?_
    refine lv_aload_n hx hb dX4_readNumber_16 rfl (lv_at hl 0 rfl) ?_
    refine TP_g_start X hw 0 rfl kf_X4_22 dX4_readNumber_17 ?_
    refine lv_isub hx hb dX4_readNumber_20 ?_
    refine lv_iconst (v := 4) hx hb dX4_readNumber_21 (by decide) ?_
    refine lv_icmp_gt (tgt := 29) hx hb dX4_readNumber_22 (by decide) (fun k22 => ?_) (fun k22 => ?_)
    · have h := itt k22 h
      refine lv_iconst (v := 0) hx hb dX4_readNumber_29 (by decide) ?_
      have h := Option.some.inj h
      subst h
      exact hret () dX4_readNumber_30 (by decide) rfl hw
    · have h := itf k22 h
      refine lv_iconst (v := 1) hx hb dX4_readNumber_25 (by decide) ?_
      refine lv_goto (tgt := 30) hx hb dX4_readNumber_26 (by decide) ?_
      have h := Option.some.inj h
      subst h
      exact hret () dX4_readNumber_30 (by decide) rfl hw
theorem kM_X4_readStuck : kM yX4_readStuck cX4_readStuck 3 (some FieldType.boolean) 1 := ⟨kc_X4_readStuck, kn_RingsOff_Tape, by decide +kernel⟩
abbrev R_X4_readStuck : Room := { frames := 3, cells := 0, slots := 0, locals := 62 }
set_option maxHeartbeats 4000000 in
set_option maxRecDepth 100000 in
theorem c_X4_readStuck (l : Launch) {ad : Nat → Nat} {ad1 : Nat → Nat} {N : Nat} {tp : TP} {ev : EV} {out : Int32 × TP × EV} (h : M_X4_readStuck N tp ev = some out) : gM l yX4_readStuck cX4_readStuck 3 (some FieldType.boolean) R_X4_readStuck (fun _ => [.ref (ad 0), .ref (ad1 0)]) (fun g => [wTP g ad tp, wEV g ad1 ev]) (gQi (fun (_ : Unit) => out.1) (fun g (_ : Unit) => [wTP g ad out.2.1, wEV g ad1 out.2.2])) := by
  refine gM.ofz (by decide +kernel) (fun _ => Nat.le_of_ble_eq_true rfl) (fun g p e s m args below meth c A ls Q X hret hw hl => ?_)
  have hx := X.1.1
  have hb := X.1.2.1
  have hl : lv_has ls 3 [(0, .ref (ad 0)), (1, .ref (ad1 0))] := hl
  unfold M_X4_readStuck at h
  refine lv_aload_n hx hb dX4_readStuck_0 rfl (lv_at hl 0 rfl) ?_
  obtain ⟨r1, h1, h⟩ := bnd h
  refine g_calli0 (isC := [0]) (gn := fun _ => [wTP g ad r1.2, wEV g ad1 ev]) (g_runV (isC := [0]) (rest := []) (As := []) X hw (c_X4_readNumber l (ad := ad) h1) rfl kM_X4_readNumber ki_X4_readNumber ks_X4_readNumber km_X4_74 ⟨(Nat.le_of_ble_eq_true rfl), (Nat.le_of_ble_eq_true rfl)⟩ ⟨(Nat.le_of_ble_eq_true rfl), (Nat.le_of_ble_eq_true rfl)⟩ rfl rfl ⟨_, _, _, _, rfl, rfl, rfl, rfl⟩ rfl hl.1 rfl (Nat.le_of_ble_eq_true rfl) dX4_readStuck_1) hw rfl rfl (fun _ => (Nat.le_of_ble_eq_true rfl)) (fun _ => rfl) rfl rfl (fun _ H locs hw => ?_)
  refine lv_if_eq (tgt := 18) hx hb dX4_readStuck_4 (by decide) (fun k4 => ?_) (fun k4 => ?_)
  · have h := itt k4 h
    refine lv_iconst (v := 0) hx hb dX4_readStuck_18 (by decide) ?_
    have h := Option.some.inj h
    subst h
    exact hret () dX4_readStuck_19 (by decide) rfl hw
  · have h := itf k4 h
    refine lv_aload_n hx hb dX4_readStuck_7 rfl (lv_at hl 1 rfl) ?_
    refine lv_aload_n hx hb dX4_readStuck_8 rfl (lv_at hl 0 rfl) ?_
    refine TP_g_value X hw 0 rfl kf_X4_28 dX4_readStuck_9 ?_
    obtain ⟨r12, h12, h⟩ := bnd h
    refine g_calli0 (isC := [1]) (gn := fun _ => [wTP g ad r1.2, wEV g ad1 ev]) (g_runVN (isC := [1]) (rest := []) (As := [.int (TP_value r1.2)]) X hw (c_X0_hasBar l (ad := ad1) h12) rfl kM_X0_hasBar ki_X0_hasBar ks_X0_hasBar km_X4_91 ⟨(Nat.le_of_ble_eq_true rfl), (Nat.le_of_ble_eq_true rfl)⟩ ⟨(Nat.le_of_ble_eq_true rfl), (Nat.le_of_ble_eq_true rfl)⟩ rfl rfl ⟨_, _, _, _, rfl, rfl, rfl, rfl⟩ rfl hl.1 rfl (Nat.le_of_ble_eq_true rfl) dX4_readStuck_12) hw rfl rfl (fun _ => (Nat.le_of_ble_eq_true rfl)) (fun _ => rfl) rfl rfl (fun _ H locs hw => ?_)
    refine lv_if_ne (tgt := 20) hx hb dX4_readStuck_15 (by decide) (fun k15 => ?_) (fun k15 => ?_)
    · have h := itt k15 h
      refine lv_aload_n hx hb dX4_readStuck_20 rfl (lv_at hl 0 rfl) ?_
      refine TP_g_value X hw 0 rfl kf_X4_28 dX4_readStuck_21 ?_
      refine lv_istore_n (lv' := [(2, .int (TP_value r1.2)), (0, .ref (ad 0)), (1, .ref (ad1 0))]) hx hb dX4_readStuck_24 rfl hl (by decide) rfl (fun ls hl => ?_)
      refine lv_aload_n hx hb dX4_readStuck_25 rfl (lv_at hl 1 rfl) ?_
      obtain ⟨r26, h26, h⟩ := bnd h
      refine g_calli0 (isC := [0]) (gn := fun _ => [wTP g ad r26.2, wEV g ad1 ev]) (g_runV (isC := [0]) (rest := []) (As := []) X hw (c_X4_readNumber l (ad := ad) h26) rfl kM_X4_readNumber ki_X4_readNumber ks_X4_readNumber km_X4_74 ⟨(Nat.le_of_ble_eq_true rfl), (Nat.le_of_ble_eq_true rfl)⟩ ⟨(Nat.le_of_ble_eq_true rfl), (Nat.le_of_ble_eq_true rfl)⟩ rfl rfl ⟨_, _, _, _, rfl, rfl, rfl, rfl⟩ rfl hl.1 rfl (Nat.le_of_ble_eq_true rfl) dX4_readStuck_26) hw rfl rfl (fun _ => (Nat.le_of_ble_eq_true rfl)) (fun _ => rfl) rfl rfl (fun _ H locs hw => ?_)
      refine lv_if_eq (tgt := 45) hx hb dX4_readStuck_29 (by decide) (fun k29 => ?_) (fun k29 => ?_)
      · have h := itt k29 h
        refine lv_iconst (v := 0) hx hb dX4_readStuck_45 (by decide) ?_
        have h := Option.some.inj h
        subst h
        exact hret () dX4_readStuck_46 (by decide) rfl hw
      · have h := itf k29 h
        refine lv_aload_n hx hb dX4_readStuck_32 rfl (lv_at hl 2 rfl) ?_
        refine lv_iload_n hx hb dX4_readStuck_33 rfl (lv_at hl 0 rfl) ?_
        refine lv_aload_n hx hb dX4_readStuck_34 rfl (lv_at hl 1 rfl) ?_
        refine TP_g_value X hw 0 rfl kf_X4_28 dX4_readStuck_35 ?_
        refine lv_i2l (v := (TP_value r26.2).toInt64) hx hb dX4_readStuck_38 rfl ?_
        obtain ⟨r39, h39, h⟩ := bnd h
        refine g_calli0 (isC := [1]) (gn := fun _ => [wTP g ad r26.2, wEV g ad1 ev]) (g_runVN (isC := [1]) (rest := []) (As := [.int (TP_value r1.2), .long (TP_value r26.2).toInt64]) X hw (c_X0_hasSet l (ad := ad1) h39) rfl kM_X0_hasSet ki_X0_hasSet ks_X0_hasSet km_X4_83 ⟨(Nat.le_of_ble_eq_true rfl), (Nat.le_of_ble_eq_true rfl)⟩ ⟨(Nat.le_of_ble_eq_true rfl), (Nat.le_of_ble_eq_true rfl)⟩ rfl rfl ⟨_, _, _, _, rfl, rfl, rfl, rfl⟩ rfl hl.1 rfl (Nat.le_of_ble_eq_true rfl) dX4_readStuck_39) hw rfl rfl (fun _ => (Nat.le_of_ble_eq_true rfl)) (fun _ => rfl) rfl rfl (fun _ H locs hw => ?_)
        refine lv_if_ne (tgt := 47) hx hb dX4_readStuck_42 (by decide) (fun k42 => ?_) (fun k42 => ?_)
        · have h := itt k42 h
          refine lv_aload_n hx hb dX4_readStuck_47 rfl (lv_at hl 2 rfl) ?_
          refine lv_iload_n hx hb dX4_readStuck_48 rfl (lv_at hl 0 rfl) ?_
          refine lv_aload_n hx hb dX4_readStuck_49 rfl (lv_at hl 1 rfl) ?_
          refine TP_g_value X hw 0 rfl kf_X4_28 dX4_readStuck_50 ?_
          obtain ⟨r53, h53, h⟩ := bnd h
          refine g_callv0 (isC := [1]) (gn := fun _ => [wTP g ad r26.2, wEV g ad1 r53]) (g_runVN (isC := [1]) (rest := []) (As := [.int (TP_value r1.2), .int (TP_value r26.2)]) X hw (c_X0_fasten l (ad := ad1) h53) rfl kM_X0_fasten ki_X0_fasten ks_X0_fasten km_X4_95 ⟨(Nat.le_of_ble_eq_true rfl), (Nat.le_of_ble_eq_true rfl)⟩ ⟨(Nat.le_of_ble_eq_true rfl), (Nat.le_of_ble_eq_true rfl)⟩ rfl rfl ⟨_, _, _, _, rfl, rfl, rfl, rfl⟩ rfl hl.1 rfl (Nat.le_of_ble_eq_true rfl) dX4_readStuck_53) hw rfl rfl (fun _ => (Nat.le_of_ble_eq_true rfl)) (fun _ => rfl) rfl rfl (fun _ H locs hw => ?_)
          refine lv_aload_n hx hb dX4_readStuck_56 rfl (lv_at hl 1 rfl) ?_
          obtain ⟨r57, h57, h⟩ := bnd h
          refine g_callv0 (isC := [0]) (gn := fun _ => [wTP g ad r57, wEV g ad1 r53]) (g_runV (isC := [0]) (rest := []) (As := []) X hw (c_X4_readToken l (ad := ad) h57) rfl kM_X4_readToken ki_X4_readToken ks_X4_readToken km_X4_35 ⟨(Nat.le_of_ble_eq_true rfl), (Nat.le_of_ble_eq_true rfl)⟩ ⟨(Nat.le_of_ble_eq_true rfl), (Nat.le_of_ble_eq_true rfl)⟩ rfl rfl ⟨_, _, _, _, rfl, rfl, rfl, rfl⟩ rfl hl.1 rfl (Nat.le_of_ble_eq_true rfl) dX4_readStuck_57) hw rfl rfl (fun _ => (Nat.le_of_ble_eq_true rfl)) (fun _ => rfl) rfl rfl (fun _ H locs hw => ?_)
          refine lv_iconst (v := 1) hx hb dX4_readStuck_60 (by decide) ?_
          have h := Option.some.inj h
          subst h
          exact hret () dX4_readStuck_61 (by decide) rfl hw
        · have h := itf (fun z => z k42) h
          refine lv_iconst (v := 0) hx hb dX4_readStuck_45 (by decide) ?_
          have h := Option.some.inj h
          subst h
          exact hret () dX4_readStuck_46 (by decide) rfl hw
    · have h := itf (fun z => z k15) h
      refine lv_iconst (v := 0) hx hb dX4_readStuck_18 (by decide) ?_
      have h := Option.some.inj h
      subst h
      exact hret () dX4_readStuck_19 (by decide) rfl hw
theorem kM_X4_readTable : kM yX4_readTable cX4_readTable 5 (some FieldType.boolean) 1 := ⟨kc_X4_readTable, kn_RingsOff_Tape, by decide +kernel⟩
abbrev R_X4_readTable : Room := { frames := 3, cells := 0, slots := 0, locals := 67 }
set_option maxHeartbeats 4000000 in
set_option maxRecDepth 100000 in
theorem c_X4_readTable (l : Launch) {ad : Nat → Nat} {ad1 : Nat → Nat} {N : Nat} {tp : TP} {ev : EV} {out : Int32 × TP × EV} (h : M_X4_readTable N tp ev = some out) : gM l yX4_readTable cX4_readTable 5 (some FieldType.boolean) R_X4_readTable (fun _ => [.ref (ad 0), .ref (ad1 0)]) (fun g => [wTP g ad tp, wEV g ad1 ev]) (gQi (fun (_ : Unit) => out.1) (fun g (_ : Unit) => [wTP g ad out.2.1, wEV g ad1 out.2.2])) := by
  refine gM.ofz (by decide +kernel) (fun _ => Nat.le_of_ble_eq_true rfl) (fun g p e s m args below meth c A ls Q X hret hw hl => ?_)
  have hx := X.1.1
  have hb := X.1.2.1
  have hl : lv_has ls 5 [(0, .ref (ad 0)), (1, .ref (ad1 0))] := hl
  unfold M_X4_readTable at h
  refine lv_aload_n hx hb dX4_readTable_0 rfl (lv_at hl 0 rfl) ?_
  obtain ⟨r1, h1, h⟩ := bnd h
  refine g_calli0 (isC := [0]) (gn := fun _ => [wTP g ad r1.2, wEV g ad1 ev]) (g_runV (isC := [0]) (rest := []) (As := []) X hw (c_X4_readNumber l (ad := ad) h1) rfl kM_X4_readNumber ki_X4_readNumber ks_X4_readNumber km_X4_74 ⟨(Nat.le_of_ble_eq_true rfl), (Nat.le_of_ble_eq_true rfl)⟩ ⟨(Nat.le_of_ble_eq_true rfl), (Nat.le_of_ble_eq_true rfl)⟩ rfl rfl ⟨_, _, _, _, rfl, rfl, rfl, rfl⟩ rfl hl.1 rfl (Nat.le_of_ble_eq_true rfl) dX4_readTable_1) hw rfl rfl (fun _ => (Nat.le_of_ble_eq_true rfl)) (fun _ => rfl) rfl rfl (fun _ H locs hw => ?_)
  refine lv_if_eq (tgt := 19) hx hb dX4_readTable_4 (by decide) (fun k4 => ?_) (fun k4 => ?_)
  · have h := itt k4 h
    refine lv_iconst (v := 0) hx hb dX4_readTable_19 (by decide) ?_
    have h := Option.some.inj h
    subst h
    exact hret () dX4_readTable_20 (by decide) rfl hw
  · have h := itf k4 h
    refine lv_aload_n hx hb dX4_readTable_7 rfl (lv_at hl 1 rfl) ?_
    refine lv_aload_n hx hb dX4_readTable_8 rfl (lv_at hl 0 rfl) ?_
    refine TP_g_value X hw 0 rfl kf_X4_28 dX4_readTable_9 ?_
    obtain ⟨r12, h12, h⟩ := bnd h
    refine g_calli0 (isC := [1]) (gn := fun _ => [wTP g ad r1.2, wEV g ad1 ev]) (g_runVN (isC := [1]) (rest := []) (As := [.int (TP_value r1.2)]) X hw (c_X0_kindOf l (ad := ad1) h12) rfl kM_X0_kindOf ki_X0_kindOf ks_X0_kindOf km_X4_98 ⟨(Nat.le_of_ble_eq_true rfl), (Nat.le_of_ble_eq_true rfl)⟩ ⟨(Nat.le_of_ble_eq_true rfl), (Nat.le_of_ble_eq_true rfl)⟩ rfl rfl ⟨_, _, _, _, rfl, rfl, rfl, rfl⟩ rfl hl.1 rfl (Nat.le_of_ble_eq_true rfl) dX4_readTable_12) hw rfl rfl (fun _ => (Nat.le_of_ble_eq_true rfl)) (fun _ => rfl) rfl rfl (fun _ H locs hw => ?_)
    refine lv_iconst (v := 5) hx hb dX4_readTable_15 (by decide) ?_
    refine lv_icmp_eq (tgt := 21) hx hb dX4_readTable_16 (by decide) (fun k16 => ?_) (fun k16 => ?_)
    · have h := itt k16 h
      refine lv_aload_n hx hb dX4_readTable_21 rfl (lv_at hl 0 rfl) ?_
      refine TP_g_value X hw 0 rfl kf_X4_28 dX4_readTable_22 ?_
      refine lv_istore_n (lv' := [(2, .int (TP_value r1.2)), (0, .ref (ad 0)), (1, .ref (ad1 0))]) hx hb dX4_readTable_25 rfl hl (by decide) rfl (fun ls hl => ?_)
      refine lv_aload_n hx hb dX4_readTable_26 rfl (lv_at hl 1 rfl) ?_
      obtain ⟨r27, h27, h⟩ := bnd h
      refine g_calli0 (isC := [0]) (gn := fun _ => [wTP g ad r27.2, wEV g ad1 ev]) (g_runV (isC := [0]) (rest := []) (As := []) X hw (c_X4_readNumber l (ad := ad) h27) rfl kM_X4_readNumber ki_X4_readNumber ks_X4_readNumber km_X4_74 ⟨(Nat.le_of_ble_eq_true rfl), (Nat.le_of_ble_eq_true rfl)⟩ ⟨(Nat.le_of_ble_eq_true rfl), (Nat.le_of_ble_eq_true rfl)⟩ rfl rfl ⟨_, _, _, _, rfl, rfl, rfl, rfl⟩ rfl hl.1 rfl (Nat.le_of_ble_eq_true rfl) dX4_readTable_27) hw rfl rfl (fun _ => (Nat.le_of_ble_eq_true rfl)) (fun _ => rfl) rfl rfl (fun _ H locs hw => ?_)
      refine lv_if_eq (tgt := 45) hx hb dX4_readTable_30 (by decide) (fun k30 => ?_) (fun k30 => ?_)
      · have h := itt k30 h
        refine lv_iconst (v := 0) hx hb dX4_readTable_45 (by decide) ?_
        have h := Option.some.inj h
        subst h
        exact hret () dX4_readTable_46 (by decide) rfl hw
      · have h := itf k30 h
        refine lv_aload_n hx hb dX4_readTable_33 rfl (lv_at hl 2 rfl) ?_
        refine lv_iload_n hx hb dX4_readTable_34 rfl (lv_at hl 0 rfl) ?_
        refine lv_aload_n hx hb dX4_readTable_35 rfl (lv_at hl 1 rfl) ?_
        refine TP_g_value X hw 0 rfl kf_X4_28 dX4_readTable_36 ?_
        obtain ⟨r39, h39, h⟩ := bnd h
        refine g_calli0 (isC := [1]) (gn := fun _ => [wTP g ad r27.2, wEV g ad1 ev]) (g_runVN (isC := [1]) (rest := []) (As := [.int (TP_value r1.2), .int (TP_value r27.2)]) X hw (c_X0_hasRing l (ad := ad1) h39) rfl kM_X0_hasRing ki_X0_hasRing ks_X0_hasRing km_X4_102 ⟨(Nat.le_of_ble_eq_true rfl), (Nat.le_of_ble_eq_true rfl)⟩ ⟨(Nat.le_of_ble_eq_true rfl), (Nat.le_of_ble_eq_true rfl)⟩ rfl rfl ⟨_, _, _, _, rfl, rfl, rfl, rfl⟩ rfl hl.1 rfl (Nat.le_of_ble_eq_true rfl) dX4_readTable_39) hw rfl rfl (fun _ => (Nat.le_of_ble_eq_true rfl)) (fun _ => rfl) rfl rfl (fun _ H locs hw => ?_)
        refine lv_if_ne (tgt := 47) hx hb dX4_readTable_42 (by decide) (fun k42 => ?_) (fun k42 => ?_)
        · have h := itt k42 h
          refine lv_aload_n hx hb dX4_readTable_47 rfl (lv_at hl 1 rfl) ?_
          refine TP_g_value X hw 0 rfl kf_X4_28 dX4_readTable_48 ?_
          refine lv_istore_n (lv' := [(3, .int (TP_value r27.2)), (2, .int (TP_value r1.2)), (0, .ref (ad 0)), (1, .ref (ad1 0))]) hx hb dX4_readTable_51 rfl hl (by decide) rfl (fun ls hl => ?_)
          refine lv_aload_n hx hb dX4_readTable_52 rfl (lv_at hl 2 rfl) ?_
          obtain ⟨r53, h53, h⟩ := bnd h
          refine g_calli0 (isC := [0]) (gn := fun _ => [wTP g ad r53.2, wEV g ad1 ev]) (g_runV (isC := [0]) (rest := []) (As := []) X hw (c_X4_readNumber l (ad := ad) h53) rfl kM_X4_readNumber ki_X4_readNumber ks_X4_readNumber km_X4_74 ⟨(Nat.le_of_ble_eq_true rfl), (Nat.le_of_ble_eq_true rfl)⟩ ⟨(Nat.le_of_ble_eq_true rfl), (Nat.le_of_ble_eq_true rfl)⟩ rfl rfl ⟨_, _, _, _, rfl, rfl, rfl, rfl⟩ rfl hl.1 rfl (Nat.le_of_ble_eq_true rfl) dX4_readTable_53) hw rfl rfl (fun _ => (Nat.le_of_ble_eq_true rfl)) (fun _ => rfl) rfl rfl (fun _ H locs hw => ?_)
          refine lv_if_eq (tgt := 72) hx hb dX4_readTable_56 (by decide) (fun k56 => ?_) (fun k56 => ?_)
          · have h := itt k56 h
            refine lv_iconst (v := 0) hx hb dX4_readTable_72 (by decide) ?_
            have h := Option.some.inj h
            subst h
            exact hret () dX4_readTable_73 (by decide) rfl hw
          · have h := itf k56 h
            refine lv_aload_n hx hb dX4_readTable_59 rfl (lv_at hl 3 rfl) ?_
            refine lv_iload_n hx hb dX4_readTable_60 rfl (lv_at hl 1 rfl) ?_
            refine lv_aload_n hx hb dX4_readTable_61 rfl (lv_at hl 2 rfl) ?_
            refine TP_g_value X hw 0 rfl kf_X4_28 dX4_readTable_62 ?_
            refine lv_i2l (v := (TP_value r53.2).toInt64) hx hb dX4_readTable_65 rfl ?_
            obtain ⟨r66, h66, h⟩ := bnd h
            refine g_calli0 (isC := [1]) (gn := fun _ => [wTP g ad r53.2, wEV g ad1 ev]) (g_runVN (isC := [1]) (rest := []) (As := [.int (TP_value r1.2), .long (TP_value r53.2).toInt64]) X hw (c_X0_hasSet l (ad := ad1) h66) rfl kM_X0_hasSet ki_X0_hasSet ks_X0_hasSet km_X4_83 ⟨(Nat.le_of_ble_eq_true rfl), (Nat.le_of_ble_eq_true rfl)⟩ ⟨(Nat.le_of_ble_eq_true rfl), (Nat.le_of_ble_eq_true rfl)⟩ rfl rfl ⟨_, _, _, _, rfl, rfl, rfl, rfl⟩ rfl hl.1 rfl (Nat.le_of_ble_eq_true rfl) dX4_readTable_66) hw rfl rfl (fun _ => (Nat.le_of_ble_eq_true rfl)) (fun _ => rfl) rfl rfl (fun _ H locs hw => ?_)
            refine lv_if_ne (tgt := 74) hx hb dX4_readTable_69 (by decide) (fun k69 => ?_) (fun k69 => ?_)
            · have h := itt k69 h
              refine lv_aload_n hx hb dX4_readTable_74 rfl (lv_at hl 2 rfl) ?_
              refine TP_g_value X hw 0 rfl kf_X4_28 dX4_readTable_75 ?_
              refine lv_istore (lv' := [(4, .int (TP_value r53.2)), (3, .int (TP_value r27.2)), (2, .int (TP_value r1.2)), (0, .ref (ad 0)), (1, .ref (ad1 0))]) hx hb dX4_readTable_78 hl (by decide) rfl (fun ls hl => ?_)
              refine lv_aload_n hx hb dX4_readTable_80 rfl (lv_at hl 3 rfl) ?_
              obtain ⟨r81, h81, h⟩ := bnd h
              refine g_calli0 (isC := [0]) (gn := fun _ => [wTP g ad r81.2, wEV g ad1 ev]) (g_runV (isC := [0]) (rest := []) (As := []) X hw (c_X4_readNumber l (ad := ad) h81) rfl kM_X4_readNumber ki_X4_readNumber ks_X4_readNumber km_X4_74 ⟨(Nat.le_of_ble_eq_true rfl), (Nat.le_of_ble_eq_true rfl)⟩ ⟨(Nat.le_of_ble_eq_true rfl), (Nat.le_of_ble_eq_true rfl)⟩ rfl rfl ⟨_, _, _, _, rfl, rfl, rfl, rfl⟩ rfl hl.1 rfl (Nat.le_of_ble_eq_true rfl) dX4_readTable_81) hw rfl rfl (fun _ => (Nat.le_of_ble_eq_true rfl)) (fun _ => rfl) rfl rfl (fun _ H locs hw => ?_)
              refine lv_if_eq (tgt := 100) hx hb dX4_readTable_84 (by decide) (fun k84 => ?_) (fun k84 => ?_)
              · have h := itt k84 h
                refine lv_iconst (v := 0) hx hb dX4_readTable_100 (by decide) ?_
                have h := Option.some.inj h
                subst h
                exact hret () dX4_readTable_101 (by decide) rfl hw
              · have h := itf k84 h
                refine lv_aload_n hx hb dX4_readTable_87 rfl (lv_at hl 4 rfl) ?_
                refine lv_iload_n hx hb dX4_readTable_88 rfl (lv_at hl 2 rfl) ?_
                refine lv_aload_n hx hb dX4_readTable_89 rfl (lv_at hl 3 rfl) ?_
                refine TP_g_value X hw 0 rfl kf_X4_28 dX4_readTable_90 ?_
                refine lv_i2l (v := (TP_value r81.2).toInt64) hx hb dX4_readTable_93 rfl ?_
                obtain ⟨r94, h94, h⟩ := bnd h
                refine g_calli0 (isC := [1]) (gn := fun _ => [wTP g ad r81.2, wEV g ad1 ev]) (g_runVN (isC := [1]) (rest := []) (As := [.int (TP_value r1.2), .long (TP_value r81.2).toInt64]) X hw (c_X0_hasSet l (ad := ad1) h94) rfl kM_X0_hasSet ki_X0_hasSet ks_X0_hasSet km_X4_83 ⟨(Nat.le_of_ble_eq_true rfl), (Nat.le_of_ble_eq_true rfl)⟩ ⟨(Nat.le_of_ble_eq_true rfl), (Nat.le_of_ble_eq_true rfl)⟩ rfl rfl ⟨_, _, _, _, rfl, rfl, rfl, rfl⟩ rfl hl.1 rfl (Nat.le_of_ble_eq_true rfl) dX4_readTable_94) hw rfl rfl (fun _ => (Nat.le_of_ble_eq_true rfl)) (fun _ => rfl) rfl rfl (fun _ H locs hw => ?_)
                refine lv_if_ne (tgt := 102) hx hb dX4_readTable_97 (by decide) (fun k97 => ?_) (fun k97 => ?_)
                · have h := itt k97 h
                  refine lv_aload_n hx hb dX4_readTable_102 rfl (lv_at hl 4 rfl) ?_
                  refine lv_iload_n hx hb dX4_readTable_103 rfl (lv_at hl 2 rfl) ?_
                  refine lv_iload_n hx hb dX4_readTable_104 rfl (lv_at hl 1 rfl) ?_
                  refine lv_iload hx hb dX4_readTable_105 (lv_at hl 0 rfl) ?_
                  refine lv_aload_n hx hb dX4_readTable_107 rfl (lv_at hl 3 rfl) ?_
                  refine TP_g_value X hw 0 rfl kf_X4_28 dX4_readTable_108 ?_
                  obtain ⟨r111, h111, h⟩ := bnd h
                  refine g_callv0 (isC := [1]) (gn := fun _ => [wTP g ad r81.2, wEV g ad1 r111]) (g_runVN (isC := [1]) (rest := []) (As := [.int (TP_value r1.2), .int (TP_value r27.2), .int (TP_value r53.2), .int (TP_value r81.2)]) X hw (c_X0_tell l (ad := ad1) h111) rfl kM_X0_tell ki_X0_tell ks_X0_tell km_X4_106 ⟨(Nat.le_of_ble_eq_true rfl), (Nat.le_of_ble_eq_true rfl)⟩ ⟨(Nat.le_of_ble_eq_true rfl), (Nat.le_of_ble_eq_true rfl)⟩ rfl rfl ⟨_, _, _, _, rfl, rfl, rfl, rfl⟩ rfl hl.1 rfl (Nat.le_of_ble_eq_true rfl) dX4_readTable_111) hw rfl rfl (fun _ => (Nat.le_of_ble_eq_true rfl)) (fun _ => rfl) rfl rfl (fun _ H locs hw => ?_)
                  refine lv_aload_n hx hb dX4_readTable_114 rfl (lv_at hl 3 rfl) ?_
                  obtain ⟨r115, h115, h⟩ := bnd h
                  refine g_callv0 (isC := [0]) (gn := fun _ => [wTP g ad r115, wEV g ad1 r111]) (g_runV (isC := [0]) (rest := []) (As := []) X hw (c_X4_readToken l (ad := ad) h115) rfl kM_X4_readToken ki_X4_readToken ks_X4_readToken km_X4_35 ⟨(Nat.le_of_ble_eq_true rfl), (Nat.le_of_ble_eq_true rfl)⟩ ⟨(Nat.le_of_ble_eq_true rfl), (Nat.le_of_ble_eq_true rfl)⟩ rfl rfl ⟨_, _, _, _, rfl, rfl, rfl, rfl⟩ rfl hl.1 rfl (Nat.le_of_ble_eq_true rfl) dX4_readTable_115) hw rfl rfl (fun _ => (Nat.le_of_ble_eq_true rfl)) (fun _ => rfl) rfl rfl (fun _ H locs hw => ?_)
                  refine lv_iconst (v := 1) hx hb dX4_readTable_118 (by decide) ?_
                  have h := Option.some.inj h
                  subst h
                  exact hret () dX4_readTable_119 (by decide) rfl hw
                · have h := itf (fun z => z k97) h
                  refine lv_iconst (v := 0) hx hb dX4_readTable_100 (by decide) ?_
                  have h := Option.some.inj h
                  subst h
                  exact hret () dX4_readTable_101 (by decide) rfl hw
            · have h := itf (fun z => z k69) h
              refine lv_iconst (v := 0) hx hb dX4_readTable_72 (by decide) ?_
              have h := Option.some.inj h
              subst h
              exact hret () dX4_readTable_73 (by decide) rfl hw
        · have h := itf (fun z => z k42) h
          refine lv_iconst (v := 0) hx hb dX4_readTable_45 (by decide) ?_
          have h := Option.some.inj h
          subst h
          exact hret () dX4_readTable_46 (by decide) rfl hw
    · have h := itf k16 h
      refine lv_iconst (v := 0) hx hb dX4_readTable_19 (by decide) ?_
      have h := Option.some.inj h
      subst h
      exact hret () dX4_readTable_20 (by decide) rfl hw
theorem kM_X4_readMinutes : kM yX4_readMinutes cX4_readMinutes 3 (some FieldType.boolean) 1 := ⟨kc_X4_readMinutes, kn_RingsOff_Tape, by decide +kernel⟩
abbrev R_X4_readMinutes : Room := { frames := 3, cells := 0, slots := 0, locals := 62 }
set_option maxHeartbeats 4000000 in
set_option maxRecDepth 100000 in
theorem c_X4_readMinutes (l : Launch) {ad : Nat → Nat} {ad1 : Nat → Nat} {N : Nat} {tp : TP} {ev : EV} {out : Int32 × TP × EV} (h : M_X4_readMinutes N tp ev = some out) : gM l yX4_readMinutes cX4_readMinutes 3 (some FieldType.boolean) R_X4_readMinutes (fun _ => [.ref (ad 0), .ref (ad1 0)]) (fun g => [wTP g ad tp, wEV g ad1 ev]) (gQi (fun (_ : Unit) => out.1) (fun g (_ : Unit) => [wTP g ad out.2.1, wEV g ad1 out.2.2])) := by
  refine gM.ofz (by decide +kernel) (fun _ => Nat.le_of_ble_eq_true rfl) (fun g p e s m args below meth c A ls Q X hret hw hl => ?_)
  have hx := X.1.1
  have hb := X.1.2.1
  have hl : lv_has ls 3 [(0, .ref (ad 0)), (1, .ref (ad1 0))] := hl
  unfold M_X4_readMinutes at h
  refine lv_aload_n hx hb dX4_readMinutes_0 rfl (lv_at hl 0 rfl) ?_
  obtain ⟨r1, h1, h⟩ := bnd h
  refine g_calli0 (isC := [0]) (gn := fun _ => [wTP g ad r1.2, wEV g ad1 ev]) (g_runV (isC := [0]) (rest := []) (As := []) X hw (c_X4_readNumber l (ad := ad) h1) rfl kM_X4_readNumber ki_X4_readNumber ks_X4_readNumber km_X4_74 ⟨(Nat.le_of_ble_eq_true rfl), (Nat.le_of_ble_eq_true rfl)⟩ ⟨(Nat.le_of_ble_eq_true rfl), (Nat.le_of_ble_eq_true rfl)⟩ rfl rfl ⟨_, _, _, _, rfl, rfl, rfl, rfl⟩ rfl hl.1 rfl (Nat.le_of_ble_eq_true rfl) dX4_readMinutes_1) hw rfl rfl (fun _ => (Nat.le_of_ble_eq_true rfl)) (fun _ => rfl) rfl rfl (fun _ H locs hw => ?_)
  refine lv_if_eq (tgt := 16) hx hb dX4_readMinutes_4 (by decide) (fun k4 => ?_) (fun k4 => ?_)
  · have h := itt k4 h
    refine lv_iconst (v := 0) hx hb dX4_readMinutes_16 (by decide) ?_
    have h := Option.some.inj h
    subst h
    exact hret () dX4_readMinutes_17 (by decide) rfl hw
  · have h := itf k4 h
    refine lv_aload_n hx hb dX4_readMinutes_7 rfl (lv_at hl 0 rfl) ?_
    refine TP_g_value X hw 0 rfl kf_X4_28 dX4_readMinutes_8 ?_
    refine lv_bipush (v := 10) hx hb dX4_readMinutes_11 (by decide) ?_
    refine lv_icmp_lt (tgt := 18) hx hb dX4_readMinutes_13 (by decide) (fun k13 => ?_) (fun k13 => ?_)
    · have h := itt k13 h
      refine lv_aload_n hx hb dX4_readMinutes_18 rfl (lv_at hl 0 rfl) ?_
      refine TP_g_value X hw 0 rfl kf_X4_28 dX4_readMinutes_19 ?_
      refine lv_istore_n (lv' := [(2, .int (TP_value r1.2)), (0, .ref (ad 0)), (1, .ref (ad1 0))]) hx hb dX4_readMinutes_22 rfl hl (by decide) rfl (fun ls hl => ?_)
      refine lv_aload_n hx hb dX4_readMinutes_23 rfl (lv_at hl 1 rfl) ?_
      obtain ⟨r24, h24, h⟩ := bnd h
      refine g_calli0 (isC := [0]) (gn := fun _ => [wTP g ad r24.2, wEV g ad1 ev]) (g_runV (isC := [0]) (rest := []) (As := []) X hw (c_X4_readNumber l (ad := ad) h24) rfl kM_X4_readNumber ki_X4_readNumber ks_X4_readNumber km_X4_74 ⟨(Nat.le_of_ble_eq_true rfl), (Nat.le_of_ble_eq_true rfl)⟩ ⟨(Nat.le_of_ble_eq_true rfl), (Nat.le_of_ble_eq_true rfl)⟩ rfl rfl ⟨_, _, _, _, rfl, rfl, rfl, rfl⟩ rfl hl.1 rfl (Nat.le_of_ble_eq_true rfl) dX4_readMinutes_24) hw rfl rfl (fun _ => (Nat.le_of_ble_eq_true rfl)) (fun _ => rfl) rfl rfl (fun _ H locs hw => ?_)
      refine lv_if_eq (tgt := 39) hx hb dX4_readMinutes_27 (by decide) (fun k27 => ?_) (fun k27 => ?_)
      · have h := itt k27 h
        refine lv_iconst (v := 0) hx hb dX4_readMinutes_39 (by decide) ?_
        have h := Option.some.inj h
        subst h
        exact hret () dX4_readMinutes_40 (by decide) rfl hw
      · have h := itf k27 h
        refine lv_aload_n hx hb dX4_readMinutes_30 rfl (lv_at hl 1 rfl) ?_
        refine TP_g_value X hw 0 rfl kf_X4_28 dX4_readMinutes_31 ?_
        refine lv_bipush (v := 99) hx hb dX4_readMinutes_34 (by decide) ?_
        refine lv_icmp_le (tgt := 41) hx hb dX4_readMinutes_36 (by decide) (fun k36 => ?_) (fun k36 => ?_)
        · have h := itt k36 h
          refine lv_aload_n hx hb dX4_readMinutes_41 rfl (lv_at hl 2 rfl) ?_
          refine lv_iload_n hx hb dX4_readMinutes_42 rfl (lv_at hl 0 rfl) ?_
          refine lv_aload_n hx hb dX4_readMinutes_43 rfl (lv_at hl 1 rfl) ?_
          refine TP_g_value X hw 0 rfl kf_X4_28 dX4_readMinutes_44 ?_
          obtain ⟨r47, h47, h⟩ := bnd h
          refine g_callv0 (isC := [1]) (gn := fun _ => [wTP g ad r24.2, wEV g ad1 r47]) (g_runVN (isC := [1]) (rest := []) (As := [.int (TP_value r1.2), .int (TP_value r24.2)]) X hw (c_X0_setMinutes l (ad := ad1) h47) rfl kM_X0_setMinutes ki_X0_setMinutes ks_X0_setMinutes km_X4_110 ⟨(Nat.le_of_ble_eq_true rfl), (Nat.le_of_ble_eq_true rfl)⟩ ⟨(Nat.le_of_ble_eq_true rfl), (Nat.le_of_ble_eq_true rfl)⟩ rfl rfl ⟨_, _, _, _, rfl, rfl, rfl, rfl⟩ rfl hl.1 rfl (Nat.le_of_ble_eq_true rfl) dX4_readMinutes_47) hw rfl rfl (fun _ => (Nat.le_of_ble_eq_true rfl)) (fun _ => rfl) rfl rfl (fun _ H locs hw => ?_)
          refine lv_aload_n hx hb dX4_readMinutes_50 rfl (lv_at hl 1 rfl) ?_
          obtain ⟨r51, h51, h⟩ := bnd h
          refine g_callv0 (isC := [0]) (gn := fun _ => [wTP g ad r51, wEV g ad1 r47]) (g_runV (isC := [0]) (rest := []) (As := []) X hw (c_X4_readToken l (ad := ad) h51) rfl kM_X4_readToken ki_X4_readToken ks_X4_readToken km_X4_35 ⟨(Nat.le_of_ble_eq_true rfl), (Nat.le_of_ble_eq_true rfl)⟩ ⟨(Nat.le_of_ble_eq_true rfl), (Nat.le_of_ble_eq_true rfl)⟩ rfl rfl ⟨_, _, _, _, rfl, rfl, rfl, rfl⟩ rfl hl.1 rfl (Nat.le_of_ble_eq_true rfl) dX4_readMinutes_51) hw rfl rfl (fun _ => (Nat.le_of_ble_eq_true rfl)) (fun _ => rfl) rfl rfl (fun _ H locs hw => ?_)
          refine lv_iconst (v := 1) hx hb dX4_readMinutes_54 (by decide) ?_
          have h := Option.some.inj h
          subst h
          exact hret () dX4_readMinutes_55 (by decide) rfl hw
        · have h := itf k36 h
          refine lv_iconst (v := 0) hx hb dX4_readMinutes_39 (by decide) ?_
          have h := Option.some.inj h
          subst h
          exact hret () dX4_readMinutes_40 (by decide) rfl hw
    · have h := itf k13 h
      refine lv_iconst (v := 0) hx hb dX4_readMinutes_16 (by decide) ?_
      have h := Option.some.inj h
      subst h
      exact hret () dX4_readMinutes_17 (by decide) rfl hw
theorem kM_X4_readMove : kM yX4_readMove cX4_readMove 4 (some FieldType.boolean) 2 := ⟨kc_X4_readMove, kn_RingsOff_Tape, by decide +kernel⟩
abbrev R_X4_readMove : Room := { frames := 5, cells := 0, slots := 0, locals := 105 }
set_option maxHeartbeats 4000000 in
set_option maxRecDepth 100000 in
theorem c_X4_readMove (l : Launch) {ad : Nat → Nat} {ad1 : Nat → Nat} {ad2 : Nat → Nat} {N : Nat} {tp : TP} {ev : EV} {lw : LW} {out : Int32 × TP × EV × LW} (h : M_X4_readMove N tp ev lw = some out) : gM l yX4_readMove cX4_readMove 4 (some FieldType.boolean) R_X4_readMove (fun _ => [.ref (ad 0), .ref (ad1 0), .ref (ad2 0)]) (fun g => [wTP g ad tp, wEV g ad1 ev, wLW g ad2 lw]) (gQi (fun (_ : Unit) => out.1) (fun g (_ : Unit) => [wTP g ad out.2.1, wEV g ad1 out.2.2.1, wLW g ad2 out.2.2.2])) := by
  refine gM.ofz (by decide +kernel) (fun _ => Nat.le_of_ble_eq_true rfl) (fun g p e s m args below meth c A ls Q X hret hw hl => ?_)
  have hx := X.1.1
  have hb := X.1.2.1
  have hl : lv_has ls 4 [(0, .ref (ad 0)), (1, .ref (ad1 0)), (2, .ref (ad2 0))] := hl
  unfold M_X4_readMove at h
  refine lv_aload_n hx hb dX4_readMove_0 rfl (lv_at hl 0 rfl) ?_
  obtain ⟨r1, h1, h⟩ := bnd h
  refine g_calli0 (isC := [0]) (gn := fun _ => [wTP g ad r1.2, wEV g ad1 ev, wLW g ad2 lw]) (g_runV (isC := [0]) (rest := []) (As := []) X hw (c_X4_readNumber l (ad := ad) h1) rfl kM_X4_readNumber ki_X4_readNumber ks_X4_readNumber km_X4_74 ⟨(Nat.le_of_ble_eq_true rfl), (Nat.le_of_ble_eq_true rfl)⟩ ⟨(Nat.le_of_ble_eq_true rfl), (Nat.le_of_ble_eq_true rfl)⟩ rfl rfl ⟨_, _, _, _, rfl, rfl, rfl, rfl⟩ rfl hl.1 rfl (Nat.le_of_ble_eq_true rfl) dX4_readMove_1) hw rfl rfl (fun _ => (Nat.le_of_ble_eq_true rfl)) (fun _ => rfl) rfl rfl (fun _ H locs hw => ?_)
  refine lv_if_eq (tgt := 18) hx hb dX4_readMove_4 (by decide) (fun k4 => ?_) (fun k4 => ?_)
  · have h := itt k4 h
    refine lv_iconst (v := 0) hx hb dX4_readMove_18 (by decide) ?_
    have h := Option.some.inj h
    subst h
    exact hret () dX4_readMove_19 (by decide) rfl hw
  · have h := itf k4 h
    refine lv_aload_n hx hb dX4_readMove_7 rfl (lv_at hl 1 rfl) ?_
    refine lv_aload_n hx hb dX4_readMove_8 rfl (lv_at hl 0 rfl) ?_
    refine TP_g_value X hw 0 rfl kf_X4_28 dX4_readMove_9 ?_
    obtain ⟨r12, h12, h⟩ := bnd h
    refine g_calli0 (isC := [1]) (gn := fun _ => [wTP g ad r1.2, wEV g ad1 ev, wLW g ad2 lw]) (g_runVN (isC := [1]) (rest := []) (As := [.int (TP_value r1.2)]) X hw (c_X0_hasBar l (ad := ad1) h12) rfl kM_X0_hasBar ki_X0_hasBar ks_X0_hasBar km_X4_91 ⟨(Nat.le_of_ble_eq_true rfl), (Nat.le_of_ble_eq_true rfl)⟩ ⟨(Nat.le_of_ble_eq_true rfl), (Nat.le_of_ble_eq_true rfl)⟩ rfl rfl ⟨_, _, _, _, rfl, rfl, rfl, rfl⟩ rfl hl.1 rfl (Nat.le_of_ble_eq_true rfl) dX4_readMove_12) hw rfl rfl (fun _ => (Nat.le_of_ble_eq_true rfl)) (fun _ => rfl) rfl rfl (fun _ H locs hw => ?_)
    refine lv_if_ne (tgt := 20) hx hb dX4_readMove_15 (by decide) (fun k15 => ?_) (fun k15 => ?_)
    · have h := itt k15 h
      refine lv_aload_n hx hb dX4_readMove_20 rfl (lv_at hl 0 rfl) ?_
      refine TP_g_value X hw 0 rfl kf_X4_28 dX4_readMove_21 ?_
      refine lv_istore_n (lv' := [(3, .int (TP_value r1.2)), (0, .ref (ad 0)), (1, .ref (ad1 0)), (2, .ref (ad2 0))]) hx hb dX4_readMove_24 rfl hl (by decide) rfl (fun ls hl => ?_)
      refine lv_aload_n hx hb dX4_readMove_25 rfl (lv_at hl 3 rfl) ?_
      refine lv_aload_n hx hb dX4_readMove_26 rfl (lv_at hl 2 rfl) ?_
      refine lv_iload_n hx hb dX4_readMove_27 rfl (lv_at hl 0 rfl) ?_
      obtain ⟨r28, h28, h⟩ := bnd h
      refine g_callv0 (isC := [2, 1]) (gn := fun _ => [wTP g ad r1.2, wEV g ad1 ev, wLW g ad2 r28]) (g_runVN (isC := [2, 1]) (rest := []) (As := [.ref (ad1 0), .int (TP_value r1.2)]) X hw (c_X1_take l (ad := ad2) (ad1 := ad1) h28) rfl kM_X1_take ki_X1_take ks_X1_take km_X4_113 ⟨(Nat.le_of_ble_eq_true rfl), (Nat.le_of_ble_eq_true rfl)⟩ ⟨(Nat.le_of_ble_eq_true rfl), (Nat.le_of_ble_eq_true rfl)⟩ rfl rfl ⟨_, _, _, _, rfl, rfl, rfl, rfl⟩ rfl hl.1 rfl (Nat.le_of_ble_eq_true rfl) dX4_readMove_28) hw rfl rfl (fun _ => (Nat.le_of_ble_eq_true rfl)) (fun _ => rfl) rfl rfl (fun _ H locs hw => ?_)
      refine lv_aload_n hx hb dX4_readMove_31 rfl (lv_at hl 1 rfl) ?_
      obtain ⟨r32, h32, h⟩ := bnd h
      refine g_calli0 (isC := [0]) (gn := fun _ => [wTP g ad r32.2, wEV g ad1 ev, wLW g ad2 r28]) (g_runV (isC := [0]) (rest := []) (As := []) X hw (c_X4_readNumber l (ad := ad) h32) rfl kM_X4_readNumber ki_X4_readNumber ks_X4_readNumber km_X4_74 ⟨(Nat.le_of_ble_eq_true rfl), (Nat.le_of_ble_eq_true rfl)⟩ ⟨(Nat.le_of_ble_eq_true rfl), (Nat.le_of_ble_eq_true rfl)⟩ rfl rfl ⟨_, _, _, _, rfl, rfl, rfl, rfl⟩ rfl hl.1 rfl (Nat.le_of_ble_eq_true rfl) dX4_readMove_32) hw rfl rfl (fun _ => (Nat.le_of_ble_eq_true rfl)) (fun _ => rfl) rfl rfl (fun _ H locs hw => ?_)
      refine lv_if_eq (tgt := 57) hx hb dX4_readMove_35 (by decide) (fun k35 => ?_) (fun k35 => ?_)
      · have h := itt k35 h
        refine lv_iconst (v := 0) hx hb dX4_readMove_57 (by decide) ?_
        have h := Option.some.inj h
        subst h
        exact hret () dX4_readMove_58 (by decide) rfl hw
      · have h := itf k35 h
        refine lv_aload_n hx hb dX4_readMove_38 rfl (lv_at hl 3 rfl) ?_
        refine lv_aload_n hx hb dX4_readMove_39 rfl (lv_at hl 2 rfl) ?_
        refine lv_iload_n hx hb dX4_readMove_40 rfl (lv_at hl 0 rfl) ?_
        obtain ⟨r41, h41, h⟩ := bnd h
        refine g_calli0 (isC := [1]) (gn := fun _ => [wTP g ad r32.2, wEV g ad1 ev, wLW g ad2 r28]) (g_runVN (isC := [1]) (rest := [.ref (ad2 0)]) (As := [.int (TP_value r1.2)]) X hw (c_X0_onOf l (ad := ad1) h41) rfl kM_X0_onOf ki_X0_onOf ks_X0_onOf km_X4_119 ⟨(Nat.le_of_ble_eq_true rfl), (Nat.le_of_ble_eq_true rfl)⟩ ⟨(Nat.le_of_ble_eq_true rfl), (Nat.le_of_ble_eq_true rfl)⟩ rfl rfl ⟨_, _, _, _, rfl, rfl, rfl, rfl⟩ rfl hl.1 rfl (Nat.le_of_ble_eq_true rfl) dX4_readMove_41) hw rfl rfl (fun _ => (Nat.le_of_ble_eq_true rfl)) (fun _ => rfl) rfl rfl (fun _ H locs hw => ?_)
        obtain ⟨r44, h44, h⟩ := bnd h
        refine g_calli0 (isC := [2]) (gn := fun _ => [wTP g ad r32.2, wEV g ad1 ev, wLW g ad2 r28]) (g_runVN (isC := [2]) (rest := []) (As := [.int r41]) X hw (c_X1_legalIn l (ad := ad2) h44) rfl kM_X1_legalIn ki_X1_legalIn ks_X1_legalIn km_X4_122 ⟨(Nat.le_of_ble_eq_true rfl), (Nat.le_of_ble_eq_true rfl)⟩ ⟨(Nat.le_of_ble_eq_true rfl), (Nat.le_of_ble_eq_true rfl)⟩ rfl rfl ⟨_, _, _, _, rfl, rfl, rfl, rfl⟩ rfl hl.1 rfl (Nat.le_of_ble_eq_true rfl) dX4_readMove_44) hw rfl rfl (fun _ => (Nat.le_of_ble_eq_true rfl)) (fun _ => rfl) rfl rfl (fun _ H locs hw => ?_)
        refine lv_aload_n hx hb dX4_readMove_47 rfl (lv_at hl 1 rfl) ?_
        refine TP_g_value X hw 0 rfl kf_X4_28 dX4_readMove_48 ?_
        obtain ⟨r51, h51, h⟩ := bnd h
        refine g_calli0 (isC := []) (gn := fun _ => [wTP g ad r32.2, wEV g ad1 ev, wLW g ad2 r28]) (g_runSN (isC := []) (rest := []) (As := [.int r44, .int (TP_value r32.2)]) X hw (c_X5_hasBit l h51) rfl kM_X5_hasBit kt_X5_hasBit km_X4_125 ⟨(Nat.le_of_ble_eq_true rfl), (Nat.le_of_ble_eq_true rfl)⟩ ⟨(Nat.le_of_ble_eq_true rfl), (Nat.le_of_ble_eq_true rfl)⟩ rfl rfl rfl hl.1 rfl (Nat.le_of_ble_eq_true rfl) dX4_readMove_51) hw rfl rfl (fun _ => (Nat.le_of_ble_eq_true rfl)) (fun _ => rfl) rfl rfl (fun _ H locs hw => ?_)
        refine lv_if_ne (tgt := 59) hx hb dX4_readMove_54 (by decide) (fun k54 => ?_) (fun k54 => ?_)
        · have h := itt k54 h
          refine lv_aload_n hx hb dX4_readMove_59 rfl (lv_at hl 2 rfl) ?_
          refine lv_iload_n hx hb dX4_readMove_60 rfl (lv_at hl 0 rfl) ?_
          refine lv_aload_n hx hb dX4_readMove_61 rfl (lv_at hl 1 rfl) ?_
          refine TP_g_value X hw 0 rfl kf_X4_28 dX4_readMove_62 ?_
          obtain ⟨r65, h65, h⟩ := bnd h
          refine g_callv0 (isC := [1]) (gn := fun _ => [wTP g ad r32.2, wEV g ad1 r65, wLW g ad2 r28]) (g_runVN (isC := [1]) (rest := []) (As := [.int (TP_value r1.2), .int (TP_value r32.2)]) X hw (c_X0_makeMove l (ad := ad1) h65) rfl kM_X0_makeMove ki_X0_makeMove ks_X0_makeMove km_X4_128 ⟨(Nat.le_of_ble_eq_true rfl), (Nat.le_of_ble_eq_true rfl)⟩ ⟨(Nat.le_of_ble_eq_true rfl), (Nat.le_of_ble_eq_true rfl)⟩ rfl rfl ⟨_, _, _, _, rfl, rfl, rfl, rfl⟩ rfl hl.1 rfl (Nat.le_of_ble_eq_true rfl) dX4_readMove_65) hw rfl rfl (fun _ => (Nat.le_of_ble_eq_true rfl)) (fun _ => rfl) rfl rfl (fun _ H locs hw => ?_)
          refine lv_aload_n hx hb dX4_readMove_68 rfl (lv_at hl 1 rfl) ?_
          obtain ⟨r69, h69, h⟩ := bnd h
          refine g_callv0 (isC := [0]) (gn := fun _ => [wTP g ad r69, wEV g ad1 r65, wLW g ad2 r28]) (g_runV (isC := [0]) (rest := []) (As := []) X hw (c_X4_readToken l (ad := ad) h69) rfl kM_X4_readToken ki_X4_readToken ks_X4_readToken km_X4_35 ⟨(Nat.le_of_ble_eq_true rfl), (Nat.le_of_ble_eq_true rfl)⟩ ⟨(Nat.le_of_ble_eq_true rfl), (Nat.le_of_ble_eq_true rfl)⟩ rfl rfl ⟨_, _, _, _, rfl, rfl, rfl, rfl⟩ rfl hl.1 rfl (Nat.le_of_ble_eq_true rfl) dX4_readMove_69) hw rfl rfl (fun _ => (Nat.le_of_ble_eq_true rfl)) (fun _ => rfl) rfl rfl (fun _ H locs hw => ?_)
          refine lv_iconst (v := 1) hx hb dX4_readMove_72 (by decide) ?_
          have h := Option.some.inj h
          subst h
          exact hret () dX4_readMove_73 (by decide) rfl hw
        · have h := itf (fun z => z k54) h
          refine lv_iconst (v := 0) hx hb dX4_readMove_57 (by decide) ?_
          have h := Option.some.inj h
          subst h
          exact hret () dX4_readMove_58 (by decide) rfl hw
    · have h := itf (fun z => z k15) h
      refine lv_iconst (v := 0) hx hb dX4_readMove_18 (by decide) ?_
      have h := Option.some.inj h
      subst h
      exact hret () dX4_readMove_19 (by decide) rfl hw
