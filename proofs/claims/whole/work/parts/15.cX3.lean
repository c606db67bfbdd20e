theorem kM_X3_isShelf : kM yX3_isShelf cX3_isShelf 1 (some FieldType.boolean) 1 := ⟨kc_X3_isShelf, kn_RingsOff_Shelves, by decide +kernel⟩
abbrev R_X3_isShelf : Room := { frames := 0, cells := 0, slots := 0, locals := 0 }
set_option maxHeartbeats 4000000 in
set_option maxRecDepth 100000 in
theorem c_X3_isShelf (l : Launch) {N : Nat} {p1 : Int32} {out : Int32} (h : M_X3_isShelf N p1 = some out) : gM l yX3_isShelf cX3_isShelf 1 (some FieldType.boolean) R_X3_isShelf (fun _ => [.int p1]) (fun g => []) (gQi (fun (_ : Unit) => out) (fun g (_ : Unit) => [])) := by
  refine gM.ofz (by decide +kernel) (fun _ => Nat.le_of_ble_eq_true rfl) (fun g p e s m args below meth c A ls Q X hret hw hl => ?_)
  have hx := X.1.1
  have hb := X.1.2.1
  have hl : lv_has ls 1 [(0, .int p1)] := hl
  unfold M_X3_isShelf at h
  refine lv_iload_n hx hb dX3_isShelf_0 rfl (lv_at hl 0 rfl) ?_
  refine lv_if_lt (tgt := 14) hx hb dX3_isShelf_1 (by decide) (fun k1 => ?_) (fun k1 => ?_)
  · have h := itt k1 h
    refine lv_iconst (v := 0) hx hb dX3_isShelf_14 (by decide) ?_
    have h := Option.some.inj h
    subst h
    exact hret () dX3_isShelf_15 (by decide) rfl hw
  · have h := itf k1 h
    refine lv_iload_n hx hb dX3_isShelf_4 rfl (lv_at hl 0 rfl) ?_
    refine lv_bipush (v := 8) hx hb dX3_isShelf_5 (by decide) ?_
    refine lv_icmp_ge (tgt := 14) hx hb dX3_isShelf_7 (by decide) (fun k7 => ?_) (fun k7 => ?_)
    · have h := itt k7 h
      refine lv_iconst (v := 0) hx hb dX3_isShelf_14 (by decide) ?_
      have h := Option.some.inj h
      subst h
      exact hret () dX3_isShelf_15 (by decide) rfl hw
    · have h := itf k7 h
      refine lv_iconst (v := 1) hx hb dX3_isShelf_10 (by decide) ?_
      refine lv_goto (tgt := 15) hx hb dX3_isShelf_11 (by decide) ?_
      have h := Option.some.inj h
      subst h
      exact hret () dX3_isShelf_15 (by decide) rfl hw
theorem kM_X3_heldBy : kM yX3_heldBy cX3_heldBy 2 (some FieldType.int) 1 := ⟨kc_X3_heldBy, kn_RingsOff_Shelves, by decide +kernel⟩
abbrev R_X3_heldBy : Room := { frames := 1, cells := 0, slots := 0, locals := 20 }
set_option maxHeartbeats 4000000 in
set_option maxRecDepth 100000 in
theorem c_X3_heldBy (l : Launch) {ad : Nat → Nat} {N : Nat} {sh : SH} {p1 : Int32} {out : Int32} (h : M_X3_heldBy N sh p1 = some out) : gM l yX3_heldBy cX3_heldBy 2 (some FieldType.int) R_X3_heldBy (fun _ => [.ref (ad 0), .int p1]) (fun g => [wSH g ad sh]) (gQi (fun (_ : Unit) => out) (fun g (_ : Unit) => [wSH g ad sh])) := by
  refine gM.ofi (by decide +kernel) (fun _ => Nat.le_of_ble_eq_true rfl) (fun g p e s m args below meth c A ls Q X hret hw hl => ?_)
  have hx := X.1.1
  have hb := X.1.2.1
  have hl : lv_has ls 2 [(0, .ref (ad 0)), (1, .int p1)] := hl
  unfold M_X3_heldBy at h
  refine lv_iload_n hx hb dX3_heldBy_0 rfl (lv_at hl 1 rfl) ?_
  obtain ⟨r1, h1, h⟩ := bnd h
  refine g_calli0 (isC := []) (gn := fun _ => [wSH g ad sh]) (g_runS (isC := []) (rest := []) (As := [.int p1]) X hw (c_X3_isShelf l h1) rfl kM_X3_isShelf kt_X3_isShelf km_X3_28 ⟨(Nat.le_of_ble_eq_true rfl), (Nat.le_of_ble_eq_true rfl)⟩ ⟨(Nat.le_of_ble_eq_true rfl), (Nat.le_of_ble_eq_true rfl)⟩ rfl rfl rfl hl.1 rfl (Nat.le_of_ble_eq_true rfl) dX3_heldBy_1) hw rfl rfl (fun _ => (Nat.le_of_ble_eq_true rfl)) (fun _ => rfl) rfl rfl (fun _ H locs hw => ?_)
  refine lv_if_eq (tgt := 16) hx hb dX3_heldBy_4 (by decide) (fun k4 => ?_) (fun k4 => ?_)
  · have h := itt k4 h
    refine lv_iconst (v := -1) hx hb dX3_heldBy_16 (by decide) ?_
    have h := Option.some.inj h
    subst h
    exact hret () dX3_heldBy_17 rfl hw
  · have h := itf k4 h
    refine lv_aload_n hx hb dX3_heldBy_7 rfl (lv_at hl 0 rfl) ?_
    refine SH_g_held X hw 0 rfl kf_X3_11 dX3_heldBy_8 ?_
    refine lv_iload_n hx hb dX3_heldBy_11 rfl (lv_at hl 1 rfl) ?_
    obtain ⟨q12, h⟩ := chk h
    refine SH_l_held X hw 0 rfl q12 dX3_heldBy_12 ?_
    refine lv_goto (tgt := 17) hx hb dX3_heldBy_13 (by decide) ?_
    have h := Option.some.inj h
    subst h
    exact hret () dX3_heldBy_17 rfl hw
theorem kM_X3_isFree : kM yX3_isFree cX3_isFree 2 (some FieldType.boolean) 1 := ⟨kc_X3_isFree, kn_RingsOff_Shelves, by decide +kernel⟩
abbrev R_X3_isFree : Room := { frames := 2, cells := 0, slots := 0, locals := 41 }
set_option maxHeartbeats 4000000 in
set_option maxRecDepth 100000 in
theorem c_X3_isFree (l : Launch) {ad : Nat → Nat} {N : Nat} {sh : SH} {p1 : Int32} {out : Int32} (h : M_X3_isFree N sh p1 = some out) : gM l yX3_isFree cX3_isFree 2 (some FieldType.boolean) R_X3_isFree (fun _ => [.ref (ad 0), .int p1]) (fun g => [wSH g ad sh]) (gQi (fun (_ : Unit) => out) (fun g (_ : Unit) => [wSH g ad sh])) := by
  refine gM.ofz (by decide +kernel) (fun _ => Nat.le_of_ble_eq_true rfl) (fun g p e s m args below meth c A ls Q X hret hw hl => ?_)
  have hx := X.1.1
  have hb := X.1.2.1
  have hl : lv_has ls 2 [(0, .ref (ad 0)), (1, .int p1)] := hl
  unfold M_X3_isFree at h
  refine lv_aload_n hx hb dX3_isFree_0 rfl (lv_at hl 0 rfl) ?_
  refine lv_iload_n hx hb dX3_isFree_1 rfl (lv_at hl 1 rfl) ?_
  obtain ⟨r2, h2, h⟩ := bnd h
  refine g_calli0 (isC := [0]) (gn := fun _ => [wSH g ad sh]) (g_runV (isC := [0]) (rest := []) (As := [.int p1]) X hw (c_X3_heldBy l (ad := ad) h2) rfl kM_X3_heldBy ki_X3_heldBy ks_X3_heldBy km_X3_32 ⟨(Nat.le_of_ble_eq_true rfl), (Nat.le_of_ble_eq_true rfl)⟩ ⟨(Nat.le_of_ble_eq_true rfl), (Nat.le_of_ble_eq_true rfl)⟩ rfl rfl ⟨_, _, _, _, rfl, rfl, rfl, rfl⟩ rfl hl.1 rfl (Nat.le_of_ble_eq_true rfl) dX3_isFree_2) hw rfl rfl (fun _ => (Nat.le_of_ble_eq_true rfl)) (fun _ => rfl) rfl rfl (fun _ H locs hw => ?_)
  refine lv_iconst (v := -1) hx hb dX3_isFree_5 (by decide) ?_
  refine lv_icmp_ne (tgt := 13) hx hb dX3_isFree_6 (by decide) (fun k6 => ?_) (fun k6 => ?_)
  · have h := itt k6 h
    refine lv_iconst (v := 0) hx hb dX3_isFree_13 (by decide) ?_
    have h := Option.some.inj h
    subst h
    exact hret () dX3_isFree_14 (by decide) rfl hw
  · have h := itf (fun z => z k6) h
    refine lv_iconst (v := 1) hx hb dX3_isFree_9 (by decide) ?_
    refine lv_goto (tgt := 14) hx hb dX3_isFree_10 (by decide) ?_
    have h := Option.some.inj h
    subst h
    exact hret () dX3_isFree_14 (by decide) rfl hw
theorem kM_X3_hasBarIn : kM yX3_hasBarIn cX3_hasBarIn 2 (some FieldType.boolean) 1 := ⟨kc_X3_hasBarIn, kn_RingsOff_Shelves, by decide +kernel⟩
abbrev R_X3_hasBarIn : Room := { frames := 2, cells := 0, slots := 0, locals := 41 }
set_option maxHeartbeats 4000000 in
set_option maxRecDepth 100000 in
theorem c_X3_hasBarIn (l : Launch) {ad : Nat → Nat} {N : Nat} {sh : SH} {p1 : Int32} {out : Int32} (h : M_X3_hasBarIn N sh p1 = some out) : gM l yX3_hasBarIn cX3_hasBarIn 2 (some FieldType.boolean) R_X3_hasBarIn (fun _ => [.ref (ad 0), .int p1]) (fun g => [wSH g ad sh]) (gQi (fun (_ : Unit) => out) (fun g (_ : Unit) => [wSH g ad sh])) := by
  refine gM.ofz (by decide +kernel) (fun _ => Nat.le_of_ble_eq_true rfl) (fun g p e s m args below meth c A ls Q X hret hw hl => ?_)
  have hx := X.1.1
  have hb := X.1.2.1
  have hl : lv_has ls 2 [(0, .ref (ad 0)), (1, .int p1)] := hl
  unfold M_X3_hasBarIn at h
  refine lv_aload_n hx hb dX3_hasBarIn_0 rfl (lv_at hl 0 rfl) ?_
  refine lv_iload_n hx hb dX3_hasBarIn_1 rfl (lv_at hl 1 rfl) ?_
  obtain ⟨r2, h2, h⟩ := bnd h
  refine g_calli0 (isC := [0]) (gn := fun _ => [wSH g ad sh]) (g_runV (isC := [0]) (rest := []) (As := [.int p1]) X hw (c_X3_heldBy l (ad := ad) h2) rfl kM_X3_heldBy ki_X3_heldBy ks_X3_heldBy km_X3_32 ⟨(Nat.le_of_ble_eq_true rfl), (Nat.le_of_ble_eq_true rfl)⟩ ⟨(Nat.le_of_ble_eq_true rfl), (Nat.le_of_ble_eq_true rfl)⟩ rfl rfl ⟨_, _, _, _, rfl, rfl, rfl, rfl⟩ rfl hl.1 rfl (Nat.le_of_ble_eq_true rfl) dX3_hasBarIn_2) hw rfl rfl (fun _ => (Nat.le_of_ble_eq_true rfl)) (fun _ => rfl) rfl rfl (fun _ H locs hw => ?_)
  refine lv_bipush (v := 10) hx hb dX3_hasBarIn_5 (by decide) ?_
  refine lv_icmp_lt (tgt := 14) hx hb dX3_hasBarIn_7 (by decide) (fun k7 => ?_) (fun k7 => ?_)
  · have h := itt k7 h
    refine lv_iconst (v := 0) hx hb dX3_hasBarIn_14 (by decide) ?_
    have h := Option.some.inj h
    subst h
    exact hret () dX3_hasBarIn_15 (by decide) rfl hw
  · have h := itf k7 h
    refine lv_iconst (v := 1) hx hb dX3_hasBarIn_10 (by decide) ?_
    refine lv_goto (tgt := 15) hx hb dX3_hasBarIn_11 (by decide) ?_
    have h := Option.some.inj h
    subst h
    exact hret () dX3_hasBarIn_15 (by decide) rfl hw
theorem kM_X3_hasRowIn : kM yX3_hasRowIn cX3_hasRowIn 2 (some FieldType.boolean) 1 := ⟨kc_X3_hasRowIn, kn_RingsOff_Shelves, by decide +kernel⟩
abbrev R_X3_hasRowIn : Room := { frames := 0, cells := 0, slots := 0, locals := 0 }
set_option maxHeartbeats 4000000 in
set_option maxRecDepth 100000 in
theorem c_X3_hasRowIn (l : Launch) {ad : Nat → Nat} {N : Nat} {sh : SH} {p1 : Int32} {out : Int32} (h : M_X3_hasRowIn N sh p1 = some out) : gM l yX3_hasRowIn cX3_hasRowIn 2 (some FieldType.boolean) R_X3_hasRowIn (fun _ => [.ref (ad 0), .int p1]) (fun g => [wSH g ad sh]) (gQi (fun (_ : Unit) => out) (fun g (_ : Unit) => [wSH g ad sh])) := by
  refine gM.ofz (by decide +kernel) (fun _ => Nat.le_of_ble_eq_true rfl) (fun g p e s m args below meth c A ls Q X hret hw hl => ?_)
  have hx := X.1.1
  have hb := X.1.2.1
  have hl : lv_has ls 2 [(0, .ref (ad 0)), (1, .int p1)] := hl
  unfold M_X3_hasRowIn at h
  refine lv_iload_n hx hb dX3_hasRowIn_0 rfl (lv_at hl 1 rfl) ?_
  refine lv_if_lt (tgt := 35) hx hb dX3_hasRowIn_1 (by decide) (fun k1 => ?_) (fun k1 => ?_)
  · have h := itt k1 h
    refine lv_iconst (v := 0) hx hb dX3_hasRowIn_35 (by decide) ?_
    have h := Option.some.inj h
    subst h
    exact hret () dX3_hasRowIn_36 (by decide) rfl hw
  · have h := itf k1 h
    refine lv_iload_n hx hb dX3_hasRowIn_4 rfl (lv_at hl 1 rfl) ?_
    refine lv_bipush (v := 8) hx hb dX3_hasRowIn_5 (by decide) ?_
    refine lv_icmp_ge (tgt := 35) hx hb dX3_hasRowIn_7 (by decide) (fun k7 => ?_) (fun k7 => ?_)
    · have h := itt k7 h
      refine lv_iconst (v := 0) hx hb dX3_hasRowIn_35 (by decide) ?_
      have h := Option.some.inj h
      subst h
      exact hret () dX3_hasRowIn_36 (by decide) rfl hw
    · have h := itf k7 h
      refine lv_aload_n hx hb dX3_hasRowIn_10 rfl (lv_at hl 0 rfl) ?_
      refine SH_g_held X hw 0 rfl kf_X3_11 dX3_hasRowIn_11 ?_
      refine lv_iload_n hx hb dX3_hasRowIn_14 rfl (lv_at hl 1 rfl) ?_
      obtain ⟨q15, h⟩ := chk h
      refine SH_l_held X hw 0 rfl q15 dX3_hasRowIn_15 ?_
      refine lv_iconst (v := -1) hx hb dX3_hasRowIn_16 (by decide) ?_
      refine lv_icmp_eq (tgt := 35) hx hb dX3_hasRowIn_17 (by decide) (fun k17 => ?_) (fun k17 => ?_)
      · have h := itt k17 h
        refine lv_iconst (v := 0) hx hb dX3_hasRowIn_35 (by decide) ?_
        have h := Option.some.inj h
        subst h
        exact hret () dX3_hasRowIn_36 (by decide) rfl hw
      · have h := itf k17 h
        refine lv_aload_n hx hb dX3_hasRowIn_20 rfl (lv_at hl 0 rfl) ?_
        refine SH_g_held X hw 0 rfl kf_X3_11 dX3_hasRowIn_21 ?_
        refine lv_iload_n hx hb dX3_hasRowIn_24 rfl (lv_at hl 1 rfl) ?_
        obtain ⟨q25, h⟩ := chk h
        refine SH_l_held X hw 0 rfl q25 dX3_hasRowIn_25 ?_
        refine lv_bipush (v := 10) hx hb dX3_hasRowIn_26 (by decide) ?_
        refine lv_icmp_ge (tgt := 35) hx hb dX3_hasRowIn_28 (by decide) (fun k28 => ?_) (fun k28 => ?_)
        · have h := itt k28 h
          refine lv_iconst (v := 0) hx hb dX3_hasRowIn_35 (by decide) ?_
          have h := Option.some.inj h
          subst h
          exact hret () dX3_hasRowIn_36 (by decide) rfl hw
        · have h := itf k28 h
          refine lv_iconst (v := 1) hx hb dX3_hasRowIn_31 (by decide) ?_
          refine lv_goto (tgt := 36) hx hb dX3_hasRowIn_32 (by decide) ?_
          have h := Option.some.inj h
          subst h
          exact hret () dX3_hasRowIn_36 (by decide) rfl hw
theorem kM_X3_barIn : kM yX3_barIn cX3_barIn 3 (some FieldType.int) 1 := ⟨kc_X3_barIn, kn_RingsOff_Shelves, by decide +kernel⟩
abbrev R_X3_barIn : Room := { frames := 2, cells := 0, slots := 0, locals := 41 }
set_option maxHeartbeats 4000000 in
set_option maxRecDepth 100000 in
theorem c_X3_barIn (l : Launch) {ad : Nat → Nat} {N : Nat} {sh : SH} {p1 : Int32} {out : Int32} (h : M_X3_barIn N sh p1 = some out) : gM l yX3_barIn cX3_barIn 3 (some FieldType.int) R_X3_barIn (fun _ => [.ref (ad 0), .int p1]) (fun g => [wSH g ad sh]) (gQi (fun (_ : Unit) => out) (fun g (_ : Unit) => [wSH g ad sh])) := by
  refine gM.ofi (by decide +kernel) (fun _ => Nat.le_of_ble_eq_true rfl) (fun g p e s m args below meth c A ls Q X hret hw hl => ?_)
  have hx := X.1.1
  have hb := X.1.2.1
  have hl : lv_has ls 3 [(0, .ref (ad 0)), (1, .int p1)] := hl
  unfold M_X3_barIn at h
  refine lv_aload_n hx hb dX3_barIn_0 rfl (lv_at hl 0 rfl) ?_
  refine lv_iload_n hx hb dX3_barIn_1 rfl (lv_at hl 1 rfl) ?_
  obtain ⟨r2, h2, h⟩ := bnd h
  refine g_calli0 (isC := [0]) (gn := fun _ => [wSH g ad sh]) (g_runV (isC := [0]) (rest := []) (As := [.int p1]) X hw (c_X3_heldBy l (ad := ad) h2) rfl kM_X3_heldBy ki_X3_heldBy ks_X3_heldBy km_X3_32 ⟨(Nat.le_of_ble_eq_true rfl), (Nat.le_of_ble_eq_true rfl)⟩ ⟨(Nat.le_of_ble_eq_true rfl), (Nat.le_of_ble_eq_true rfl)⟩ rfl rfl ⟨_, _, _, _, rfl, rfl, rfl, rfl⟩ rfl hl.1 rfl (Nat.le_of_ble_eq_true rfl) dX3_barIn_2) hw rfl rfl (fun _ => (Nat.le_of_ble_eq_true rfl)) (fun _ => rfl) rfl rfl (fun _ H locs hw => ?_)
  refine lv_istore_n (lv' := [(2, .int r2), (0, .ref (ad 0)), (1, .int p1)]) hx hb dX3_barIn_5 rfl hl (by decide) rfl (fun ls hl => ?_)
  refine lv_iload_n hx hb dX3_barIn_6 rfl (lv_at hl 0 rfl) ?_
  refine lv_bipush (v := 10) hx hb dX3_barIn_7 (by decide) ?_
  refine lv_icmp_lt (tgt := 19) hx hb dX3_barIn_9 (by decide) (fun k9 => ?_) (fun k9 => ?_)
  · have h := itt k9 h
    refine lv_iconst (v := -1) hx hb dX3_barIn_19 (by decide) ?_
    have h := Option.some.inj h
    subst h
    exact hret () dX3_barIn_20 rfl hw
  · have h := itf k9 h
    refine lv_iload_n hx hb dX3_barIn_12 rfl (lv_at hl 0 rfl) ?_
    refine lv_bipush (v := 10) hx hb dX3_barIn_13 (by decide) ?_
    refine lv_isub hx hb dX3_barIn_15 ?_
    refine lv_goto (tgt := 20) hx hb dX3_barIn_16 (by decide) ?_
    have h := Option.some.inj h
    subst h
    exact hret () dX3_barIn_20 rfl hw
theorem kM_X3_differ : kM yX3_differ cX3_differ 3 (some FieldType.boolean) 2 := ⟨kc_X3_differ, kn_RingsOff_Shelves, by decide +kernel⟩
abbrev R_X3_differ : Room := { frames := 3, cells := 0, slots := 0, locals := 62 }
set_option maxHeartbeats 4000000 in
set_option maxRecDepth 100000 in
theorem c_X3_differ (l : Launch) {ad : Nat → Nat} {N : Nat} {sh : SH} {p1 : Int32} {p2 : Int32} {out : Int32} (h : M_X3_differ N sh p1 p2 = some out) : gM l yX3_differ cX3_differ 3 (some FieldType.boolean) R_X3_differ (fun _ => [.ref (ad 0), .int p1, .int p2]) (fun g => [wSH g ad sh]) (gQi (fun (_ : Unit) => out) (fun g (_ : Unit) => [wSH g ad sh])) := by
  refine gM.ofz (by decide +kernel) (fun _ => Nat.le_of_ble_eq_true rfl) (fun g p e s m args below meth c A ls Q X hret hw hl => ?_)
  have hx := X.1.1
  have hb := X.1.2.1
  have hl : lv_has ls 3 [(0, .ref (ad 0)), (1, .int p1), (2, .int p2)] := hl
  unfold M_X3_differ at h
  refine lv_aload_n hx hb dX3_differ_0 rfl (lv_at hl 0 rfl) ?_
  refine lv_iload_n hx hb dX3_differ_1 rfl (lv_at hl 1 rfl) ?_
  obtain ⟨r2, h2, h⟩ := bnd h
  refine g_calli0 (isC := [0]) (gn := fun _ => [wSH g ad sh]) (g_runV (isC := [0]) (rest := []) (As := [.int p1]) X hw (c_X3_isFree l (ad := ad) h2) rfl kM_X3_isFree ki_X3_isFree ks_X3_isFree km_X3_36 ⟨(Nat.le_of_ble_eq_true rfl), (Nat.le_of_ble_eq_true rfl)⟩ ⟨(Nat.le_of_ble_eq_true rfl), (Nat.le_of_ble_eq_true rfl)⟩ rfl rfl ⟨_, _, _, _, rfl, rfl, rfl, rfl⟩ rfl hl.1 rfl (Nat.le_of_ble_eq_true rfl) dX3_differ_2) hw rfl rfl (fun _ => (Nat.le_of_ble_eq_true rfl)) (fun _ => rfl) rfl rfl (fun _ H locs hw => ?_)
  refine lv_if_ne (tgt := 33) hx hb dX3_differ_5 (by decide) (fun k5 => ?_) (fun k5 => ?_)
  · have h := itt k5 h
    refine lv_iconst (v := 0) hx hb dX3_differ_33 (by decide) ?_
    have h := Option.some.inj h
    subst h
    exact hret () dX3_differ_34 (by decide) rfl hw
  · have h := itf (fun z => z k5) h
    refine lv_aload_n hx hb dX3_differ_8 rfl (lv_at hl 0 rfl) ?_
    refine lv_iload_n hx hb dX3_differ_9 rfl (lv_at hl 2 rfl) ?_
    obtain ⟨r10, h10, h⟩ := bnd h
    refine g_calli0 (isC := [0]) (gn := fun _ => [wSH g ad sh]) (g_runV (isC := [0]) (rest := []) (As := [.int p2]) X hw (c_X3_isFree l (ad := ad) h10) rfl kM_X3_isFree ki_X3_isFree ks_X3_isFree km_X3_36 ⟨(Nat.le_of_ble_eq_true rfl), (Nat.le_of_ble_eq_true rfl)⟩ ⟨(Nat.le_of_ble_eq_true rfl), (Nat.le_of_ble_eq_true rfl)⟩ rfl rfl ⟨_, _, _, _, rfl, rfl, rfl, rfl⟩ rfl hl.1 rfl (Nat.le_of_ble_eq_true rfl) dX3_differ_10) hw rfl rfl (fun _ => (Nat.le_of_ble_eq_true rfl)) (fun _ => rfl) rfl rfl (fun _ H locs hw => ?_)
    refine lv_if_ne (tgt := 33) hx hb dX3_differ_13 (by decide) (fun k13 => ?_) (fun k13 => ?_)
    · have h := itt k13 h
      refine lv_iconst (v := 0) hx hb dX3_differ_33 (by decide) ?_
      have h := Option.some.inj h
      subst h
      exact hret () dX3_differ_34 (by decide) rfl hw
    · have h := itf (fun z => z k13) h
      refine lv_aload_n hx hb dX3_differ_16 rfl (lv_at hl 0 rfl) ?_
      refine lv_iload_n hx hb dX3_differ_17 rfl (lv_at hl 1 rfl) ?_
      obtain ⟨r18, h18, h⟩ := bnd h
      refine g_calli0 (isC := [0]) (gn := fun _ => [wSH g ad sh]) (g_runV (isC := [0]) (rest := []) (As := [.int p1]) X hw (c_X3_heldBy l (ad := ad) h18) rfl kM_X3_heldBy ki_X3_heldBy ks_X3_heldBy km_X3_32 ⟨(Nat.le_of_ble_eq_true rfl), (Nat.le_of_ble_eq_true rfl)⟩ ⟨(Nat.le_of_ble_eq_true rfl), (Nat.le_of_ble_eq_true rfl)⟩ rfl rfl ⟨_, _, _, _, rfl, rfl, rfl, rfl⟩ rfl hl.1 rfl (Nat.le_of_ble_eq_true rfl) dX3_differ_18) hw rfl rfl (fun _ => (Nat.le_of_ble_eq_true rfl)) (fun _ => rfl) rfl rfl (fun _ H locs hw => ?_)
      refine lv_aload_n hx hb dX3_differ_21 rfl (lv_at hl 0 rfl) ?_
      refine lv_iload_n hx hb dX3_differ_22 rfl (lv_at hl 2 rfl) ?_
      obtain ⟨r23, h23, h⟩ := bnd h
      refine g_calli0 (isC := [0]) (gn := fun _ => [wSH g ad sh]) (g_runV (isC := [0]) (rest := [.int r18]) (As := [.int p2]) X hw (c_X3_heldBy l (ad := ad) h23) rfl kM_X3_heldBy ki_X3_heldBy ks_X3_heldBy km_X3_32 ⟨(Nat.le_of_ble_eq_true rfl), (Nat.le_of_ble_eq_true rfl)⟩ ⟨(Nat.le_of_ble_eq_true rfl), (Nat.le_of_ble_eq_true rfl)⟩ rfl rfl ⟨_, _, _, _, rfl, rfl, rfl, rfl⟩ rfl hl.1 rfl (Nat.le_of_ble_eq_true rfl) dX3_differ_23) hw rfl rfl (fun _ => (Nat.le_of_ble_eq_true rfl)) (fun _ => rfl) rfl rfl (fun _ H locs hw => ?_)
      refine lv_icmp_eq (tgt := 33) hx hb dX3_differ_26 (by decide) (fun k26 => ?_) (fun k26 => ?_)
      · have h := itt k26 h
        refine lv_iconst (v := 0) hx hb dX3_differ_33 (by decide) ?_
        have h := Option.some.inj h
        subst h
        exact hret () dX3_differ_34 (by decide) rfl hw
      · have h := itf k26 h
        refine lv_iconst (v := 1) hx hb dX3_differ_29 (by decide) ?_
        refine lv_goto (tgt := 34) hx hb dX3_differ_30 (by decide) ?_
        have h := Option.some.inj h
        subst h
        exact hret () dX3_differ_34 (by decide) rfl hw
theorem kM_X3_hasCells : kM yX3_hasCells cX3_hasCells 4 (some FieldType.boolean) 3 := ⟨kc_X3_hasCells, kn_RingsOff_Shelves, by decide +kernel⟩
abbrev R_X3_hasCells : Room := { frames := 1, cells := 0, slots := 0, locals := 21 }
set_option maxHeartbeats 4000000 in
set_option maxRecDepth 100000 in
theorem c_X3_hasCells (l : Launch) {ad : Nat → Nat} {N : Nat} {sh : SH} {p1 : Int32} {p2 : Int32} {p3 : Int32} {out : Int32} (h : M_X3_hasCells N sh p1 p2 p3 = some out) : gM l yX3_hasCells cX3_hasCells 4 (some FieldType.boolean) R_X3_hasCells (fun _ => [.ref (ad 0), .int p1, .int p2, .int p3]) (fun g => [wSH g ad sh]) (gQi (fun (_ : Unit) => out) (fun g (_ : Unit) => [wSH g ad sh])) := by
  refine gM.ofz (by decide +kernel) (fun _ => Nat.le_of_ble_eq_true rfl) (fun g p e s m args below meth c A ls Q X hret hw hl => ?_)
  have hx := X.1.1
  have hb := X.1.2.1
  have hl : lv_has ls 4 [(0, .ref (ad 0)), (1, .int p1), (2, .int p2), (3, .int p3)] := hl
  unfold M_X3_hasCells at h
  refine lv_aload_n hx hb dX3_hasCells_0 rfl (lv_at hl 0 rfl) ?_
  refine lv_iload_n hx hb dX3_hasCells_1 rfl (lv_at hl 1 rfl) ?_
  obtain ⟨r2, h2, h⟩ := bnd h
  refine g_calli0 (isC := [0]) (gn := fun _ => [wSH g ad sh]) (g_runV (isC := [0]) (rest := []) (As := [.int p1]) X hw (c_X3_hasRowIn l (ad := ad) h2) rfl kM_X3_hasRowIn ki_X3_hasRowIn ks_X3_hasRowIn km_X3_39 ⟨(Nat.le_of_ble_eq_true rfl), (Nat.le_of_ble_eq_true rfl)⟩ ⟨(Nat.le_of_ble_eq_true rfl), (Nat.le_of_ble_eq_true rfl)⟩ rfl rfl ⟨_, _, _, _, rfl, rfl, rfl, rfl⟩ rfl hl.1 rfl (Nat.le_of_ble_eq_true rfl) dX3_hasCells_2) hw rfl rfl (fun _ => (Nat.le_of_ble_eq_true rfl)) (fun _ => rfl) rfl rfl (fun _ H locs hw => ?_)
  refine lv_if_eq (tgt := 42) hx hb dX3_hasCells_5 (by decide) (fun k5 => ?_) (fun k5 => ?_)
  · have h := itt k5 h
    refine lv_iconst (v := 0) hx hb dX3_hasCells_42 (by decide) ?_
    have h := Option.some.inj h
    subst h
    exact hret () dX3_hasCells_43 (by decide) rfl hw
  · have h := itf k5 h
    refine lv_iload_n hx hb dX3_hasCells_8 rfl (lv_at hl 2 rfl) ?_
    refine lv_if_lt (tgt := 42) hx hb dX3_hasCells_9 (by decide) (fun k9 => ?_) (fun k9 => ?_)
    · have h := itt k9 h
      refine lv_iconst (v := 0) hx hb dX3_hasCells_42 (by decide) ?_
      have h := Option.some.inj h
      subst h
      exact hret () dX3_hasCells_43 (by decide) rfl hw
    · have h := itf k9 h
      refine lv_iload_n hx hb dX3_hasCells_12 rfl (lv_at hl 3 rfl) ?_
      refine lv_if_lt (tgt := 42) hx hb dX3_hasCells_13 (by decide) (fun k13 => ?_) (fun k13 => ?_)
      · have h := itt k13 h
        refine lv_iconst (v := 0) hx hb dX3_hasCells_42 (by decide) ?_
        have h := Option.some.inj h
        subst h
        exact hret () dX3_hasCells_43 (by decide) rfl hw
      · have h := itf k13 h
        refine lv_iload_n hx hb dX3_hasCells_16 rfl (lv_at hl 3 rfl) ?_
        refine lv_aload_n hx hb dX3_hasCells_17 rfl (lv_at hl 0 rfl) ?_
        refine SH_g_lengths X hw 0 rfl kf_X3_15 dX3_hasCells_18 ?_
        refine lv_iload_n hx hb dX3_hasCells_21 rfl (lv_at hl 1 rfl) ?_
        obtain ⟨q22, h⟩ := chk h
        refine SH_l_lengths X hw 0 rfl q22 dX3_hasCells_22 ?_
        refine lv_icmp_gt (tgt := 42) hx hb dX3_hasCells_23 (by decide) (fun k23 => ?_) (fun k23 => ?_)
        · have h := itt k23 h
          refine lv_iconst (v := 0) hx hb dX3_hasCells_42 (by decide) ?_
          have h := Option.some.inj h
          subst h
          exact hret () dX3_hasCells_43 (by decide) rfl hw
        · have h := itf k23 h
          refine lv_iload_n hx hb dX3_hasCells_26 rfl (lv_at hl 2 rfl) ?_
          refine lv_aload_n hx hb dX3_hasCells_27 rfl (lv_at hl 0 rfl) ?_
          refine SH_g_lengths X hw 0 rfl kf_X3_15 dX3_hasCells_28 ?_
          refine lv_iload_n hx hb dX3_hasCells_31 rfl (lv_at hl 1 rfl) ?_
          obtain ⟨q32, h⟩ := chk h
          refine SH_l_lengths X hw 0 rfl q32 dX3_hasCells_32 ?_
          refine lv_iload_n hx hb dX3_hasCells_33 rfl (lv_at hl 3 rfl) ?_
          refine lv_isub hx hb dX3_hasCells_34 ?_
          refine lv_icmp_gt (tgt := 42) hx hb dX3_hasCells_35 (by decide) (fun k35 => ?_) (fun k35 => ?_)
          · have h := itt k35 h
            refine lv_iconst (v := 0) hx hb dX3_hasCells_42 (by decide) ?_
            have h := Option.some.inj h
            subst h
            exact hret () dX3_hasCells_43 (by decide) rfl hw
          · have h := itf k35 h
            refine lv_iconst (v := 1) hx hb dX3_hasCells_38 (by decide) ?_
            refine lv_goto (tgt := 43) hx hb dX3_hasCells_39 (by decide) ?_
            have h := Option.some.inj h
            subst h
            exact hret () dX3_hasCells_43 (by decide) rfl hw
theorem kM_X3_cell : kM yX3_cell cX3_cell 3 (some FieldType.long) 2 := ⟨kc_X3_cell, kn_RingsOff_Shelves, by decide +kernel⟩
abbrev R_X3_cell : Room := { frames := 2, cells := 0, slots := 0, locals := 44 }
set_option maxHeartbeats 4000000 in
set_option maxRecDepth 100000 in
theorem c_X3_cell (l : Launch) {ad : Nat → Nat} {N : Nat} {sh : SH} {p1 : Int32} {p2 : Int32} {out : Int64} (h : M_X3_cell N sh p1 p2 = some out) : gM l yX3_cell cX3_cell 3 (some FieldType.long) R_X3_cell (fun _ => [.ref (ad 0), .int p1, .int p2]) (fun g => [wSH g ad sh]) (gQl (fun (_ : Unit) => out) (fun g (_ : Unit) => [wSH g ad sh])) := by
  refine gM.ofl (by decide +kernel) (fun _ => Nat.le_of_ble_eq_true rfl) (fun g p e s m args below meth c A ls Q X hret hw hl => ?_)
  have hx := X.1.1
  have hb := X.1.2.1
  have hl : lv_has ls 3 [(0, .ref (ad 0)), (1, .int p1), (2, .int p2)] := hl
  unfold M_X3_cell at h
  refine lv_aload_n hx hb dX3_cell_0 rfl (lv_at hl 0 rfl) ?_
  refine lv_iload_n hx hb dX3_cell_1 rfl (lv_at hl 1 rfl) ?_
  refine lv_iload_n hx hb dX3_cell_2 rfl (lv_at hl 2 rfl) ?_
  refine lv_iconst (v := 1) hx hb dX3_cell_3 (by decide) ?_
  obtain ⟨r4, h4, h⟩ := bnd h
  refine g_calli0 (isC := [0]) (gn := fun _ => [wSH g ad sh]) (g_runV (isC := [0]) (rest := []) (As := [.int p1, .int p2, .int (1 : Int32)]) X hw (c_X3_hasCells l (ad := ad) h4) rfl kM_X3_hasCells ki_X3_hasCells ks_X3_hasCells km_X3_42 ⟨(Nat.le_of_ble_eq_true rfl), (Nat.le_of_ble_eq_true rfl)⟩ ⟨(Nat.le_of_ble_eq_true rfl), (Nat.le_of_ble_eq_true rfl)⟩ rfl rfl ⟨_, _, _, _, rfl, rfl, rfl, rfl⟩ rfl hl.1 rfl (Nat.le_of_ble_eq_true rfl) dX3_cell_4) hw rfl rfl (fun _ => (Nat.le_of_ble_eq_true rfl)) (fun _ => rfl) rfl rfl (fun _ H locs hw => ?_)
  refine lv_if_eq (tgt := 24) hx hb dX3_cell_7 (by decide) (fun k7 => ?_) (fun k7 => ?_)
  · have h := itt k7 h
    refine lv_lconst (v := 0) hx hb dX3_cell_24 (by decide) ?_
    have h := Option.some.inj h
    subst h
    exact hret () dX3_cell_25 rfl hw
  · have h := itf k7 h
    refine lv_aload_n hx hb dX3_cell_10 rfl (lv_at hl 0 rfl) ?_
    refine SH_g_cells X hw 0 rfl kf_X3_18 dX3_cell_11 ?_
    refine lv_iload_n hx hb dX3_cell_14 rfl (lv_at hl 1 rfl) ?_
    refine lv_bipush (v := 40) hx hb dX3_cell_15 (by decide) ?_
    refine lv_imul hx hb dX3_cell_17 ?_
    refine lv_iload_n hx hb dX3_cell_18 rfl (lv_at hl 2 rfl) ?_
    refine lv_iadd hx hb dX3_cell_19 ?_
    obtain ⟨q20, h⟩ := chk h
    refine SH_l_cells X hw 0 rfl q20 dX3_cell_20 ?_
    refine lv_goto (tgt := 25) hx hb dX3_cell_21 (by decide) ?_
    have h := Option.some.inj h
    subst h
    exact hret () dX3_cell_25 rfl hw
theorem kM_X3_holdRow : kM yX3_holdRow cX3_holdRow 5 (none : Option Jvm.ClassFile.FieldType) 3 := ⟨kc_X3_holdRow, kn_RingsOff_Shelves, by decide +kernel⟩
abbrev R_X3_holdRow : Room := { frames := 1, cells := 0, slots := 0, locals := 20 }
set_option maxHeartbeats 4000000 in
set_option maxRecDepth 100000 in
theorem c_X3_holdRow (l : Launch) {ad : Nat → Nat} {N : Nat} {sh : SH} {p1 : Int32} {p2 : Int32} {p3 : Int32} {out : SH} (h : M_X3_holdRow N sh p1 p2 p3 = some out) : gM l yX3_holdRow cX3_holdRow 5 (none : Option Jvm.ClassFile.FieldType) R_X3_holdRow (fun _ => [.ref (ad 0), .int p1, .int p2, .int p3]) (fun g => [wSH g ad sh]) (gQv (fun g (_ : Unit) => [wSH g ad out])) := by
  refine gM.ofv (by decide +kernel) (fun _ => Nat.le_of_ble_eq_true rfl) (fun g p e s m args below meth c A ls Q X hret hw hl => ?_)
  have hx := X.1.1
  have hb := X.1.2.1
  have hl : lv_has ls 5 [(0, .ref (ad 0)), (1, .int p1), (2, .int p2), (3, .int p3)] := hl
  have L35 : ∀ (n : Nat) (z35 : SH × Int32), lp (M_X3_holdRow_l35 N p1 p2 p3) n z35 = some out → ∀ (H : Heap) (locs : List Loc) (ls : Array Slot), gW g A s.heap [wSH g ad z35.1] H locs → lv_has ls 5 [(0, .ref (ad 0)), (1, .int p1), (3, .int p3), (4, .int z35.2)] → W p l e R_X3_holdRow s m args below meth c H locs 0 0 Q (F0 m 35 ls []) := by
    refine lp_ind ?_
    intro rec35 ih35
    intro z35 h H locs ls hw hl
    unfold M_X3_holdRow_l35 at h
    refine lv_iload hx hb dX3_holdRow_35 (lv_at hl 3 rfl) ?_
    refine lv_iload_n hx hb dX3_holdRow_37 rfl (lv_at hl 2 rfl) ?_
    refine lv_icmp_ge (tgt := 60) hx hb dX3_holdRow_38 (by decide) (fun k38 => ?_) (fun k38 => ?_)
    · have h := itt k38 h
      have h := Option.some.inj h
      subst h
      exact hret () dX3_holdRow_60 hw
    · have h := itf k38 h
      refine lv_aload_n hx hb dX3_holdRow_41 rfl (lv_at hl 0 rfl) ?_
      refine SH_g_cells X hw 0 rfl kf_X3_18 dX3_holdRow_42 ?_
      refine lv_iload_n hx hb dX3_holdRow_45 rfl (lv_at hl 1 rfl) ?_
      refine lv_bipush (v := 40) hx hb dX3_holdRow_46 (by decide) ?_
      refine lv_imul hx hb dX3_holdRow_48 ?_
      refine lv_iload hx hb dX3_holdRow_49 (lv_at hl 3 rfl) ?_
      refine lv_iadd hx hb dX3_holdRow_51 ?_
      refine lv_lconst (v := 0) hx hb dX3_holdRow_52 (by decide) ?_
      obtain ⟨q53, h⟩ := chk h
      refine SH_a_cells (gs' := [wSH g ad (SH_s_cells z35.1 (vp_updL (SH_cells z35.1) ((p1 * (40 : Int32)) + z35.2).toNatClampNeg (0 : Int64)))]) X hw 0 rfl q53 dX3_holdRow_53 rfl (fun H locs hw => ?_)
      refine lv_iinc (v := (z35.2 + 1)) (lv' := [(4, .int (z35.2 + 1)), (0, .ref (ad 0)), (1, .int p1), (3, .int p3)]) hx hb dX3_holdRow_54 hl (k := 3) rfl rfl (by decide) rfl (fun ls hl => ?_)
      refine lv_goto (tgt := 35) hx hb dX3_holdRow_57 (by decide) ?_
      exact ih35 _ h _ _ _ hw (lv_sub hl [1, 2, 3, 0] rfl)
  unfold M_X3_holdRow at h
  refine lv_iload_n hx hb dX3_holdRow_0 rfl (lv_at hl 1 rfl) ?_
  obtain ⟨r1, h1, h⟩ := bnd h
  refine g_calli0 (isC := []) (gn := fun _ => [wSH g ad sh]) (g_runS (isC := []) (rest := []) (As := [.int p1]) X hw (c_X3_isShelf l h1) rfl kM_X3_isShelf kt_X3_isShelf km_X3_28 ⟨(Nat.le_of_ble_eq_true rfl), (Nat.le_of_ble_eq_true rfl)⟩ ⟨(Nat.le_of_ble_eq_true rfl), (Nat.le_of_ble_eq_true rfl)⟩ rfl rfl rfl hl.1 rfl (Nat.le_of_ble_eq_true rfl) dX3_holdRow_1) hw rfl rfl (fun _ => (Nat.le_of_ble_eq_true rfl)) (fun _ => rfl) rfl rfl (fun _ H locs hw => ?_)
  refine lv_if_eq (tgt := 17) hx hb dX3_holdRow_4 (by decide) (fun k4 => ?_) (fun k4 => ?_)
  · have h := itt k4 h
    have h := Option.some.inj h
    subst h
    exact hret () dX3_holdRow_17 hw
  · have h := itf k4 h
    refine lv_iload_n hx hb dX3_holdRow_7 rfl (lv_at hl 3 rfl) ?_
    refine lv_if_lt (tgt := 17) hx hb dX3_holdRow_8 (by decide) (fun k8 => ?_) (fun k8 => ?_)
    · have h := itt k8 h
      have h := Option.some.inj h
      subst h
      exact hret () dX3_holdRow_17 hw
    · have h := itf k8 h
      refine lv_iload_n hx hb dX3_holdRow_11 rfl (lv_at hl 3 rfl) ?_
      refine lv_bipush (v := 40) hx hb dX3_holdRow_12 (by decide) ?_
      refine lv_icmp_le (tgt := 18) hx hb dX3_holdRow_14 (by decide) (fun k14 => ?_) (fun k14 => ?_)
      · have h := itt k14 h
        refine lv_aload_n hx hb dX3_holdRow_18 rfl (lv_at hl 0 rfl) ?_
        refine SH_g_held X hw 0 rfl kf_X3_11 dX3_holdRow_19 ?_
        refine lv_iload_n hx hb dX3_holdRow_22 rfl (lv_at hl 1 rfl) ?_
        refine lv_iload_n hx hb dX3_holdRow_23 rfl (lv_at hl 2 rfl) ?_
        obtain ⟨q24, h⟩ := chk h
        refine SH_a_held (gs' := [wSH g ad (SH_s_held sh (upd (SH_held sh) p1.toNatClampNeg p2))]) X hw 0 rfl q24 dX3_holdRow_24 rfl (fun H locs hw => ?_)
        refine lv_aload_n hx hb dX3_holdRow_25 rfl (lv_at hl 0 rfl) ?_
        refine SH_g_lengths X hw 0 rfl kf_X3_15 dX3_holdRow_26 ?_
        refine lv_iload_n hx hb dX3_holdRow_29 rfl (lv_at hl 1 rfl) ?_
        refine lv_iload_n hx hb dX3_holdRow_30 rfl (lv_at hl 3 rfl) ?_
        obtain ⟨q31, h⟩ := chk h
        refine SH_a_lengths (gs' := [wSH g ad (SH_s_lengths (SH_s_held sh (upd (SH_held sh) p1.toNatClampNeg p2)) (upd (SH_lengths (SH_s_held sh (upd (SH_held sh) p1.toNatClampNeg p2))) p1.toNatClampNeg p3))]) X hw 0 rfl q31 dX3_holdRow_31 rfl (fun H locs hw => ?_)
        refine lv_iconst (v := 0) hx hb dX3_holdRow_32 (by decide) ?_
        refine lv_istore (lv' := [(4, .int (0 : Int32)), (0, .ref (ad 0)), (1, .int p1), (2, .int p2), (3, .int p3)]) hx hb dX3_holdRow_33 hl (by decide) rfl (fun ls hl => ?_)
        exact L35 N _ h _ _ _ hw (lv_sub hl [1, 2, 4, 0] rfl)
      · have h := itf k14 h
        have h := Option.some.inj h
        subst h
        exact hret () dX3_holdRow_17 hw
theorem kM_X3_holdBar : kM yX3_holdBar cX3_holdBar 3 (none : Option Jvm.ClassFile.FieldType) 2 := ⟨kc_X3_holdBar, kn_RingsOff_Shelves, by decide +kernel⟩
abbrev R_X3_holdBar : Room := { frames := 1, cells := 0, slots := 0, locals := 20 }
set_option maxHeartbeats 4000000 in
set_option maxRecDepth 100000 in
theorem c_X3_holdBar (l : Launch) {ad : Nat → Nat} {N : Nat} {sh : SH} {p1 : Int32} {p2 : Int32} {out : SH} (h : M_X3_holdBar N sh p1 p2 = some out) : gM l yX3_holdBar cX3_holdBar 3 (none : Option Jvm.ClassFile.FieldType) R_X3_holdBar (fun _ => [.ref (ad 0), .int p1, .int p2]) (fun g => [wSH g ad sh]) (gQv (fun g (_ : Unit) => [wSH g ad out])) := by
  refine gM.ofv (by decide +kernel) (fun _ => Nat.le_of_ble_eq_true rfl) (fun g p e s m args below meth c A ls Q X hret hw hl => ?_)
  have hx := X.1.1
  have hb := X.1.2.1
  have hl : lv_has ls 3 [(0, .ref (ad 0)), (1, .int p1), (2, .int p2)] := hl
  unfold M_X3_holdBar at h
  refine lv_iload_n hx hb dX3_holdBar_0 rfl (lv_at hl 1 rfl) ?_
  obtain ⟨r1, h1, h⟩ := bnd h
  refine g_calli0 (isC := []) (gn := fun _ => [wSH g ad sh]) (g_runS (isC := []) (rest := []) (As := [.int p1]) X hw (c_X3_isShelf l h1) rfl kM_X3_isShelf kt_X3_isShelf km_X3_28 ⟨(Nat.le_of_ble_eq_true rfl), (Nat.le_of_ble_eq_true rfl)⟩ ⟨(Nat.le_of_ble_eq_true rfl), (Nat.le_of_ble_eq_true rfl)⟩ rfl rfl rfl hl.1 rfl (Nat.le_of_ble_eq_true rfl) dX3_holdBar_1) hw rfl rfl (fun _ => (Nat.le_of_ble_eq_true rfl)) (fun _ => rfl) rfl rfl (fun _ H locs hw => ?_)
  refine lv_if_eq (tgt := 17) hx hb dX3_holdBar_4 (by decide) (fun k4 => ?_) (fun k4 => ?_)
  · have h := itt k4 h
    have h := Option.some.inj h
    subst h
    exact hret () dX3_holdBar_17 hw
  · have h := itf k4 h
    refine lv_aload_n hx hb dX3_holdBar_7 rfl (lv_at hl 0 rfl) ?_
    refine SH_g_held X hw 0 rfl kf_X3_11 dX3_holdBar_8 ?_
    refine lv_iload_n hx hb dX3_holdBar_11 rfl (lv_at hl 1 rfl) ?_
    refine lv_bipush (v := 10) hx hb dX3_holdBar_12 (by decide) ?_
    refine lv_iload_n hx hb dX3_holdBar_14 rfl (lv_at hl 2 rfl) ?_
    refine lv_iadd hx hb dX3_holdBar_15 ?_
    obtain ⟨q16, h⟩ := chk h
    refine SH_a_held (gs' := [wSH g ad (SH_s_held sh (upd (SH_held sh) p1.toNatClampNeg ((10 : Int32) + p2)))]) X hw 0 rfl q16 dX3_holdBar_16 rfl (fun H locs hw => ?_)
    have h := Option.some.inj h
    subst h
    exact hret () dX3_holdBar_17 hw
theorem kM_X3_free : kM yX3_free cX3_free 2 (none : Option Jvm.ClassFile.FieldType) 1 := ⟨kc_X3_free, kn_RingsOff_Shelves, by decide +kernel⟩
abbrev R_X3_free : Room := { frames := 1, cells := 0, slots := 0, locals := 20 }
set_option maxHeartbeats 4000000 in
set_option maxRecDepth 100000 in
theorem c_X3_free (l : Launch) {ad : Nat → Nat} {N : Nat} {sh : SH} {p1 : Int32} {out : SH} (h : M_X3_free N sh p1 = some out) : gM l yX3_free cX3_free 2 (none : Option Jvm.ClassFile.FieldType) R_X3_free (fun _ => [.ref (ad 0), .int p1]) (fun g => [wSH g ad sh]) (gQv (fun g (_ : Unit) => [wSH g ad out])) := by
  refine gM.ofv (by decide +kernel) (fun _ => Nat.le_of_ble_eq_true rfl) (fun g p e s m args below meth c A ls Q X hret hw hl => ?_)
  have hx := X.1.1
  have hb := X.1.2.1
  have hl : lv_has ls 2 [(0, .ref (ad 0)), (1, .int p1)] := hl
  unfold M_X3_free at h
  refine lv_iload_n hx hb dX3_free_0 rfl (lv_at hl 1 rfl) ?_
  obtain ⟨r1, h1, h⟩ := bnd h
  refine g_calli0 (isC := []) (gn := fun _ => [wSH g ad sh]) (g_runS (isC := []) (rest := []) (As := [.int p1]) X hw (c_X3_isShelf l h1) rfl kM_X3_isShelf kt_X3_isShelf km_X3_28 ⟨(Nat.le_of_ble_eq_true rfl), (Nat.le_of_ble_eq_true rfl)⟩ ⟨(Nat.le_of_ble_eq_true rfl), (Nat.le_of_ble_eq_true rfl)⟩ rfl rfl rfl hl.1 rfl (Nat.le_of_ble_eq_true rfl) dX3_free_1) hw rfl rfl (fun _ => (Nat.le_of_ble_eq_true rfl)) (fun _ => rfl) rfl rfl (fun _ H locs hw => ?_)
  refine lv_if_eq (tgt := 14) hx hb dX3_free_4 (by decide) (fun k4 => ?_) (fun k4 => ?_)
  · have h := itt k4 h
    have h := Option.some.inj h
    subst h
    exact hret () dX3_free_14 hw
  · have h := itf k4 h
    refine lv_aload_n hx hb dX3_free_7 rfl (lv_at hl 0 rfl) ?_
    refine SH_g_held X hw 0 rfl kf_X3_11 dX3_free_8 ?_
    refine lv_iload_n hx hb dX3_free_11 rfl (lv_at hl 1 rfl) ?_
    refine lv_iconst (v := -1) hx hb dX3_free_12 (by decide) ?_
    obtain ⟨q13, h⟩ := chk h
    refine SH_a_held (gs' := [wSH g ad (SH_s_held sh (upd (SH_held sh) p1.toNatClampNeg (-1 : Int32)))]) X hw 0 rfl q13 dX3_free_13 rfl (fun H locs hw => ?_)
    have h := Option.some.inj h
    subst h
    exact hret () dX3_free_14 hw
theorem kM_X3_freeBarsFrom : kM yX3_freeBarsFrom cX3_freeBarsFrom 3 (none : Option Jvm.ClassFile.FieldType) 1 := ⟨kc_X3_freeBarsFrom, kn_RingsOff_Shelves, by decide +kernel⟩
abbrev R_X3_freeBarsFrom : Room := { frames := 3, cells := 0, slots := 0, locals := 63 }
set_option maxHeartbeats 4000000 in
set_option maxRecDepth 100000 in
theorem c_X3_freeBarsFrom (l : Launch) {ad : Nat → Nat} {N : Nat} {sh : SH} {p1 : Int32} {out : SH} (h : M_X3_freeBarsFrom N sh p1 = some out) : gM l yX3_freeBarsFrom cX3_freeBarsFrom 3 (none : Option Jvm.ClassFile.FieldType) R_X3_freeBarsFrom (fun _ => [.ref (ad 0), .int p1]) (fun g => [wSH g ad sh]) (gQv (fun g (_ : Unit) => [wSH g ad out])) := by
  refine gM.ofv (by decide +kernel) (fun _ => Nat.le_of_ble_eq_true rfl) (fun g p e s m args below meth c A ls Q X hret hw hl => ?_)
  have hx := X.1.1
  have hb := X.1.2.1
  have hl : lv_has ls 3 [(0, .ref (ad 0)), (1, .int p1)] := hl
  have L2 : ∀ (n : Nat) (z2 : SH × Int32), lp (M_X3_freeBarsFrom_l2 N p1) n z2 = some out → ∀ (H : Heap) (locs : List Loc) (ls : Array Slot), gW g A s.heap [wSH g ad z2.1] H locs → lv_has ls 3 [(0, .ref (ad 0)), (1, .int p1), (2, .int z2.2)] → W p l e R_X3_freeBarsFrom s m args below meth c H locs 0 0 Q (F0 m 2 ls []) := by
    refine lp_ind ?_
    intro rec2 ih2
    have J22 : ∀ (z22 : SH × Int32), M_X3_freeBarsFrom_j22 N p1 rec2 z22 = some out → ∀ (H : Heap) (locs : List Loc) (ls : Array Slot), gW g A s.heap [wSH g ad z22.1] H locs → lv_has ls 3 [(0, .ref (ad 0)), (1, .int p1), (2, .int z22.2)] → W p l e R_X3_freeBarsFrom s m args below meth c H locs 0 0 Q (F0 m 22 ls []) := by
      intro z22 h H locs ls hw hl
      unfold M_X3_freeBarsFrom_j22 at h
      refine lv_iinc (v := (z22.2 + 1)) (lv' := [(2, .int (z22.2 + 1)), (0, .ref (ad 0)), (1, .int p1)]) hx hb dX3_freeBarsFrom_22 hl (k := 2) rfl rfl (by decide) rfl (fun ls hl => ?_)
      refine lv_goto (tgt := 2) hx hb dX3_freeBarsFrom_25 (by decide) ?_
      exact ih2 _ h _ _ _ hw (lv_sub hl [1, 2, 0] rfl)
    intro z2 h H locs ls hw hl
    unfold M_X3_freeBarsFrom_l2 at h
    refine lv_iload_n hx hb dX3_freeBarsFrom_2 rfl (lv_at hl 2 rfl) ?_
    refine lv_bipush (v := 8) hx hb dX3_freeBarsFrom_3 (by decide) ?_
    refine lv_icmp_ge (tgt := 28) hx hb dX3_freeBarsFrom_5 (by decide) (fun k5 => ?_) (fun k5 => ?_)
    · have h := itt k5 h
      have h := Option.some.inj h
      subst h
      exact hret () dX3_freeBarsFrom_28 hw
    · have h := itf k5 h
      refine lv_aload_n hx hb dX3_freeBarsFrom_8 rfl (lv_at hl 0 rfl) ?_
      refine lv_iload_n hx hb dX3_freeBarsFrom_9 rfl (lv_at hl 2 rfl) ?_
      obtain ⟨r10, h10, h⟩ := bnd h
      refine g_calli0 (isC := [0]) (gn := fun _ => [wSH g ad z2.1]) (g_runV (isC := [0]) (rest := []) (As := [.int z2.2]) X hw (c_X3_barIn l (ad := ad) h10) rfl kM_X3_barIn ki_X3_barIn ks_X3_barIn km_X3_46 ⟨(Nat.le_of_ble_eq_true rfl), (Nat.le_of_ble_eq_true rfl)⟩ ⟨(Nat.le_of_ble_eq_true rfl), (Nat.le_of_ble_eq_true rfl)⟩ rfl rfl ⟨_, _, _, _, rfl, rfl, rfl, rfl⟩ rfl hl.1 rfl (Nat.le_of_ble_eq_true rfl) dX3_freeBarsFrom_10) hw rfl rfl (fun _ => (Nat.le_of_ble_eq_true rfl)) (fun _ => rfl) rfl rfl (fun _ H locs hw => ?_)
      refine lv_iload_n hx hb dX3_freeBarsFrom_13 rfl (lv_at hl 1 rfl) ?_
      refine lv_icmp_lt (tgt := 22) hx hb dX3_freeBarsFrom_14 (by decide) (fun k14 => ?_) (fun k14 => ?_)
      · have h := itt k14 h
        exact J22 _ h _ _ _ hw (lv_sub hl [0, 1, 2] rfl)
      · have h := itf k14 h
        refine lv_aload_n hx hb dX3_freeBarsFrom_17 rfl (lv_at hl 0 rfl) ?_
        refine lv_iload_n hx hb dX3_freeBarsFrom_18 rfl (lv_at hl 2 rfl) ?_
        obtain ⟨r19, h19, h⟩ := bnd h
        refine g_callv0 (isC := [0]) (gn := fun _ => [wSH g ad r19]) (g_runV (isC := [0]) (rest := []) (As := [.int z2.2]) X hw (c_X3_free l (ad := ad) h19) rfl kM_X3_free ki_X3_free ks_X3_free km_X3_49 ⟨(Nat.le_of_ble_eq_true rfl), (Nat.le_of_ble_eq_true rfl)⟩ ⟨(Nat.le_of_ble_eq_true rfl), (Nat.le_of_ble_eq_true rfl)⟩ rfl rfl ⟨_, _, _, _, rfl, rfl, rfl, rfl⟩ rfl hl.1 rfl (Nat.le_of_ble_eq_true rfl) dX3_freeBarsFrom_19) hw rfl rfl (fun _ => (Nat.le_of_ble_eq_true rfl)) (fun _ => rfl) rfl rfl (fun _ H locs hw => ?_)
        exact J22 _ h _ _ _ hw (lv_sub hl [0, 1, 2] rfl)
  unfold M_X3_freeBarsFrom at h
  refine lv_iconst (v := 0) hx hb dX3_freeBarsFrom_0 (by decide) ?_
  refine lv_istore_n (lv' := [(2, .int (0 : Int32)), (0, .ref (ad 0)), (1, .int p1)]) hx hb dX3_freeBarsFrom_1 rfl hl (by decide) rfl (fun ls hl => ?_)
  exact L2 N _ h _ _ _ hw (lv_sub hl [1, 2, 0] rfl)
theorem kM_X3_carry : kM yX3_carry cX3_carry 6 (none : Option Jvm.ClassFile.FieldType) 5 := ⟨kc_X3_carry, kn_RingsOff_Shelves, by decide +kernel⟩
abbrev R_X3_carry : Room := { frames := 2, cells := 0, slots := 0, locals := 60 }
set_option maxHeartbeats 4000000 in
set_option maxRecDepth 100000 in
theorem c_X3_carry (l : Launch) {ad : Nat → Nat} {N : Nat} {sh : SH} {p1 : Int32} {p2 : Int32} {p3 : Int32} {p4 : Int32} {p5 : Int32} {out : SH} (h : M_X3_carry N sh p1 p2 p3 p4 p5 = some out) : gM l yX3_carry cX3_carry 6 (none : Option Jvm.ClassFile.FieldType) R_X3_carry (fun _ => [.ref (ad 0), .int p1, .int p2, .int p3, .int p4, .int p5]) (fun g => [wSH g ad sh]) (gQv (fun g (_ : Unit) => [wSH g ad out])) := by
  refine gM.ofv (by decide +kernel) (fun _ => Nat.le_of_ble_eq_true rfl) (fun g p e s m args below meth c A ls Q X hret hw hl => ?_)
  have hx := X.1.1
  have hb := X.1.2.1
  have hl : lv_has ls 6 [(0, .ref (ad 0)), (1, .int p1), (2, .int p2), (3, .int p3), (4, .int p4), (5, .int p5)] := hl
  unfold M_X3_carry at h
  refine lv_aload_n hx hb dX3_carry_0 rfl (lv_at hl 0 rfl) ?_
  refine lv_iload_n hx hb dX3_carry_1 rfl (lv_at hl 1 rfl) ?_
  refine lv_iload_n hx hb dX3_carry_2 rfl (lv_at hl 3 rfl) ?_
  refine lv_iload hx hb dX3_carry_3 (lv_at hl 5 rfl) ?_
  obtain ⟨r5, h5, h⟩ := bnd h
  refine g_calli0 (isC := [0]) (gn := fun _ => [wSH g ad sh]) (g_runV (isC := [0]) (rest := []) (As := [.int p1, .int p3, .int p5]) X hw (c_X3_hasCells l (ad := ad) h5) rfl kM_X3_hasCells ki_X3_hasCells ks_X3_hasCells km_X3_42 ⟨(Nat.le_of_ble_eq_true rfl), (Nat.le_of_ble_eq_true rfl)⟩ ⟨(Nat.le_of_ble_eq_true rfl), (Nat.le_of_ble_eq_true rfl)⟩ rfl rfl ⟨_, _, _, _, rfl, rfl, rfl, rfl⟩ rfl hl.1 rfl (Nat.le_of_ble_eq_true rfl) dX3_carry_5) hw rfl rfl (fun _ => (Nat.le_of_ble_eq_true rfl)) (fun _ => rfl) rfl rfl (fun _ H locs hw => ?_)
  refine lv_if_eq (tgt := 49) hx hb dX3_carry_8 (by decide) (fun k8 => ?_) (fun k8 => ?_)
  · have h := itt k8 h
    have h := Option.some.inj h
    subst h
    exact hret () dX3_carry_49 hw
  · have h := itf k8 h
    refine lv_aload_n hx hb dX3_carry_11 rfl (lv_at hl 0 rfl) ?_
    refine lv_iload_n hx hb dX3_carry_12 rfl (lv_at hl 2 rfl) ?_
    refine lv_iload hx hb dX3_carry_13 (lv_at hl 4 rfl) ?_
    refine lv_iload hx hb dX3_carry_15 (lv_at hl 5 rfl) ?_
    obtain ⟨r17, h17, h⟩ := bnd h
    refine g_calli0 (isC := [0]) (gn := fun _ => [wSH g ad sh]) (g_runV (isC := [0]) (rest := []) (As := [.int p2, .int p4, .int p5]) X hw (c_X3_hasCells l (ad := ad) h17) rfl kM_X3_hasCells ki_X3_hasCells ks_X3_hasCells km_X3_42 ⟨(Nat.le_of_ble_eq_true rfl), (Nat.le_of_ble_eq_true rfl)⟩ ⟨(Nat.le_of_ble_eq_true rfl), (Nat.le_of_ble_eq_true rfl)⟩ rfl rfl ⟨_, _, _, _, rfl, rfl, rfl, rfl⟩ rfl hl.1 rfl (Nat.le_of_ble_eq_true rfl) dX3_carry_17) hw rfl rfl (fun _ => (Nat.le_of_ble_eq_true rfl)) (fun _ => rfl) rfl rfl (fun _ H locs hw => ?_)
    refine lv_if_eq (tgt := 49) hx hb dX3_carry_20 (by decide) (fun k20 => ?_) (fun k20 => ?_)
    · have h := itt k20 h
      have h := Option.some.inj h
      subst h
      exact hret () dX3_carry_49 hw
    · have h := itf k20 h
      refine lv_aload_n hx hb dX3_carry_23 rfl (lv_at hl 0 rfl) ?_
      refine SH_g_cells X hw 0 rfl kf_X3_18 dX3_carry_24 ?_
      refine lv_iload_n hx hb dX3_carry_27 rfl (lv_at hl 1 rfl) ?_
      refine lv_bipush (v := 40) hx hb dX3_carry_28 (by decide) ?_
      refine lv_imul hx hb dX3_carry_30 ?_
      refine lv_iload_n hx hb dX3_carry_31 rfl (lv_at hl 3 rfl) ?_
      refine lv_iadd hx hb dX3_carry_32 ?_
      refine lv_aload_n hx hb dX3_carry_33 rfl (lv_at hl 0 rfl) ?_
      refine SH_g_cells X hw 0 rfl kf_X3_18 dX3_carry_34 ?_
      refine lv_iload_n hx hb dX3_carry_37 rfl (lv_at hl 2 rfl) ?_
      refine lv_bipush (v := 40) hx hb dX3_carry_38 (by decide) ?_
      refine lv_imul hx hb dX3_carry_40 ?_
      refine lv_iload hx hb dX3_carry_41 (lv_at hl 4 rfl) ?_
      refine lv_iadd hx hb dX3_carry_43 ?_
      refine lv_iload hx hb dX3_carry_44 (lv_at hl 5 rfl) ?_
      obtain ⟨q46, h⟩ := chk h
      refine g_copyl (gs' := [wSH g ad (SH_s_cells sh (va_cpy (SH_cells sh) (SH_cells sh) ((p1 * (40 : Int32)) + p3).toNatClampNeg ((p2 * (40 : Int32)) + p4).toNatClampNeg p5.toNatClampNeg))]) X hw 0 3 0 3 rfl rfl rfl rfl q46 km_X3_57 hl.1 (Nat.le_of_ble_eq_true rfl) (Nat.le_of_ble_eq_true rfl) dX3_carry_46 rfl (fun H locs hw => ?_)
      have h := Option.some.inj h
      subst h
      exact hret () dX3_carry_49 hw
theorem kM_X3_countHeld : kM yX3_countHeld cX3_countHeld 3 (some FieldType.int) 0 := ⟨kc_X3_countHeld, kn_RingsOff_Shelves, by decide +kernel⟩
abbrev R_X3_countHeld : Room := { frames := 3, cells := 0, slots := 0, locals := 62 }
set_option maxHeartbeats 4000000 in
set_option maxRecDepth 100000 in
theorem c_X3_countHeld (l : Launch) {ad : Nat → Nat} {N : Nat} {sh : SH} {out : Int32} (h : M_X3_countHeld N sh = some out) : gM l yX3_countHeld cX3_countHeld 3 (some FieldType.int) R_X3_countHeld (fun _ => [.ref (ad 0)]) (fun g => [wSH g ad sh]) (gQi (fun (_ : Unit) => out) (fun g (_ : Unit) => [wSH g ad sh])) := by
  refine gM.ofi (by decide +kernel) (fun _ => Nat.le_of_ble_eq_true rfl) (fun g p e s m args below meth c A ls Q X hret hw hl => ?_)
  have hx := X.1.1
  have hb := X.1.2.1
  have hl : lv_has ls 3 [(0, .ref (ad 0))] := hl
  have L4 : ∀ (n : Nat) (z4 : Int32 × Int32), lp (M_X3_countHeld_l4 N sh) n z4 = some out → ∀ (H : Heap) (locs : List Loc) (ls : Array Slot), gW g A s.heap [wSH g ad sh] H locs → lv_has ls 3 [(0, .ref (ad 0)), (1, .int z4.1), (2, .int z4.2)] → W p l e R_X3_countHeld s m args below meth c H locs 0 0 Q (F0 m 4 ls []) := by
    refine lp_ind ?_
    intro rec4 ih4
    have J21 : ∀ (z21 : Int32 × Int32), M_X3_countHeld_j21 N sh rec4 z21 = some out → ∀ (H : Heap) (locs : List Loc) (ls : Array Slot), gW g A s.heap [wSH g ad sh] H locs → lv_has ls 3 [(0, .ref (ad 0)), (1, .int z21.1), (2, .int z21.2)] → W p l e R_X3_countHeld s m args below meth c H locs 0 0 Q (F0 m 21 ls []) := by
      intro z21 h H locs ls hw hl
      unfold M_X3_countHeld_j21 at h
      refine lv_iinc (v := (z21.2 + 1)) (lv' := [(2, .int (z21.2 + 1)), (0, .ref (ad 0)), (1, .int z21.1)]) hx hb dX3_countHeld_21 hl (k := 2) rfl rfl (by decide) rfl (fun ls hl => ?_)
      refine lv_goto (tgt := 4) hx hb dX3_countHeld_24 (by decide) ?_
      exact ih4 _ h _ _ _ hw (lv_sub hl [1, 2, 0] rfl)
    intro z4 h H locs ls hw hl
    unfold M_X3_countHeld_l4 at h
    refine lv_iload_n hx hb dX3_countHeld_4 rfl (lv_at hl 2 rfl) ?_
    refine lv_bipush (v := 8) hx hb dX3_countHeld_5 (by decide) ?_
    refine lv_icmp_ge (tgt := 27) hx hb dX3_countHeld_7 (by decide) (fun k7 => ?_) (fun k7 => ?_)
    · have h := itt k7 h
      refine lv_iload_n hx hb dX3_countHeld_27 rfl (lv_at hl 1 rfl) ?_
      have h := Option.some.inj h
      subst h
      exact hret () dX3_countHeld_28 rfl hw
    · have h := itf k7 h
      refine lv_aload_n hx hb dX3_countHeld_10 rfl (lv_at hl 0 rfl) ?_
      refine lv_iload_n hx hb dX3_countHeld_11 rfl (lv_at hl 2 rfl) ?_
      obtain ⟨r12, h12, h⟩ := bnd h
      refine g_calli0 (isC := [0]) (gn := fun _ => [wSH g ad sh]) (g_runV (isC := [0]) (rest := []) (As := [.int z4.2]) X hw (c_X3_isFree l (ad := ad) h12) rfl kM_X3_isFree ki_X3_isFree ks_X3_isFree km_X3_36 ⟨(Nat.le_of_ble_eq_true rfl), (Nat.le_of_ble_eq_true rfl)⟩ ⟨(Nat.le_of_ble_eq_true rfl), (Nat.le_of_ble_eq_true rfl)⟩ rfl rfl ⟨_, _, _, _, rfl, rfl, rfl, rfl⟩ rfl hl.1 rfl (Nat.le_of_ble_eq_true rfl) dX3_countHeld_12) hw rfl rfl (fun _ => (Nat.le_of_ble_eq_true rfl)) (fun _ => rfl) rfl rfl (fun _ H locs hw => ?_)
      refine lv_if_ne (tgt := 21) hx hb dX3_countHeld_15 (by decide) (fun k15 => ?_) (fun k15 => ?_)
      · have h := itt k15 h
        exact J21 _ h _ _ _ hw (lv_sub hl [0, 1, 2] rfl)
      · have h := itf (fun z => z k15) h
        refine lv_iinc (v := (z4.1 + 1)) (lv' := [(1, .int (z4.1 + 1)), (0, .ref (ad 0)), (2, .int z4.2)]) hx hb dX3_countHeld_18 hl (k := 1) rfl rfl (by decide) rfl (fun ls hl => ?_)
        exact J21 _ h _ _ _ hw (lv_sub hl [1, 0, 2] rfl)
  unfold M_X3_countHeld at h
  refine lv_iconst (v := 0) hx hb dX3_countHeld_0 (by decide) ?_
  refine lv_istore_n (lv' := [(1, .int (0 : Int32)), (0, .ref (ad 0))]) hx hb dX3_countHeld_1 rfl hl (by decide) rfl (fun ls hl => ?_)
  refine lv_iconst (v := 0) hx hb dX3_countHeld_2 (by decide) ?_
  refine lv_istore_n (lv' := [(2, .int (0 : Int32)), (1, .int (0 : Int32)), (0, .ref (ad 0))]) hx hb dX3_countHeld_3 rfl hl (by decide) rfl (fun ls hl => ?_)
  exact L4 N _ h _ _ _ hw (lv_sub hl [2, 1, 0] rfl)
theorem kM_X3_lowestBits : kM yX3_lowestBits cX3_lowestBits 3 (some FieldType.long) 2 := ⟨kc_X3_lowestBits, kn_RingsOff_Shelves, by decide +kernel⟩
abbrev R_X3_lowestBits : Room := { frames := 0, cells := 0, slots := 0, locals := 0 }
set_option maxHeartbeats 4000000 in
set_option maxRecDepth 100000 in
theorem c_X3_lowestBits (l : Launch) {N : Nat} {p1 : Int32} {p2 : Int64} {out : Int64} (h : M_X3_lowestBits N p1 p2 = some out) : gM l yX3_lowestBits cX3_lowestBits 3 (some FieldType.long) R_X3_lowestBits (fun _ => [.int p1, .long p2]) (fun g => []) (gQl (fun (_ : Unit) => out) (fun g (_ : Unit) => [])) := by
  refine gM.ofl (by decide +kernel) (fun _ => Nat.le_of_ble_eq_true rfl) (fun g p e s m args below meth c A ls Q X hret hw hl => ?_)
  have hx := X.1.1
  have hb := X.1.2.1
  have hl : lv_has ls 3 [(0, .int p1), (1, .long p2)] := hl
  unfold M_X3_lowestBits at h
  refine lv_iload_n hx hb dX3_lowestBits_0 rfl (lv_at hl 0 rfl) ?_
  by_cases k1_0 : p1 = 0
  · have h := itt k1_0 h
    refine lv_tableIn (off := 35) (tgt := 36) hx hb dX3_lowestBits_1 (by rw [k1_0]; decide) (by rw [k1_0]; decide) (by rw [k1_0]; rfl) (by decide) ?_
    refine lv_lload_n hx hb dX3_lowestBits_36 rfl (lv_at hl 1 rfl) ?_
    refine lv_l2i (v := p2.toInt32) hx hb dX3_lowestBits_37 rfl ?_
    refine lv_i2b (v := p2.toInt32.toInt8.toInt32) hx hb dX3_lowestBits_38 rfl ?_
    refine lv_i2l (v := p2.toInt32.toInt8.toInt32.toInt64) hx hb dX3_lowestBits_39 rfl ?_
    have h := Option.some.inj h
    subst h
    exact hret () dX3_lowestBits_40 rfl hw
  have h := itf k1_0 h
  by_cases k1_1 : p1 = 1
  · have h := itt k1_1 h
    refine lv_tableIn (off := 40) (tgt := 41) hx hb dX3_lowestBits_1 (by rw [k1_1]; decide) (by rw [k1_1]; decide) (by rw [k1_1]; rfl) (by decide) ?_
    refine lv_lload_n hx hb dX3_lowestBits_41 rfl (lv_at hl 1 rfl) ?_
    refine lv_l2i (v := p2.toInt32) hx hb dX3_lowestBits_42 rfl ?_
    refine lv_i2s (v := p2.toInt32.toInt16.toInt32) hx hb dX3_lowestBits_43 rfl ?_
    refine lv_i2l (v := p2.toInt32.toInt16.toInt32.toInt64) hx hb dX3_lowestBits_44 rfl ?_
    have h := Option.some.inj h
    subst h
    exact hret () dX3_lowestBits_45 rfl hw
  have h := itf k1_1 h
  by_cases k1_2 : p1 = 2
  · have h := itt k1_2 h
    refine lv_tableIn (off := 45) (tgt := 46) hx hb dX3_lowestBits_1 (by rw [k1_2]; decide) (by rw [k1_2]; decide) (by rw [k1_2]; rfl) (by decide) ?_
    refine lv_lload_n hx hb dX3_lowestBits_46 rfl (lv_at hl 1 rfl) ?_
    refine lv_l2i (v := p2.toInt32) hx hb dX3_lowestBits_47 rfl ?_
    refine lv_i2l (v := p2.toInt32.toInt64) hx hb dX3_lowestBits_48 rfl ?_
    have h := Option.some.inj h
    subst h
    exact hret () dX3_lowestBits_49 rfl hw
  have h := itf k1_2 h
  by_cases k1_3 : p1 = 3
  · have h := itt k1_3 h
    refine lv_tableIn (off := 61) (tgt := 62) hx hb dX3_lowestBits_1 (by rw [k1_3]; decide) (by rw [k1_3]; decide) (by rw [k1_3]; rfl) (by decide) ?_
    refine lv_lload_n hx hb dX3_lowestBits_62 rfl (lv_at hl 1 rfl) ?_
    have h := Option.some.inj h
    subst h
    exact hret () dX3_lowestBits_63 rfl hw
  have h := itf k1_3 h
  by_cases k1_4 : p1 = 4
  · have h := itt k1_4 h
    refine lv_tableIn (off := 49) (tgt := 50) hx hb dX3_lowestBits_1 (by rw [k1_4]; decide) (by rw [k1_4]; decide) (by rw [k1_4]; rfl) (by decide) ?_
    refine lv_lload_n hx hb dX3_lowestBits_50 rfl (lv_at hl 1 rfl) ?_
    refine lv_lconst (v := 0) hx hb dX3_lowestBits_51 (by decide) ?_
    refine W.lcmp hx hb dX3_lowestBits_52 ?_
    refine lv_if_eq (tgt := 60) hx hb dX3_lowestBits_53 (by decide) (fun k53 => ?_) (fun k53 => ?_)
    · have h := itt k53 h
      refine lv_lconst (v := 0) hx hb dX3_lowestBits_60 (by decide) ?_
      have h := Option.some.inj h
      subst h
      exact hret () dX3_lowestBits_61 rfl hw
    · have h := itf k53 h
      refine lv_lconst (v := 1) hx hb dX3_lowestBits_56 (by decide) ?_
      refine lv_goto (tgt := 61) hx hb dX3_lowestBits_57 (by decide) ?_
      have h := Option.some.inj h
      subst h
      exact hret () dX3_lowestBits_61 rfl hw
  have h := itf k1_4 h
  refine lv_tableOut (tgt := 62) hx hb dX3_lowestBits_1 (g_out (lo := 0) (hi := 4) p1 (fun q h1 h2 => ?_)) (by decide) ?_
  · rcases (show q = 0 ∨ q = 1 ∨ q = 2 ∨ q = 3 ∨ q = 4 by omega) with rfl | rfl | rfl | rfl | rfl     
    · exact fun e => k1_0 (Int32.toInt_inj.mp (e.trans rfl))
    · exact fun e => k1_1 (Int32.toInt_inj.mp (e.trans rfl))
    · exact fun e => k1_2 (Int32.toInt_inj.mp (e.trans rfl))
    · exact fun e => k1_3 (Int32.toInt_inj.mp (e.trans rfl))
    · exact fun e => k1_4 (Int32.toInt_inj.mp (e.trans rfl))
  refine lv_lload_n hx hb dX3_lowestBits_62 rfl (lv_at hl 1 rfl) ?_
  have h := Option.some.inj h
  subst h
  exact hret () dX3_lowestBits_63 rfl hw
theorem kM_X3_write : kM yX3_write cX3_write 5 (none : Option Jvm.ClassFile.FieldType) 3 := ⟨kc_X3_write, kn_RingsOff_Shelves, by decide +kernel⟩
abbrev R_X3_write : Room := { frames := 2, cells := 0, slots := 0, locals := 44 }
set_option maxHeartbeats 4000000 in
set_option maxRecDepth 100000 in
theorem c_X3_write (l : Launch) {ad : Nat → Nat} {N : Nat} {sh : SH} {p1 : Int32} {p2 : Int32} {p3 : Int64} {out : SH} (h : M_X3_write N sh p1 p2 p3 = some out) : gM l yX3_write cX3_write 5 (none : Option Jvm.ClassFile.FieldType) R_X3_write (fun _ => [.ref (ad 0), .int p1, .int p2, .long p3]) (fun g => [wSH g ad sh]) (gQv (fun g (_ : Unit) => [wSH g ad out])) := by
  refine gM.ofv (by decide +kernel) (fun _ => Nat.le_of_ble_eq_true rfl) (fun g p e s m args below meth c A ls Q X hret hw hl => ?_)
  have hx := X.1.1
  have hb := X.1.2.1
  have hl : lv_has ls 5 [(0, .ref (ad 0)), (1, .int p1), (2, .int p2), (3, .long p3)] := hl
  unfold M_X3_write at h
  refine lv_aload_n hx hb dX3_write_0 rfl (lv_at hl 0 rfl) ?_
  refine lv_iload_n hx hb dX3_write_1 rfl (lv_at hl 1 rfl) ?_
  refine lv_iload_n hx hb dX3_write_2 rfl (lv_at hl 2 rfl) ?_
  refine lv_iconst (v := 1) hx hb dX3_write_3 (by decide) ?_
  obtain ⟨r4, h4, h⟩ := bnd h
  refine g_calli0 (isC := [0]) (gn := fun _ => [wSH g ad sh]) (g_runV (isC := [0]) (rest := []) (As := [.int p1, .int p2, .int (1 : Int32)]) X hw (c_X3_hasCells l (ad := ad) h4) rfl kM_X3_hasCells ki_X3_hasCells ks_X3_hasCells km_X3_42 ⟨(Nat.le_of_ble_eq_true rfl), (Nat.le_of_ble_eq_true rfl)⟩ ⟨(Nat.le_of_ble_eq_true rfl), (Nat.le_of_ble_eq_true rfl)⟩ rfl rfl ⟨_, _, _, _, rfl, rfl, rfl, rfl⟩ rfl hl.1 rfl (Nat.le_of_ble_eq_true rfl) dX3_write_4) hw rfl rfl (fun _ => (Nat.le_of_ble_eq_true rfl)) (fun _ => rfl) rfl rfl (fun _ H locs hw => ?_)
  refine lv_if_eq (tgt := 30) hx hb dX3_write_7 (by decide) (fun k7 => ?_) (fun k7 => ?_)
  · have h := itt k7 h
    have h := Option.some.inj h
    subst h
    exact hret () dX3_write_30 hw
  · have h := itf k7 h
    refine lv_aload_n hx hb dX3_write_10 rfl (lv_at hl 0 rfl) ?_
    refine SH_g_cells X hw 0 rfl kf_X3_18 dX3_write_11 ?_
    refine lv_iload_n hx hb dX3_write_14 rfl (lv_at hl 1 rfl) ?_
    refine lv_bipush (v := 40) hx hb dX3_write_15 (by decide) ?_
    refine lv_imul hx hb dX3_write_17 ?_
    refine lv_iload_n hx hb dX3_write_18 rfl (lv_at hl 2 rfl) ?_
    refine lv_iadd hx hb dX3_write_19 ?_
    refine lv_aload_n hx hb dX3_write_20 rfl (lv_at hl 0 rfl) ?_
    refine lv_iload_n hx hb dX3_write_21 rfl (lv_at hl 1 rfl) ?_
    obtain ⟨r22, h22, h⟩ := bnd h
    refine g_calli0 (isC := [0]) (gn := fun _ => [wSH g ad sh]) (g_runV (isC := [0]) (rest := [.int ((p1 * (40 : Int32)) + p2), .ref (ad 3)]) (As := [.int p1]) X hw (c_X3_heldBy l (ad := ad) h22) rfl kM_X3_heldBy ki_X3_heldBy ks_X3_heldBy km_X3_32 ⟨(Nat.le_of_ble_eq_true rfl), (Nat.le_of_ble_eq_true rfl)⟩ ⟨(Nat.le_of_ble_eq_true rfl), (Nat.le_of_ble_eq_true rfl)⟩ rfl rfl ⟨_, _, _, _, rfl, rfl, rfl, rfl⟩ rfl hl.1 rfl (Nat.le_of_ble_eq_true rfl) dX3_write_22) hw rfl rfl (fun _ => (Nat.le_of_ble_eq_true rfl)) (fun _ => rfl) rfl rfl (fun _ H locs hw => ?_)
    refine lv_lload_n hx hb dX3_write_25 rfl (lv_at hl 3 rfl) ?_
    obtain ⟨r26, h26, h⟩ := bnd h
    refine g_calll0 (isC := []) (gn := fun _ => [wSH g ad sh]) (g_runS (isC := []) (rest := [.int ((p1 * (40 : Int32)) + p2), .ref (ad 3)]) (As := [.int r22, .long p3]) X hw (c_X3_lowestBits l h26) rfl kM_X3_lowestBits kt_X3_lowestBits km_X3_53 ⟨(Nat.le_of_ble_eq_true rfl), (Nat.le_of_ble_eq_true rfl)⟩ ⟨(Nat.le_of_ble_eq_true rfl), (Nat.le_of_ble_eq_true rfl)⟩ rfl rfl rfl hl.1 rfl (Nat.le_of_ble_eq_true rfl) dX3_write_26) hw rfl rfl (fun _ => (Nat.le_of_ble_eq_true rfl)) (fun _ => rfl) rfl rfl (fun _ H locs hw => ?_)
    obtain ⟨q29, h⟩ := chk h
    refine SH_a_cells (gs' := [wSH g ad (SH_s_cells sh (vp_updL (SH_cells sh) ((p1 * (40 : Int32)) + p2).toNatClampNeg r26))]) X hw 0 rfl q29 dX3_write_29 rfl (fun H locs hw => ?_)
    have h := Option.some.inj h
    subst h
    exact hret () dX3_write_30 hw
