theorem kM_X6_says : kM yX6_says cX6_says 6 (some FieldType.int) 2 := ⟨kc_X6_says, kn_RingsOffModel, by decide +kernel⟩
abbrev R_X6_says : Room := { frames := 6, cells := 0, slots := 0, locals := 141 }
set_option maxHeartbeats 4000000 in
set_option maxRecDepth 100000 in
theorem c_X6_says (l : Launch) {ad : Nat → Nat} {eK : Option Nat} {eT : Option Nat} {N : Nat} {rm : RM} {p1 : Int32} {p2 : Int32} {out : Int32 × RM} (h : M_X6_says N rm p1 p2 = some out) : gM l yX6_says cX6_says 6 (some FieldType.int) R_X6_says (fun _ => [.ref (ad 0), .int p1, .int p2]) (fun g => [wRM g ad eK eT rm]) (gQi (fun (_ : Unit) => out.1) (fun g (_ : Unit) => [wRM g ad eK eT out.2])) := by
  refine gM.ofi (by decide +kernel) (fun _ => Nat.le_of_ble_eq_true rfl) (fun g p e s m args below meth c A ls Q X hret hw hl => ?_)
  have hx := X.1.1
  have hb := X.1.2.1
  have hl : lv_has ls 6 [(0, .ref (ad 0)), (1, .int p1), (2, .int p2)] := hl
  have L288 : ∀ (n : Nat) (z288 : RM × Int32 × Int32 × Int32), lp (M_X6_says_l288 N p1 p2) n z288 = some out → ∀ (H : Heap) (locs : List Loc) (ls : Array Slot), gW g A s.heap [wRM g ad eK eT z288.1] H locs → lv_has ls 6 [(0, .ref (ad 0)), (3, .int z288.2.1), (4, .int z288.2.2.1), (5, .int z288.2.2.2)] → W p l e R_X6_says s m args below meth c H locs 0 0 Q (F0 m 288 ls []) := by
    refine lp_ind ?_
    intro rec288 ih288
    have J330 : ∀ (z330 : RM × Int32 × Int32 × Int32 × Int32), M_X6_says_j330 N p1 p2 rec288 z330 = some out → ∀ (H : Heap) (locs : List Loc) (ls : Array Slot), gW g A s.heap [wRM g ad eK eT z330.1] H locs → lv_has ls 6 [(0, .ref (ad 0)), (3, .int z330.2.1), (5, .int z330.2.2.1)] → W p l e R_X6_says s m args below meth c H locs 0 0 Q (F0 m 330 ls [.int z330.2.2.2.2, .int z330.2.2.2.1]) := by
      intro z330 h H locs ls hw hl
      unfold M_X6_says_j330 at h
      refine lv_iadd hx hb dX6_says_330 ?_
      refine lv_istore (lv' := [(4, .int (z330.2.2.2.1 + z330.2.2.2.2)), (0, .ref (ad 0)), (3, .int z330.2.1), (5, .int z330.2.2.1)]) hx hb dX6_says_331 hl (by decide) rfl (fun ls hl => ?_)
      refine lv_iinc (v := (z330.2.2.1 + 1)) (lv' := [(5, .int (z330.2.2.1 + 1)), (4, .int (z330.2.2.2.1 + z330.2.2.2.2)), (0, .ref (ad 0)), (3, .int z330.2.1)]) hx hb dX6_says_333 hl (k := 3) rfl rfl (by decide) rfl (fun ls hl => ?_)
      refine lv_goto (tgt := 288) hx hb dX6_says_336 (by decide) ?_
      exact ih288 _ h _ _ _ hw (lv_sub hl [2, 3, 1, 0] rfl)
    have J325 : ∀ (z325 : RM × Int32 × Int32 × Int32), M_X6_says_j325 N p1 p2 rec288 z325 = some out → ∀ (H : Heap) (locs : List Loc) (ls : Array Slot), gW g A s.heap [wRM g ad eK eT z325.1] H locs → lv_has ls 6 [(0, .ref (ad 0)), (3, .int z325.2.1), (5, .int z325.2.2.1)] → W p l e R_X6_says s m args below meth c H locs 0 0 Q (F0 m 325 ls [.int z325.2.2.2]) := by
      intro z325 h H locs ls hw hl
      unfold M_X6_says_j325 at h
      refine lv_iconst (v := 1) hx hb dX6_says_325 (by decide) ?_
      refine lv_goto (tgt := 330) hx hb dX6_says_326 (by decide) ?_
      exact J330 _ h _ _ _ hw (lv_sub hl [0, 1, 2] rfl)
    intro z288 h H locs ls hw hl
    unfold M_X6_says_l288 at h
    refine lv_iload hx hb dX6_says_288 (lv_at hl 3 rfl) ?_
    refine lv_aload_n hx hb dX6_says_290 rfl (lv_at hl 0 rfl) ?_
    refine RM_g_size X hw 0 rfl kf_X6_40 dX6_says_291 ?_
    refine lv_iload_n hx hb dX6_says_294 rfl (lv_at hl 1 rfl) ?_
    obtain ⟨q295, h⟩ := chk h
    refine RM_l_size X hw 0 rfl q295 dX6_says_295 ?_
    refine lv_icmp_ge (tgt := 339) hx hb dX6_says_296 (by decide) (fun k296 => ?_) (fun k296 => ?_)
    · have h := itt k296 h
      refine lv_iload hx hb dX6_says_339 (lv_at hl 2 rfl) ?_
      have h := Option.some.inj h
      subst h
      exact hret () dX6_says_341 rfl hw
    · have h := itf k296 h
      refine lv_iload hx hb dX6_says_299 (lv_at hl 2 rfl) ?_
      refine lv_aload_n hx hb dX6_says_301 rfl (lv_at hl 0 rfl) ?_
      refine RM_g_must X hw 0 rfl kf_X6_51 dX6_says_302 ?_
      refine lv_iload_n hx hb dX6_says_305 rfl (lv_at hl 1 rfl) ?_
      obtain ⟨q306, h⟩ := chk h
      have o306 := Nat.not_le.mp (fun z => q306 (Or.inr z))
      refine RM_q_must X hw 0 rfl q306 dX6_says_306 ?_
      refine lv_iload hx hb dX6_says_307 (lv_at hl 3 rfl) ?_
      obtain ⟨q309, h⟩ := chk h
      refine RM_l_must X hw 0 rfl o306 q309 dX6_says_309 ?_
      refine lv_if_ne (tgt := 325) hx hb dX6_says_310 (by decide) (fun k310 => ?_) (fun k310 => ?_)
      · have h := itt k310 h
        exact J325 _ h _ _ _ hw (lv_sub hl [0, 1, 3] rfl)
      · have h := itf (fun z => z k310) h
        refine lv_aload_n hx hb dX6_says_313 rfl (lv_at hl 0 rfl) ?_
        refine RM_g_not X hw 0 rfl kf_X6_54 dX6_says_314 ?_
        refine lv_iload_n hx hb dX6_says_317 rfl (lv_at hl 1 rfl) ?_
        obtain ⟨q318, h⟩ := chk h
        have o318 := Nat.not_le.mp (fun z => q318 (Or.inr z))
        refine RM_q_not X hw 0 rfl q318 dX6_says_318 ?_
        refine lv_iload hx hb dX6_says_319 (lv_at hl 3 rfl) ?_
        obtain ⟨q321, h⟩ := chk h
        refine RM_l_not X hw 0 rfl o318 q321 dX6_says_321 ?_
        refine lv_if_eq (tgt := 329) hx hb dX6_says_322 (by decide) (fun k322 => ?_) (fun k322 => ?_)
        · have h := itt k322 h
          refine lv_iconst (v := 0) hx hb dX6_says_329 (by decide) ?_
          exact J330 _ h _ _ _ hw (lv_sub hl [0, 1, 3] rfl)
        · have h := itf k322 h
          exact J325 _ h _ _ _ hw (lv_sub hl [0, 1, 3] rfl)
  have L255 : ∀ (n : Nat) (z255 : RM × Int32 × Int32), lp (M_X6_says_l255 N p1 p2) n z255 = some out → ∀ (H : Heap) (locs : List Loc) (ls : Array Slot), gW g A s.heap [wRM g ad eK eT z255.1] H locs → lv_has ls 6 [(0, .ref (ad 0)), (3, .int z255.2.1), (5, .int z255.2.2)] → W p l e R_X6_says s m args below meth c H locs 0 0 Q (F0 m 255 ls []) := by
    refine lp_ind ?_
    intro rec255 ih255
    intro z255 h H locs ls hw hl
    unfold M_X6_says_l255 at h
    refine lv_iload hx hb dX6_says_255 (lv_at hl 2 rfl) ?_
    refine lv_if_lt (tgt := 283) hx hb dX6_says_257 (by decide) (fun k257 => ?_) (fun k257 => ?_)
    · have h := itt k257 h
      refine lv_iconst (v := -1) hx hb dX6_says_283 (by decide) ?_
      have h := Option.some.inj h
      subst h
      exact hret () dX6_says_284 rfl hw
    · have h := itf k257 h
      refine lv_aload_n hx hb dX6_says_260 rfl (lv_at hl 0 rfl) ?_
      refine RM_g_on X hw 0 rfl kf_X6_43 dX6_says_261 ?_
      refine lv_iload_n hx hb dX6_says_264 rfl (lv_at hl 1 rfl) ?_
      obtain ⟨q265, h⟩ := chk h
      refine RM_l_on X hw 0 rfl q265 dX6_says_265 ?_
      refine lv_iload hx hb dX6_says_266 (lv_at hl 2 rfl) ?_
      obtain ⟨r268, h268, h⟩ := bnd h
      refine g_calli0 (isC := []) (gn := fun _ => [wRM g ad eK eT z255.1]) (g_runS (isC := []) (rest := []) (As := [.int (RM_on z255.1 z255.2.1.toNatClampNeg), .int z255.2.2]) X hw (c_X6_has l h268) rfl kM_X6_has kt_X6_has km_X6_135 ⟨(Nat.le_of_ble_eq_true rfl), (Nat.le_of_ble_eq_true rfl)⟩ ⟨(Nat.le_of_ble_eq_true rfl), (Nat.le_of_ble_eq_true rfl)⟩ rfl rfl rfl hl.1 rfl (Nat.le_of_ble_eq_true rfl) dX6_says_268) hw rfl rfl (fun _ => (Nat.le_of_ble_eq_true rfl)) (fun _ => rfl) rfl rfl (fun _ H locs hw => ?_)
      refine lv_if_eq (tgt := 277) hx hb dX6_says_271 (by decide) (fun k271 => ?_) (fun k271 => ?_)
      · have h := itt k271 h
        obtain ⟨y277, e277⟩ : ∃ y : Int32, y = (z255.2.2 + (-1)) := ⟨_, rfl⟩
        try rw [← e277] at h
        refine lv_iinc (v := y277) (lv' := [(5, .int y277), (0, .ref (ad 0)), (3, .int z255.2.1)]) hx hb dX6_says_277 hl (k := 2) rfl (by rw [ofI_m1, e277]) (by decide) rfl (fun ls hl => ?_)
        refine lv_goto (tgt := 255) hx hb dX6_says_280 (by decide) ?_
        exact ih255 _ h _ _ _ hw (lv_sub hl [1, 2, 0] rfl)
      · have h := itf k271 h
        refine lv_iload hx hb dX6_says_274 (lv_at hl 2 rfl) ?_
        have h := Option.some.inj h
        subst h
        exact hret () dX6_says_276 rfl hw
  have L203 : ∀ (n : Nat) (z203 : RM × Int32 × Int32 × Int32), lp (M_X6_says_l203 N p1 p2) n z203 = some out → ∀ (H : Heap) (locs : List Loc) (ls : Array Slot), gW g A s.heap [wRM g ad eK eT z203.1] H locs → lv_has ls 6 [(0, .ref (ad 0)), (3, .int z203.2.1), (4, .int z203.2.2.1), (5, .int z203.2.2.2)] → W p l e R_X6_says s m args below meth c H locs 0 0 Q (F0 m 203 ls []) := by
    refine lp_ind ?_
    intro rec203 ih203
    have J233 : ∀ (z233 : RM × Int32 × Int32 × Int32 × Int32), M_X6_says_j233 N p1 p2 rec203 z233 = some out → ∀ (H : Heap) (locs : List Loc) (ls : Array Slot), gW g A s.heap [wRM g ad eK eT z233.1] H locs → lv_has ls 6 [(0, .ref (ad 0)), (3, .int z233.2.1), (5, .int z233.2.2.1)] → W p l e R_X6_says s m args below meth c H locs 0 0 Q (F0 m 233 ls [.int z233.2.2.2.2, .int z233.2.2.2.1]) := by
      intro z233 h H locs ls hw hl
      unfold M_X6_says_j233 at h
      refine lv_iadd hx hb dX6_says_233 ?_
      refine lv_istore (lv' := [(4, .int (z233.2.2.2.1 + z233.2.2.2.2)), (0, .ref (ad 0)), (3, .int z233.2.1), (5, .int z233.2.2.1)]) hx hb dX6_says_234 hl (by decide) rfl (fun ls hl => ?_)
      refine lv_iinc (v := (z233.2.2.1 + 1)) (lv' := [(5, .int (z233.2.2.1 + 1)), (4, .int (z233.2.2.2.1 + z233.2.2.2.2)), (0, .ref (ad 0)), (3, .int z233.2.1)]) hx hb dX6_says_236 hl (k := 3) rfl rfl (by decide) rfl (fun ls hl => ?_)
      refine lv_goto (tgt := 203) hx hb dX6_says_239 (by decide) ?_
      exact ih203 _ h _ _ _ hw (lv_sub hl [2, 3, 1, 0] rfl)
    intro z203 h H locs ls hw hl
    unfold M_X6_says_l203 at h
    refine lv_iload hx hb dX6_says_203 (lv_at hl 3 rfl) ?_
    refine lv_bipush (v := 20) hx hb dX6_says_205 (by decide) ?_
    refine lv_icmp_gt (tgt := 242) hx hb dX6_says_207 (by decide) (fun k207 => ?_) (fun k207 => ?_)
    · have h := itt k207 h
      refine lv_iload hx hb dX6_says_242 (lv_at hl 2 rfl) ?_
      have h := Option.some.inj h
      subst h
      exact hret () dX6_says_244 rfl hw
    · have h := itf k207 h
      refine lv_iload hx hb dX6_says_210 (lv_at hl 2 rfl) ?_
      refine lv_aload_n hx hb dX6_says_212 rfl (lv_at hl 0 rfl) ?_
      refine lv_iload_n hx hb dX6_says_213 rfl (lv_at hl 1 rfl) ?_
      refine lv_aload_n hx hb dX6_says_214 rfl (lv_at hl 0 rfl) ?_
      refine RM_g_on X hw 0 rfl kf_X6_43 dX6_says_215 ?_
      refine lv_iload_n hx hb dX6_says_218 rfl (lv_at hl 1 rfl) ?_
      obtain ⟨q219, h⟩ := chk h
      refine RM_l_on X hw 0 rfl q219 dX6_says_219 ?_
      refine lv_iload hx hb dX6_says_220 (lv_at hl 3 rfl) ?_
      obtain ⟨r222, h222, h⟩ := bnd h
      refine g_calli0 (isC := [0]) (gn := fun _ => [wRM g ad eK eT z203.1]) (g_runV (isC := [0]) (rest := [.int z203.2.2.1]) (As := [.int z203.2.1, .int (RM_on z203.1 z203.2.1.toNatClampNeg), .int z203.2.2.2]) X hw (c_X6_mayAt l (ad := ad) (eK := eK) (eT := eT) h222) rfl kM_X6_mayAt ki_X6_mayAt ks_X6_mayAt km_X6_131 ⟨(Nat.le_of_ble_eq_true rfl), (Nat.le_of_ble_eq_true rfl)⟩ ⟨(Nat.le_of_ble_eq_true rfl), (Nat.le_of_ble_eq_true rfl)⟩ rfl rfl ⟨_, _, _, _, rfl, rfl, rfl, rfl⟩ rfl hl.1 rfl (Nat.le_of_ble_eq_true rfl) dX6_says_222) hw rfl rfl (fun _ => (Nat.le_of_ble_eq_true rfl)) (fun _ => rfl) rfl rfl (fun _ H locs hw => ?_)
      refine lv_if_eq (tgt := 232) hx hb dX6_says_225 (by decide) (fun k225 => ?_) (fun k225 => ?_)
      · have h := itt k225 h
        refine lv_iconst (v := 0) hx hb dX6_says_232 (by decide) ?_
        exact J233 _ h _ _ _ hw (lv_sub hl [0, 1, 3] rfl)
      · have h := itf k225 h
        refine lv_iconst (v := 1) hx hb dX6_says_228 (by decide) ?_
        refine lv_goto (tgt := 233) hx hb dX6_says_229 (by decide) ?_
        exact J233 _ h _ _ _ hw (lv_sub hl [0, 1, 3] rfl)
  have J182 : ∀ (z182 : RM × Int64), M_X6_says_j182 N p1 p2 z182 = some out → ∀ (H : Heap) (locs : List Loc) (ls : Array Slot), gW g A s.heap [wRM g ad eK eT z182.1] H locs → lv_has ls 6 [] → W p l e R_X6_says s m args below meth c H locs 0 0 Q (F0 m 182 ls [.long z182.2]) := by
    intro z182 h H locs ls hw hl
    unfold M_X6_says_j182 at h
    obtain ⟨r182, h182, h⟩ := bnd h
    refine g_calll0 (isC := []) (gn := fun _ => [wRM g ad eK eT z182.1]) (g_runS (isC := []) (rest := []) (As := [.long z182.2]) X hw (c_X6_placeOf l h182) rfl kM_X6_placeOf kt_X6_placeOf km_X6_123 ⟨(Nat.le_of_ble_eq_true rfl), (Nat.le_of_ble_eq_true rfl)⟩ ⟨(Nat.le_of_ble_eq_true rfl), (Nat.le_of_ble_eq_true rfl)⟩ rfl rfl rfl hl.1 rfl (Nat.le_of_ble_eq_true rfl) dX6_says_182) hw rfl rfl (fun _ => (Nat.le_of_ble_eq_true rfl)) (fun _ => rfl) rfl rfl (fun _ H locs hw => ?_)
    refine lv_l2i (v := r182.toInt32) hx hb dX6_says_185 rfl ?_
    have h := Option.some.inj h
    subst h
    exact hret () dX6_says_186 rfl hw
  have J76 : ∀ (z76 : RM), M_X6_says_j76 N p1 p2 z76 = some out → ∀ (H : Heap) (locs : List Loc) (ls : Array Slot), gW g A s.heap [wRM g ad eK eT z76] H locs → lv_has ls 6 [(0, .ref (ad 0)), (1, .int p1), (2, .int p2)] → W p l e R_X6_says s m args below meth c H locs 0 0 Q (F0 m 76 ls []) := by
    intro z76 h H locs ls hw hl
    unfold M_X6_says_j76 at h
    refine lv_aload_n hx hb dX6_says_76 rfl (lv_at hl 0 rfl) ?_
    refine RM_g_shelf X hw 0 rfl kf_X6_7 dX6_says_77 ?_
    refine lv_iload_n hx hb dX6_says_80 rfl (lv_at hl 1 rfl) ?_
    obtain ⟨q81, h⟩ := chk h
    refine RM_l_shelf X hw 0 rfl q81 dX6_says_81 ?_
    refine lv_if_ne (tgt := 92) hx hb dX6_says_82 (by decide) (fun k82 => ?_) (fun k82 => ?_)
    · have h := itt k82 h
      refine lv_aload_n hx hb dX6_says_92 rfl (lv_at hl 0 rfl) ?_
      refine RM_g_shown X hw 0 rfl kf_X6_28 dX6_says_93 ?_
      refine lv_iload_n hx hb dX6_says_96 rfl (lv_at hl 1 rfl) ?_
      obtain ⟨q97, h⟩ := chk h
      refine RM_l_shown X hw 0 rfl q97 dX6_says_97 ?_
      refine lv_istore_n (lv' := [(3, .int (RM_shown z76 p1.toNatClampNeg)), (0, .ref (ad 0)), (1, .int p1), (2, .int p2)]) hx hb dX6_says_98 rfl hl (by decide) rfl (fun ls hl => ?_)
      refine lv_iconst (v := 0) hx hb dX6_says_99 (by decide) ?_
      refine lv_istore (lv' := [(4, .int (0 : Int32)), (3, .int (RM_shown z76 p1.toNatClampNeg)), (0, .ref (ad 0)), (1, .int p1), (2, .int p2)]) hx hb dX6_says_100 hl (by decide) rfl (fun ls hl => ?_)
      refine lv_iload_n hx hb dX6_says_102 rfl (lv_at hl 4 rfl) ?_
      by_cases k103_0 : p2 = 0
      · have h := itt k103_0 h
        refine lv_tableIn (off := 33) (tgt := 136) hx hb dX6_says_103 (by rw [k103_0]; decide) (by rw [k103_0]; decide) (by rw [k103_0]; rfl) (by decide) ?_
        refine lv_aload_n hx hb dX6_says_136 rfl (lv_at hl 2 rfl) ?_
        refine RM_g_on X hw 0 rfl kf_X6_43 dX6_says_137 ?_
        refine lv_iload_n hx hb dX6_says_140 rfl (lv_at hl 1 rfl) ?_
        obtain ⟨q141, h⟩ := chk h
        refine RM_l_on X hw 0 rfl q141 dX6_says_141 ?_
        obtain ⟨r142, h142, h⟩ := bnd h
        refine g_calli0 (isC := []) (gn := fun _ => [wRM g ad eK eT z76]) (g_runS (isC := []) (rest := []) (As := [.int (RM_on z76 (RM_shown z76 p1.toNatClampNeg).toNatClampNeg)]) X hw (c_X6_bits l h142) rfl kM_X6_bits kt_X6_bits km_X6_116 ⟨(Nat.le_of_ble_eq_true rfl), (Nat.le_of_ble_eq_true rfl)⟩ ⟨(Nat.le_of_ble_eq_true rfl), (Nat.le_of_ble_eq_true rfl)⟩ rfl rfl rfl hl.1 rfl (Nat.le_of_ble_eq_true rfl) dX6_says_142) hw rfl rfl (fun _ => (Nat.le_of_ble_eq_true rfl)) (fun _ => rfl) rfl rfl (fun _ H locs hw => ?_)
        have h := Option.some.inj h
        subst h
        exact hret () dX6_says_145 rfl hw
      have h := itf k103_0 h
      by_cases k103_1 : p2 = 1
      · have h := itt k103_1 h
        refine lv_tableIn (off := 43) (tgt := 146) hx hb dX6_says_103 (by rw [k103_1]; decide) (by rw [k103_1]; decide) (by rw [k103_1]; rfl) (by decide) ?_
        refine lv_aload_n hx hb dX6_says_146 rfl (lv_at hl 2 rfl) ?_
        refine RM_g_kind X hw 0 rfl kf_X6_37 dX6_says_147 ?_
        refine lv_iload_n hx hb dX6_says_150 rfl (lv_at hl 1 rfl) ?_
        obtain ⟨q151, h⟩ := chk h
        refine RM_l_kind X hw 0 rfl q151 dX6_says_151 ?_
        refine lv_iconst (v := 4) hx hb dX6_says_152 (by decide) ?_
        refine lv_icmp_ne (tgt := 175) hx hb dX6_says_153 (by decide) (fun k153 => ?_) (fun k153 => ?_)
        · have h := itt k153 h
          refine lv_aload_n hx hb dX6_says_175 rfl (lv_at hl 2 rfl) ?_
          refine RM_g_on X hw 0 rfl kf_X6_43 dX6_says_176 ?_
          refine lv_iload_n hx hb dX6_says_179 rfl (lv_at hl 1 rfl) ?_
          obtain ⟨q180, h⟩ := chk h
          refine RM_l_on X hw 0 rfl q180 dX6_says_180 ?_
          refine lv_i2l (v := (RM_on z76 (RM_shown z76 p1.toNatClampNeg).toNatClampNeg).toInt64) hx hb dX6_says_181 rfl ?_
          exact J182 _ h _ _ _ hw (lv_sub hl [] rfl)
        · have h := itf (fun z => z k153) h
          refine lv_aload_n hx hb dX6_says_156 rfl (lv_at hl 2 rfl) ?_
          refine RM_g_on X hw 0 rfl kf_X6_43 dX6_says_157 ?_
          refine lv_iload_n hx hb dX6_says_160 rfl (lv_at hl 1 rfl) ?_
          obtain ⟨q161, h⟩ := chk h
          refine RM_l_on X hw 0 rfl q161 dX6_says_161 ?_
          refine lv_aload_n hx hb dX6_says_162 rfl (lv_at hl 2 rfl) ?_
          refine RM_g_size X hw 0 rfl kf_X6_40 dX6_says_163 ?_
          refine lv_iload_n hx hb dX6_says_166 rfl (lv_at hl 1 rfl) ?_
          obtain ⟨q167, h⟩ := chk h
          refine RM_l_size X hw 0 rfl q167 dX6_says_167 ?_
          obtain ⟨r168, h168, h⟩ := bnd h
          refine g_calli0 (isC := []) (gn := fun _ => [wRM g ad eK eT z76]) (g_runS (isC := []) (rest := []) (As := [.int (RM_on z76 (RM_shown z76 p1.toNatClampNeg).toNatClampNeg), .int (RM_size z76 (RM_shown z76 p1.toNatClampNeg).toNatClampNeg)]) X hw (c_X6_turned l h168) rfl kM_X6_turned kt_X6_turned km_X6_119 ⟨(Nat.le_of_ble_eq_true rfl), (Nat.le_of_ble_eq_true rfl)⟩ ⟨(Nat.le_of_ble_eq_true rfl), (Nat.le_of_ble_eq_true rfl)⟩ rfl rfl rfl hl.1 rfl (Nat.le_of_ble_eq_true rfl) dX6_says_168) hw rfl rfl (fun _ => (Nat.le_of_ble_eq_true rfl)) (fun _ => rfl) rfl rfl (fun _ H locs hw => ?_)
          refine lv_i2l (v := r168.toInt64) hx hb dX6_says_171 rfl ?_
          refine lv_goto (tgt := 182) hx hb dX6_says_172 (by decide) ?_
          exact J182 _ h _ _ _ hw (lv_sub hl [] rfl)
      have h := itf k103_1 h
      by_cases k103_2 : p2 = 2
      · have h := itt k103_2 h
        refine lv_tableIn (off := 84) (tgt := 187) hx hb dX6_says_103 (by rw [k103_2]; decide) (by rw [k103_2]; decide) (by rw [k103_2]; rfl) (by decide) ?_
        refine lv_aload_n hx hb dX6_says_187 rfl (lv_at hl 2 rfl) ?_
        refine lv_iload_n hx hb dX6_says_188 rfl (lv_at hl 1 rfl) ?_
        refine lv_aload_n hx hb dX6_says_189 rfl (lv_at hl 2 rfl) ?_
        refine RM_g_on X hw 0 rfl kf_X6_43 dX6_says_190 ?_
        refine lv_iload_n hx hb dX6_says_193 rfl (lv_at hl 1 rfl) ?_
        obtain ⟨q194, h⟩ := chk h
        refine RM_l_on X hw 0 rfl q194 dX6_says_194 ?_
        refine lv_iconst (v := 0) hx hb dX6_says_195 (by decide) ?_
        obtain ⟨r196, h196, h⟩ := bnd h
        refine g_calli0 (isC := [0]) (gn := fun _ => [wRM g ad eK eT r196.2]) (g_runV (isC := [0]) (rest := []) (As := [.int (RM_shown z76 p1.toNatClampNeg), .int (RM_on z76 (RM_shown z76 p1.toNatClampNeg).toNatClampNeg), .int (0 : Int32)]) X hw (c_X6_fewestTo l (ad := ad) (eK := eK) (eT := eT) h196) rfl kM_X6_fewestTo ki_X6_fewestTo ks_X6_fewestTo km_X6_127 ⟨(Nat.le_of_ble_eq_true rfl), (Nat.le_of_ble_eq_true rfl)⟩ ⟨(Nat.le_of_ble_eq_true rfl), (Nat.le_of_ble_eq_true rfl)⟩ rfl rfl ⟨_, _, _, _, rfl, rfl, rfl, rfl⟩ rfl hl.1 rfl (Nat.le_of_ble_eq_true rfl) dX6_says_196) hw rfl rfl (fun _ => (Nat.le_of_ble_eq_true rfl)) (fun _ => rfl) rfl rfl (fun _ H locs hw => ?_)
        have h := Option.some.inj h
        subst h
        exact hret () dX6_says_199 rfl hw
      have h := itf k103_2 h
      by_cases k103_3 : p2 = 3
      · have h := itt k103_3 h
        refine lv_tableIn (off := 97) (tgt := 200) hx hb dX6_says_103 (by rw [k103_3]; decide) (by rw [k103_3]; decide) (by rw [k103_3]; rfl) (by decide) ?_
        refine lv_iconst (v := 0) hx hb dX6_says_200 (by decide) ?_
        refine lv_istore (lv' := [(5, .int (0 : Int32)), (4, .int (0 : Int32)), (3, .int (RM_shown z76 p1.toNatClampNeg)), (0, .ref (ad 0)), (1, .int p1), (2, .int p2)]) hx hb dX6_says_201 hl (by decide) rfl (fun ls hl => ?_)
        exact L203 N _ h _ _ _ hw (lv_sub hl [3, 2, 1, 0] rfl)
      have h := itf k103_3 h
      by_cases k103_4 : p2 = 4
      · have h := itt k103_4 h
        refine lv_tableIn (off := 142) (tgt := 245) hx hb dX6_says_103 (by rw [k103_4]; decide) (by rw [k103_4]; decide) (by rw [k103_4]; rfl) (by decide) ?_
        refine lv_aload_n hx hb dX6_says_245 rfl (lv_at hl 2 rfl) ?_
        refine RM_g_size X hw 0 rfl kf_X6_40 dX6_says_246 ?_
        refine lv_iload_n hx hb dX6_says_249 rfl (lv_at hl 1 rfl) ?_
        obtain ⟨q250, h⟩ := chk h
        refine RM_l_size X hw 0 rfl q250 dX6_says_250 ?_
        refine lv_iconst (v := 1) hx hb dX6_says_251 (by decide) ?_
        refine lv_isub hx hb dX6_says_252 ?_
        refine lv_istore (lv' := [(5, .int ((RM_size z76 (RM_shown z76 p1.toNatClampNeg).toNatClampNeg) - (1 : Int32))), (4, .int (0 : Int32)), (3, .int (RM_shown z76 p1.toNatClampNeg)), (0, .ref (ad 0)), (1, .int p1), (2, .int p2)]) hx hb dX6_says_253 hl (by decide) rfl (fun ls hl => ?_)
        exact L255 N _ h _ _ _ hw (lv_sub hl [3, 2, 0] rfl)
      have h := itf k103_4 h
      refine lv_tableOut (tgt := 285) hx hb dX6_says_103 (g_out (lo := 0) (hi := 4) p2 (fun q h1 h2 => ?_)) (by decide) ?_
      · rcases (show q = 0 ∨ q = 1 ∨ q = 2 ∨ q = 3 ∨ q = 4 by omega) with rfl | rfl | rfl | rfl | rfl     
        · exact fun e => k103_0 (Int32.toInt_inj.mp (e.trans rfl))
        · exact fun e => k103_1 (Int32.toInt_inj.mp (e.trans rfl))
        · exact fun e => k103_2 (Int32.toInt_inj.mp (e.trans rfl))
        · exact fun e => k103_3 (Int32.toInt_inj.mp (e.trans rfl))
        · exact fun e => k103_4 (Int32.toInt_inj.mp (e.trans rfl))
      refine lv_iconst (v := 0) hx hb dX6_says_285 (by decide) ?_
      refine lv_istore (lv' := [(5, .int (0 : Int32)), (4, .int (0 : Int32)), (3, .int (RM_shown z76 p1.toNatClampNeg)), (0, .ref (ad 0)), (1, .int p1), (2, .int p2)]) hx hb dX6_says_286 hl (by decide) rfl (fun ls hl => ?_)
      exact L288 N _ h _ _ _ hw (lv_sub hl [3, 2, 1, 0] rfl)
    · have h := itf (fun z => z k82) h
      refine lv_aload_n hx hb dX6_says_85 rfl (lv_at hl 0 rfl) ?_
      refine lv_bipush (v := -4) hx hb dX6_says_86 (by decide) ?_
      obtain ⟨r88, h88, h⟩ := bnd h
      refine g_calli0 (isC := [0]) (gn := fun _ => [wRM g ad eK eT r88.2]) (g_runV (isC := [0]) (rest := []) (As := [.int (-4 : Int32)]) X hw (c_X6_refuse l (ad := ad) (eK := eK) (eT := eT) h88) rfl kM_X6_refuse ki_X6_refuse ks_X6_refuse km_X6_96 ⟨(Nat.le_of_ble_eq_true rfl), (Nat.le_of_ble_eq_true rfl)⟩ ⟨(Nat.le_of_ble_eq_true rfl), (Nat.le_of_ble_eq_true rfl)⟩ rfl rfl ⟨_, _, _, _, rfl, rfl, rfl, rfl⟩ rfl hl.1 rfl (Nat.le_of_ble_eq_true rfl) dX6_says_88) hw rfl rfl (fun _ => (Nat.le_of_ble_eq_true rfl)) (fun _ => rfl) rfl rfl (fun _ H locs hw => ?_)
      have h := Option.some.inj h
      subst h
      exact hret () dX6_says_91 rfl hw
  have J69 : ∀ (z69 : RM), M_X6_says_j69 N p1 p2 z69 = some out → ∀ (H : Heap) (locs : List Loc) (ls : Array Slot), gW g A s.heap [wRM g ad eK eT z69] H locs → lv_has ls 6 [(0, .ref (ad 0))] → W p l e R_X6_says s m args below meth c H locs 0 0 Q (F0 m 69 ls []) := by
    intro z69 h H locs ls hw hl
    unfold M_X6_says_j69 at h
    refine lv_aload_n hx hb dX6_says_69 rfl (lv_at hl 0 rfl) ?_
    refine lv_bipush (v := -3) hx hb dX6_says_70 (by decide) ?_
    obtain ⟨r72, h72, h⟩ := bnd h
    refine g_calli0 (isC := [0]) (gn := fun _ => [wRM g ad eK eT r72.2]) (g_runV (isC := [0]) (rest := []) (As := [.int (-3 : Int32)]) X hw (c_X6_refuse l (ad := ad) (eK := eK) (eT := eT) h72) rfl kM_X6_refuse ki_X6_refuse ks_X6_refuse km_X6_96 ⟨(Nat.le_of_ble_eq_true rfl), (Nat.le_of_ble_eq_true rfl)⟩ ⟨(Nat.le_of_ble_eq_true rfl), (Nat.le_of_ble_eq_true rfl)⟩ rfl rfl ⟨_, _, _, _, rfl, rfl, rfl, rfl⟩ rfl hl.1 rfl (Nat.le_of_ble_eq_true rfl) dX6_says_72) hw rfl rfl (fun _ => (Nat.le_of_ble_eq_true rfl)) (fun _ => rfl) rfl rfl (fun _ H locs hw => ?_)
    have h := Option.some.inj h
    subst h
    exact hret () dX6_says_75 rfl hw
  have J24 : ∀ (z24 : RM), M_X6_says_j24 N p1 p2 z24 = some out → ∀ (H : Heap) (locs : List Loc) (ls : Array Slot), gW g A s.heap [wRM g ad eK eT z24] H locs → lv_has ls 6 [(0, .ref (ad 0))] → W p l e R_X6_says s m args below meth c H locs 0 0 Q (F0 m 24 ls []) := by
    intro z24 h H locs ls hw hl
    unfold M_X6_says_j24 at h
    refine lv_aload_n hx hb dX6_says_24 rfl (lv_at hl 0 rfl) ?_
    refine lv_bipush (v := -2) hx hb dX6_says_25 (by decide) ?_
    obtain ⟨r27, h27, h⟩ := bnd h
    refine g_calli0 (isC := [0]) (gn := fun _ => [wRM g ad eK eT r27.2]) (g_runV (isC := [0]) (rest := []) (As := [.int (-2 : Int32)]) X hw (c_X6_refuse l (ad := ad) (eK := eK) (eT := eT) h27) rfl kM_X6_refuse ki_X6_refuse ks_X6_refuse km_X6_96 ⟨(Nat.le_of_ble_eq_true rfl), (Nat.le_of_ble_eq_true rfl)⟩ ⟨(Nat.le_of_ble_eq_true rfl), (Nat.le_of_ble_eq_true rfl)⟩ rfl rfl ⟨_, _, _, _, rfl, rfl, rfl, rfl⟩ rfl hl.1 rfl (Nat.le_of_ble_eq_true rfl) dX6_says_27) hw rfl rfl (fun _ => (Nat.le_of_ble_eq_true rfl)) (fun _ => rfl) rfl rfl (fun _ H locs hw => ?_)
    have h := Option.some.inj h
    subst h
    exact hret () dX6_says_30 rfl hw
  unfold M_X6_says at h
  refine lv_iload_n hx hb dX6_says_0 rfl (lv_at hl 1 rfl) ?_
  refine lv_i2l (v := p1.toInt64) hx hb dX6_says_1 rfl ?_
  refine lv_lconst (v := 0) hx hb dX6_says_2 (by decide) ?_
  refine lv_ldc2 hx hb X.1.2.2.2.1 (gK1 X _ kq_X6_90) dX6_says_3 ?_
  obtain ⟨r6, h6, h⟩ := bnd h
  refine g_calli0 (isC := []) (gn := fun _ => [wRM g ad eK eT rm]) (g_runS (isC := []) (rest := []) (As := [.long p1.toInt64, .long (0 : Int64), .long (7 : Int64)]) X hw (c_X6_in l h6) rfl kM_X6_in kt_X6_in km_X6_82 ⟨(Nat.le_of_ble_eq_true rfl), (Nat.le_of_ble_eq_true rfl)⟩ ⟨(Nat.le_of_ble_eq_true rfl), (Nat.le_of_ble_eq_true rfl)⟩ rfl rfl rfl hl.1 rfl (Nat.le_of_ble_eq_true rfl) dX6_says_6) hw rfl rfl (fun _ => (Nat.le_of_ble_eq_true rfl)) (fun _ => rfl) rfl rfl (fun _ H locs hw => ?_)
  refine lv_if_eq (tgt := 24) hx hb dX6_says_9 (by decide) (fun k9 => ?_) (fun k9 => ?_)
  · have h := itt k9 h
    exact J24 _ h _ _ _ hw (lv_sub hl [0] rfl)
  · have h := itf k9 h
    refine lv_iload_n hx hb dX6_says_12 rfl (lv_at hl 2 rfl) ?_
    refine lv_i2l (v := p2.toInt64) hx hb dX6_says_13 rfl ?_
    refine lv_lconst (v := 0) hx hb dX6_says_14 (by decide) ?_
    refine lv_ldc2 hx hb X.1.2.2.2.1 (gK1 X _ kq_X6_110) dX6_says_15 ?_
    obtain ⟨r18, h18, h⟩ := bnd h
    refine g_calli0 (isC := []) (gn := fun _ => [wRM g ad eK eT rm]) (g_runS (isC := []) (rest := []) (As := [.long p2.toInt64, .long (0 : Int64), .long (5 : Int64)]) X hw (c_X6_in l h18) rfl kM_X6_in kt_X6_in km_X6_82 ⟨(Nat.le_of_ble_eq_true rfl), (Nat.le_of_ble_eq_true rfl)⟩ ⟨(Nat.le_of_ble_eq_true rfl), (Nat.le_of_ble_eq_true rfl)⟩ rfl rfl rfl hl.1 rfl (Nat.le_of_ble_eq_true rfl) dX6_says_18) hw rfl rfl (fun _ => (Nat.le_of_ble_eq_true rfl)) (fun _ => rfl) rfl rfl (fun _ H locs hw => ?_)
    refine lv_if_ne (tgt := 31) hx hb dX6_says_21 (by decide) (fun k21 => ?_) (fun k21 => ?_)
    · have h := itt k21 h
      refine lv_aload_n hx hb dX6_says_31 rfl (lv_at hl 0 rfl) ?_
      refine RM_g_shelf X hw 0 rfl kf_X6_7 dX6_says_32 ?_
      refine lv_iload_n hx hb dX6_says_35 rfl (lv_at hl 1 rfl) ?_
      obtain ⟨q36, h⟩ := chk h
      refine RM_l_shelf X hw 0 rfl q36 dX6_says_36 ?_
      refine lv_iconst (v := 1) hx hb dX6_says_37 (by decide) ?_
      refine lv_icmp_eq (tgt := 69) hx hb dX6_says_38 (by decide) (fun k38 => ?_) (fun k38 => ?_)
      · have h := itt k38 h
        exact J69 _ h _ _ _ hw (lv_sub hl [0] rfl)
      · have h := itf k38 h
        refine lv_aload_n hx hb dX6_says_41 rfl (lv_at hl 0 rfl) ?_
        refine RM_g_shelf X hw 0 rfl kf_X6_7 dX6_says_42 ?_
        refine lv_iload_n hx hb dX6_says_45 rfl (lv_at hl 1 rfl) ?_
        obtain ⟨q46, h⟩ := chk h
        refine RM_l_shelf X hw 0 rfl q46 dX6_says_46 ?_
        refine lv_iconst (v := 2) hx hb dX6_says_47 (by decide) ?_
        refine lv_icmp_ne (tgt := 76) hx hb dX6_says_48 (by decide) (fun k48 => ?_) (fun k48 => ?_)
        · have h := itt k48 h
          exact J76 _ h _ _ _ hw (lv_sub hl [0, 1, 2] rfl)
        · have h := itf (fun z => z k48) h
          refine lv_aload_n hx hb dX6_says_51 rfl (lv_at hl 0 rfl) ?_
          refine RM_g_kind X hw 0 rfl kf_X6_37 dX6_says_52 ?_
          refine lv_aload_n hx hb dX6_says_55 rfl (lv_at hl 0 rfl) ?_
          refine RM_g_shown X hw 0 rfl kf_X6_28 dX6_says_56 ?_
          refine lv_iload_n hx hb dX6_says_59 rfl (lv_at hl 1 rfl) ?_
          obtain ⟨q60, h⟩ := chk h
          refine RM_l_shown X hw 0 rfl q60 dX6_says_60 ?_
          obtain ⟨q61, h⟩ := chk h
          refine RM_l_kind X hw 0 rfl q61 dX6_says_61 ?_
          refine lv_iload_n hx hb dX6_says_62 rfl (lv_at hl 2 rfl) ?_
          obtain ⟨r63, h63, h⟩ := bnd h
          refine g_calli0 (isC := []) (gn := fun _ => [wRM g ad eK eT rm]) (g_runS (isC := []) (rest := []) (As := [.int (RM_kind rm (RM_shown rm p1.toNatClampNeg).toNatClampNeg), .int p2]) X hw (c_X6_isUnder l h63) rfl kM_X6_isUnder kt_X6_isUnder km_X6_112 ⟨(Nat.le_of_ble_eq_true rfl), (Nat.le_of_ble_eq_true rfl)⟩ ⟨(Nat.le_of_ble_eq_true rfl), (Nat.le_of_ble_eq_true rfl)⟩ rfl rfl rfl hl.1 rfl (Nat.le_of_ble_eq_true rfl) dX6_says_63) hw rfl rfl (fun _ => (Nat.le_of_ble_eq_true rfl)) (fun _ => rfl) rfl rfl (fun _ H locs hw => ?_)
          refine lv_if_ne (tgt := 76) hx hb dX6_says_66 (by decide) (fun k66 => ?_) (fun k66 => ?_)
          · have h := itt k66 h
            exact J76 _ h _ _ _ hw (lv_sub hl [0, 1, 2] rfl)
          · have h := itf (fun z => z k66) h
            exact J69 _ h _ _ _ hw (lv_sub hl [0] rfl)
    · have h := itf (fun z => z k21) h
      exact J24 _ h _ _ _ hw (lv_sub hl [0] rfl)
