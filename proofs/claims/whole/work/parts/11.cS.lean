theorem kM_X5_isUnder : kM yX5_isUnder cX5_isUnder 2 (some FieldType.boolean) 2 := ⟨kc_X5_isUnder, kn_RingsOff, by decide +kernel⟩
abbrev R_X5_isUnder : Room := { frames := 0, cells := 0, slots := 0, locals := 0 }
set_option maxHeartbeats 4000000 in
set_option maxRecDepth 100000 in
theorem c_X5_isUnder (l : Launch) {N : Nat} {p1 : Int32} {p2 : Int32} {out : Int32} (h : M_X5_isUnder N p1 p2 = some out) : gM l yX5_isUnder cX5_isUnder 2 (some FieldType.boolean) R_X5_isUnder (fun _ => [.int p1, .int p2]) (fun g => []) (gQi (fun (_ : Unit) => out) (fun g (_ : Unit) => [])) := by
  refine gM.ofz (by decide +kernel) (fun _ => Nat.le_of_ble_eq_true rfl) (fun g p e s m args below meth c A ls Q X hret hw hl => ?_)
  have hx := X.1.1
  have hb := X.1.2.1
  have hl : lv_has ls 2 [(0, .int p1), (1, .int p2)] := hl
  unfold M_X5_isUnder at h
  refine lv_iload_n hx hb dX5_isUnder_0 rfl (lv_at hl 0 rfl) ?_
  refine lv_iload_n hx hb dX5_isUnder_1 rfl (lv_at hl 1 rfl) ?_
  refine lv_icmp_eq (tgt := 9) hx hb dX5_isUnder_2 (by decide) (fun k2 => ?_) (fun k2 => ?_)
  · have h := itt k2 h
    refine lv_iconst (v := 1) hx hb dX5_isUnder_9 (by decide) ?_
    have h := Option.some.inj h
    subst h
    exact hret () dX5_isUnder_10 (by decide) rfl hw
  · have h := itf k2 h
    refine lv_iload_n hx hb dX5_isUnder_5 rfl (lv_at hl 1 rfl) ?_
    refine lv_if_ne (tgt := 11) hx hb dX5_isUnder_6 (by decide) (fun k6 => ?_) (fun k6 => ?_)
    · have h := itt k6 h
      refine lv_iload_n hx hb dX5_isUnder_11 rfl (lv_at hl 1 rfl) ?_
      refine lv_iconst (v := 1) hx hb dX5_isUnder_12 (by decide) ?_
      refine lv_icmp_ne (tgt := 30) hx hb dX5_isUnder_13 (by decide) (fun k13 => ?_) (fun k13 => ?_)
      · have h := itt k13 h
        refine lv_iconst (v := 0) hx hb dX5_isUnder_30 (by decide) ?_
        have h := Option.some.inj h
        subst h
        exact hret () dX5_isUnder_31 (by decide) rfl hw
      · have h := itf (fun z => z k13) h
        refine lv_iload_n hx hb dX5_isUnder_16 rfl (lv_at hl 0 rfl) ?_
        refine lv_iconst (v := 2) hx hb dX5_isUnder_17 (by decide) ?_
        refine lv_icmp_eq (tgt := 26) hx hb dX5_isUnder_18 (by decide) (fun k18 => ?_) (fun k18 => ?_)
        · have h := itt k18 h
          refine lv_iconst (v := 1) hx hb dX5_isUnder_26 (by decide) ?_
          refine lv_goto (tgt := 31) hx hb dX5_isUnder_27 (by decide) ?_
          have h := Option.some.inj h
          subst h
          exact hret () dX5_isUnder_31 (by decide) rfl hw
        · have h := itf k18 h
          refine lv_iload_n hx hb dX5_isUnder_21 rfl (lv_at hl 0 rfl) ?_
          refine lv_iconst (v := 4) hx hb dX5_isUnder_22 (by decide) ?_
          refine lv_icmp_ne (tgt := 30) hx hb dX5_isUnder_23 (by decide) (fun k23 => ?_) (fun k23 => ?_)
          · have h := itt k23 h
            refine lv_iconst (v := 0) hx hb dX5_isUnder_30 (by decide) ?_
            have h := Option.some.inj h
            subst h
            exact hret () dX5_isUnder_31 (by decide) rfl hw
          · have h := itf (fun z => z k23) h
            refine lv_iconst (v := 1) hx hb dX5_isUnder_26 (by decide) ?_
            refine lv_goto (tgt := 31) hx hb dX5_isUnder_27 (by decide) ?_
            have h := Option.some.inj h
            subst h
            exact hret () dX5_isUnder_31 (by decide) rfl hw
    · have h := itf (fun z => z k6) h
      refine lv_iconst (v := 1) hx hb dX5_isUnder_9 (by decide) ?_
      have h := Option.some.inj h
      subst h
      exact hret () dX5_isUnder_10 (by decide) rfl hw
theorem kM_X5_hasBit : kM yX5_hasBit cX5_hasBit 2 (some FieldType.boolean) 2 := ⟨kc_X5_hasBit, kn_RingsOff, by decide +kernel⟩
abbrev R_X5_hasBit : Room := { frames := 0, cells := 0, slots := 0, locals := 0 }
set_option maxHeartbeats 4000000 in
set_option maxRecDepth 100000 in
theorem c_X5_hasBit (l : Launch) {N : Nat} {p1 : Int32} {p2 : Int32} {out : Int32} (h : M_X5_hasBit N p1 p2 = some out) : gM l yX5_hasBit cX5_hasBit 2 (some FieldType.boolean) R_X5_hasBit (fun _ => [.int p1, .int p2]) (fun g => []) (gQi (fun (_ : Unit) => out) (fun g (_ : Unit) => [])) := by
  refine gM.ofz (by decide +kernel) (fun _ => Nat.le_of_ble_eq_true rfl) (fun g p e s m args below meth c A ls Q X hret hw hl => ?_)
  have hx := X.1.1
  have hb := X.1.2.1
  have hl : lv_has ls 2 [(0, .int p1), (1, .int p2)] := hl
  unfold M_X5_hasBit at h
  refine lv_iload_n hx hb dX5_hasBit_0 rfl (lv_at hl 1 rfl) ?_
  refine lv_if_lt (tgt := 22) hx hb dX5_hasBit_1 (by decide) (fun k1 => ?_) (fun k1 => ?_)
  · have h := itt k1 h
    refine lv_iconst (v := 0) hx hb dX5_hasBit_22 (by decide) ?_
    have h := Option.some.inj h
    subst h
    exact hret () dX5_hasBit_23 (by decide) rfl hw
  · have h := itf k1 h
    refine lv_iload_n hx hb dX5_hasBit_4 rfl (lv_at hl 1 rfl) ?_
    refine lv_bipush (v := 32) hx hb dX5_hasBit_5 (by decide) ?_
    refine lv_icmp_ge (tgt := 22) hx hb dX5_hasBit_7 (by decide) (fun k7 => ?_) (fun k7 => ?_)
    · have h := itt k7 h
      refine lv_iconst (v := 0) hx hb dX5_hasBit_22 (by decide) ?_
      have h := Option.some.inj h
      subst h
      exact hret () dX5_hasBit_23 (by decide) rfl hw
    · have h := itf k7 h
      refine lv_iload_n hx hb dX5_hasBit_10 rfl (lv_at hl 0 rfl) ?_
      refine lv_iload_n hx hb dX5_hasBit_11 rfl (lv_at hl 1 rfl) ?_
      refine lv_ishr hx hb dX5_hasBit_12 ?_
      refine lv_iconst (v := 1) hx hb dX5_hasBit_13 (by decide) ?_
      refine lv_iand hx hb dX5_hasBit_14 ?_
      refine lv_if_eq (tgt := 22) hx hb dX5_hasBit_15 (by decide) (fun k15 => ?_) (fun k15 => ?_)
      · have h := itt k15 h
        refine lv_iconst (v := 0) hx hb dX5_hasBit_22 (by decide) ?_
        have h := Option.some.inj h
        subst h
        exact hret () dX5_hasBit_23 (by decide) rfl hw
      · have h := itf k15 h
        refine lv_iconst (v := 1) hx hb dX5_hasBit_18 (by decide) ?_
        refine lv_goto (tgt := 23) hx hb dX5_hasBit_19 (by decide) ?_
        have h := Option.some.inj h
        subst h
        exact hret () dX5_hasBit_23 (by decide) rfl hw
theorem kM_X5_ringsOf : kM yX5_ringsOf cX5_ringsOf 1 (some FieldType.int) 1 := ⟨kc_X5_ringsOf, kn_RingsOff, by decide +kernel⟩
abbrev R_X5_ringsOf : Room := { frames := 0, cells := 0, slots := 0, locals := 0 }
set_option maxHeartbeats 4000000 in
set_option maxRecDepth 100000 in
theorem c_X5_ringsOf (l : Launch) {N : Nat} {p1 : Int32} {out : Int32} (h : M_X5_ringsOf N p1 = some out) : gM l yX5_ringsOf cX5_ringsOf 1 (some FieldType.int) R_X5_ringsOf (fun _ => [.int p1]) (fun g => []) (gQi (fun (_ : Unit) => out) (fun g (_ : Unit) => [])) := by
  refine gM.ofi (by decide +kernel) (fun _ => Nat.le_of_ble_eq_true rfl) (fun g p e s m args below meth c A ls Q X hret hw hl => ?_)
  have hx := X.1.1
  have hb := X.1.2.1
  have hl : lv_has ls 1 [(0, .int p1)] := hl
  unfold M_X5_ringsOf at h
  refine lv_iload_n hx hb dX5_ringsOf_0 rfl (lv_at hl 0 rfl) ?_
  refine lv_bipush (v := 20) hx hb dX5_ringsOf_1 (by decide) ?_
  refine lv_icmp_ne (tgt := 8) hx hb dX5_ringsOf_3 (by decide) (fun k3 => ?_) (fun k3 => ?_)
  · have h := itt k3 h
    refine lv_iload_n hx hb dX5_ringsOf_8 rfl (lv_at hl 0 rfl) ?_
    refine lv_if_lt (tgt := 24) hx hb dX5_ringsOf_9 (by decide) (fun k9 => ?_) (fun k9 => ?_)
    · have h := itt k9 h
      refine lv_iconst (v := 0) hx hb dX5_ringsOf_24 (by decide) ?_
      have h := Option.some.inj h
      subst h
      exact hret () dX5_ringsOf_25 rfl hw
    · have h := itf k9 h
      refine lv_iload_n hx hb dX5_ringsOf_12 rfl (lv_at hl 0 rfl) ?_
      refine lv_bipush (v := 10) hx hb dX5_ringsOf_13 (by decide) ?_
      refine lv_icmp_ge (tgt := 24) hx hb dX5_ringsOf_15 (by decide) (fun k15 => ?_) (fun k15 => ?_)
      · have h := itt k15 h
        refine lv_iconst (v := 0) hx hb dX5_ringsOf_24 (by decide) ?_
        have h := Option.some.inj h
        subst h
        exact hret () dX5_ringsOf_25 rfl hw
      · have h := itf k15 h
        refine lv_iconst (v := 1) hx hb dX5_ringsOf_18 (by decide) ?_
        refine lv_iload_n hx hb dX5_ringsOf_19 rfl (lv_at hl 0 rfl) ?_
        refine lv_ishl hx hb dX5_ringsOf_20 ?_
        refine lv_goto (tgt := 25) hx hb dX5_ringsOf_21 (by decide) ?_
        have h := Option.some.inj h
        subst h
        exact hret () dX5_ringsOf_25 rfl hw
  · have h := itf (fun z => z k3) h
    refine lv_iconst (v := 3) hx hb dX5_ringsOf_6 (by decide) ?_
    have h := Option.some.inj h
    subst h
    exact hret () dX5_ringsOf_7 rfl hw
theorem kM_X5_grayPlace : kM yX5_grayPlace cX5_grayPlace 5 (some FieldType.long) 1 := ⟨kc_X5_grayPlace, kn_RingsOff, by decide +kernel⟩
abbrev R_X5_grayPlace : Room := { frames := 0, cells := 0, slots := 0, locals := 0 }
set_option maxHeartbeats 4000000 in
set_option maxRecDepth 100000 in
theorem c_X5_grayPlace (l : Launch) {N : Nat} {p1 : Int64} {out : Int64} (h : M_X5_grayPlace N p1 = some out) : gM l yX5_grayPlace cX5_grayPlace 5 (some FieldType.long) R_X5_grayPlace (fun _ => [.long p1]) (fun g => []) (gQl (fun (_ : Unit) => out) (fun g (_ : Unit) => [])) := by
  refine gM.ofl (by decide +kernel) (fun _ => Nat.le_of_ble_eq_true rfl) (fun g p e s m args below meth c A ls Q X hret hw hl => ?_)
  have hx := X.1.1
  have hb := X.1.2.1
  have hl : lv_has ls 5 [(0, .long p1)] := hl
  have L5 : ∀ (n : Nat) (z5 : Int64 × Int32), lp (M_X5_grayPlace_l5 N p1) n z5 = some out → ∀ (H : Heap) (locs : List Loc) (ls : Array Slot), gW g A s.heap [] H locs → lv_has ls 5 [(2, .long z5.1), (4, .int z5.2)] → W p l e R_X5_grayPlace s m args below meth c H locs 0 0 Q (F0 m 5 ls []) := by
    refine lp_ind ?_
    intro rec5 ih5
    intro z5 h H locs ls hw hl
    unfold M_X5_grayPlace_l5 at h
    refine lv_iload hx hb dX5_grayPlace_5 (lv_at hl 1 rfl) ?_
    refine lv_bipush (v := 64) hx hb dX5_grayPlace_7 (by decide) ?_
    refine lv_icmp_ge (tgt := 28) hx hb dX5_grayPlace_9 (by decide) (fun k9 => ?_) (fun k9 => ?_)
    · have h := itt k9 h
      refine lv_lload_n hx hb dX5_grayPlace_28 rfl (lv_at hl 0 rfl) ?_
      have h := Option.some.inj h
      subst h
      exact hret () dX5_grayPlace_29 rfl hw
    · have h := itf k9 h
      refine lv_lload_n hx hb dX5_grayPlace_12 rfl (lv_at hl 0 rfl) ?_
      refine lv_lload_n hx hb dX5_grayPlace_13 rfl (lv_at hl 0 rfl) ?_
      refine lv_iload hx hb dX5_grayPlace_14 (lv_at hl 1 rfl) ?_
      refine lv_lushr (v := (jlushr z5.1 z5.2)) hx hb dX5_grayPlace_16 rfl ?_
      refine lv_lxor hx hb dX5_grayPlace_17 ?_
      refine lv_lstore_n (lv' := [(2, .long (z5.1 ^^^ (jlushr z5.1 z5.2))), (4, .int z5.2)]) hx hb dX5_grayPlace_18 rfl hl (by decide) rfl (fun ls hl => ?_)
      refine lv_iload hx hb dX5_grayPlace_19 (lv_at hl 1 rfl) ?_
      refine lv_iconst (v := 2) hx hb dX5_grayPlace_21 (by decide) ?_
      refine lv_imul hx hb dX5_grayPlace_22 ?_
      refine lv_istore (lv' := [(4, .int (z5.2 * (2 : Int32))), (2, .long (z5.1 ^^^ (jlushr z5.1 z5.2)))]) hx hb dX5_grayPlace_23 hl (by decide) rfl (fun ls hl => ?_)
      refine lv_goto (tgt := 5) hx hb dX5_grayPlace_25 (by decide) ?_
      exact ih5 _ h _ _ _ hw (lv_sub hl [1, 0] rfl)
  unfold M_X5_grayPlace at h
  refine lv_lload_n hx hb dX5_grayPlace_0 rfl (lv_at hl 0 rfl) ?_
  refine lv_lstore_n (lv' := [(2, .long p1), (0, .long p1)]) hx hb dX5_grayPlace_1 rfl hl (by decide) rfl (fun ls hl => ?_)
  refine lv_iconst (v := 1) hx hb dX5_grayPlace_2 (by decide) ?_
  refine lv_istore (lv' := [(4, .int (1 : Int32)), (2, .long p1), (0, .long p1)]) hx hb dX5_grayPlace_3 hl (by decide) rfl (fun ls hl => ?_)
  exact L5 N _ h _ _ _ hw (lv_sub hl [1, 0] rfl)
theorem kM_X5_turned : kM yX5_turned cX5_turned 4 (some FieldType.int) 2 := ⟨kc_X5_turned, kn_RingsOff, by decide +kernel⟩
abbrev R_X5_turned : Room := { frames := 0, cells := 0, slots := 0, locals := 0 }
set_option maxHeartbeats 4000000 in
set_option maxRecDepth 100000 in
theorem c_X5_turned (l : Launch) {N : Nat} {p1 : Int32} {p2 : Int32} {out : Int32} (h : M_X5_turned N p1 p2 = some out) : gM l yX5_turned cX5_turned 4 (some FieldType.int) R_X5_turned (fun _ => [.int p1, .int p2]) (fun g => []) (gQi (fun (_ : Unit) => out) (fun g (_ : Unit) => [])) := by
  refine gM.ofi (by decide +kernel) (fun _ => Nat.le_of_ble_eq_true rfl) (fun g p e s m args below meth c A ls Q X hret hw hl => ?_)
  have hx := X.1.1
  have hb := X.1.2.1
  have hl : lv_has ls 4 [(0, .int p1), (1, .int p2)] := hl
  have L4 : ∀ (n : Nat) (z4 : Int32 × Int32), lp (M_X5_turned_l4 N p1 p2) n z4 = some out → ∀ (H : Heap) (locs : List Loc) (ls : Array Slot), gW g A s.heap [] H locs → lv_has ls 4 [(0, .int p1), (1, .int p2), (2, .int z4.1), (3, .int z4.2)] → W p l e R_X5_turned s m args below meth c H locs 0 0 Q (F0 m 4 ls []) := by
    refine lp_ind ?_
    intro rec4 ih4
    intro z4 h H locs ls hw hl
    unfold M_X5_turned_l4 at h
    refine lv_iload_n hx hb dX5_turned_4 rfl (lv_at hl 3 rfl) ?_
    refine lv_iload_n hx hb dX5_turned_5 rfl (lv_at hl 1 rfl) ?_
    refine lv_icmp_ge (tgt := 29) hx hb dX5_turned_6 (by decide) (fun k6 => ?_) (fun k6 => ?_)
    · have h := itt k6 h
      refine lv_iload_n hx hb dX5_turned_29 rfl (lv_at hl 2 rfl) ?_
      have h := Option.some.inj h
      subst h
      exact hret () dX5_turned_30 rfl hw
    · have h := itf k6 h
      refine lv_iload_n hx hb dX5_turned_9 rfl (lv_at hl 2 rfl) ?_
      refine lv_iload_n hx hb dX5_turned_10 rfl (lv_at hl 0 rfl) ?_
      refine lv_iload_n hx hb dX5_turned_11 rfl (lv_at hl 3 rfl) ?_
      refine lv_ishr hx hb dX5_turned_12 ?_
      refine lv_iconst (v := 1) hx hb dX5_turned_13 (by decide) ?_
      refine lv_iand hx hb dX5_turned_14 ?_
      refine lv_iload_n hx hb dX5_turned_15 rfl (lv_at hl 1 rfl) ?_
      refine lv_iconst (v := 1) hx hb dX5_turned_16 (by decide) ?_
      refine lv_isub hx hb dX5_turned_17 ?_
      refine lv_iload_n hx hb dX5_turned_18 rfl (lv_at hl 3 rfl) ?_
      refine lv_isub hx hb dX5_turned_19 ?_
      refine lv_ishl hx hb dX5_turned_20 ?_
      refine lv_ior hx hb dX5_turned_21 ?_
      refine lv_istore_n (lv' := [(2, .int (z4.1 ||| (((p1 >>> (z4.2 &&& 31)) &&& (1 : Int32)) <<< (((p2 - (1 : Int32)) - z4.2) &&& 31)))), (0, .int p1), (1, .int p2), (3, .int z4.2)]) hx hb dX5_turned_22 rfl hl (by decide) rfl (fun ls hl => ?_)
      refine lv_iinc (v := (z4.2 + 1)) (lv' := [(3, .int (z4.2 + 1)), (2, .int (z4.1 ||| (((p1 >>> (z4.2 &&& 31)) &&& (1 : Int32)) <<< (((p2 - (1 : Int32)) - z4.2) &&& 31)))), (0, .int p1), (1, .int p2)]) hx hb dX5_turned_23 hl (k := 3) rfl rfl (by decide) rfl (fun ls hl => ?_)
      refine lv_goto (tgt := 4) hx hb dX5_turned_26 (by decide) ?_
      exact ih4 _ h _ _ _ hw (lv_sub hl [2, 3, 1, 0] rfl)
  unfold M_X5_turned at h
  refine lv_iconst (v := 0) hx hb dX5_turned_0 (by decide) ?_
  refine lv_istore_n (lv' := [(2, .int (0 : Int32)), (0, .int p1), (1, .int p2)]) hx hb dX5_turned_1 rfl hl (by decide) rfl (fun ls hl => ?_)
  refine lv_iconst (v := 0) hx hb dX5_turned_2 (by decide) ?_
  refine lv_istore_n (lv' := [(3, .int (0 : Int32)), (2, .int (0 : Int32)), (0, .int p1), (1, .int p2)]) hx hb dX5_turned_3 rfl hl (by decide) rfl (fun ls hl => ?_)
  exact L4 N _ h _ _ _ hw (lv_sub hl [2, 3, 1, 0] rfl)
theorem kM_X5_lastRing : kM yX5_lastRing cX5_lastRing 2 (some FieldType.int) 1 := ⟨kc_X5_lastRing, kn_RingsOff, by decide +kernel⟩
abbrev R_X5_lastRing : Room := { frames := 1, cells := 0, slots := 0, locals := 21 }
set_option maxHeartbeats 4000000 in
set_option maxRecDepth 100000 in
theorem c_X5_lastRing (l : Launch) {N : Nat} {p1 : Int32} {out : Int32} (h : M_X5_lastRing N p1 = some out) : gM l yX5_lastRing cX5_lastRing 2 (some FieldType.int) R_X5_lastRing (fun _ => [.int p1]) (fun g => []) (gQi (fun (_ : Unit) => out) (fun g (_ : Unit) => [])) := by
  refine gM.ofi (by decide +kernel) (fun _ => Nat.le_of_ble_eq_true rfl) (fun g p e s m args below meth c A ls Q X hret hw hl => ?_)
  have hx := X.1.1
  have hb := X.1.2.1
  have hl : lv_has ls 2 [(0, .int p1)] := hl
  have L3 : ∀ (n : Nat) (z3 : Int32), lp (M_X5_lastRing_l3 N p1) n z3 = some out → ∀ (H : Heap) (locs : List Loc) (ls : Array Slot), gW g A s.heap [] H locs → lv_has ls 2 [(0, .int p1), (1, .int z3)] → W p l e R_X5_lastRing s m args below meth c H locs 0 0 Q (F0 m 3 ls []) := by
    refine lp_ind ?_
    intro rec3 ih3
    intro z3 h H locs ls hw hl
    unfold M_X5_lastRing_l3 at h
    refine lv_iload_n hx hb dX5_lastRing_3 rfl (lv_at hl 1 rfl) ?_
    refine lv_if_lt (tgt := 23) hx hb dX5_lastRing_4 (by decide) (fun k4 => ?_) (fun k4 => ?_)
    · have h := itt k4 h
      refine lv_iconst (v := -1) hx hb dX5_lastRing_23 (by decide) ?_
      have h := Option.some.inj h
      subst h
      exact hret () dX5_lastRing_24 rfl hw
    · have h := itf k4 h
      refine lv_iload_n hx hb dX5_lastRing_7 rfl (lv_at hl 0 rfl) ?_
      refine lv_iload_n hx hb dX5_lastRing_8 rfl (lv_at hl 1 rfl) ?_
      obtain ⟨r9, h9, h⟩ := bnd h
      refine g_calli0 (isC := []) (gn := fun _ => []) (g_runS (isC := []) (rest := []) (As := [.int p1, .int z3]) X hw (c_X5_hasBit l h9) rfl kM_X5_hasBit kt_X5_hasBit km_X5_223 ⟨(Nat.le_of_ble_eq_true rfl), (Nat.le_of_ble_eq_true rfl)⟩ ⟨(Nat.le_of_ble_eq_true rfl), (Nat.le_of_ble_eq_true rfl)⟩ rfl rfl rfl hl.1 rfl (Nat.le_of_ble_eq_true rfl) dX5_lastRing_9) hw rfl rfl (fun _ => (Nat.le_of_ble_eq_true rfl)) (fun _ => rfl) rfl rfl (fun _ H locs hw => ?_)
      refine lv_if_eq (tgt := 17) hx hb dX5_lastRing_12 (by decide) (fun k12 => ?_) (fun k12 => ?_)
      · have h := itt k12 h
        obtain ⟨y17, e17⟩ : ∃ y : Int32, y = (z3 + (-1)) := ⟨_, rfl⟩
        try rw [← e17] at h
        refine lv_iinc (v := y17) (lv' := [(1, .int y17), (0, .int p1)]) hx hb dX5_lastRing_17 hl (k := 1) rfl (by rw [ofI_m1, e17]) (by decide) rfl (fun ls hl => ?_)
        refine lv_goto (tgt := 3) hx hb dX5_lastRing_20 (by decide) ?_
        exact ih3 _ h _ _ _ hw (lv_sub hl [1, 0] rfl)
      · have h := itf k12 h
        refine lv_iload_n hx hb dX5_lastRing_15 rfl (lv_at hl 1 rfl) ?_
        have h := Option.some.inj h
        subst h
        exact hret () dX5_lastRing_16 rfl hw
  unfold M_X5_lastRing at h
  refine lv_bipush (v := 9) hx hb dX5_lastRing_0 (by decide) ?_
  refine lv_istore_n (lv' := [(1, .int (9 : Int32)), (0, .int p1)]) hx hb dX5_lastRing_2 rfl hl (by decide) rfl (fun ls hl => ?_)
  exact L3 N _ h _ _ _ hw (lv_sub hl [1, 0] rfl)
theorem kM_X5_bitByNumber : kM yX5_bitByNumber cX5_bitByNumber 4 (some FieldType.int) 2 := ⟨kc_X5_bitByNumber, kn_RingsOff, by decide +kernel⟩
abbrev R_X5_bitByNumber : Room := { frames := 1, cells := 0, slots := 0, locals := 21 }
set_option maxHeartbeats 4000000 in
set_option maxRecDepth 100000 in
theorem c_X5_bitByNumber (l : Launch) {N : Nat} {p1 : Int32} {p2 : Int32} {out : Int32} (h : M_X5_bitByNumber N p1 p2 = some out) : gM l yX5_bitByNumber cX5_bitByNumber 4 (some FieldType.int) R_X5_bitByNumber (fun _ => [.int p1, .int p2]) (fun g => []) (gQi (fun (_ : Unit) => out) (fun g (_ : Unit) => [])) := by
  refine gM.ofi (by decide +kernel) (fun _ => Nat.le_of_ble_eq_true rfl) (fun g p e s m args below meth c A ls Q X hret hw hl => ?_)
  have hx := X.1.1
  have hb := X.1.2.1
  have hl : lv_has ls 4 [(0, .int p1), (1, .int p2)] := hl
  have L4 : ∀ (n : Nat) (z4 : Int32 × Int32), lp (M_X5_bitByNumber_l4 N p1 p2) n z4 = some out → ∀ (H : Heap) (locs : List Loc) (ls : Array Slot), gW g A s.heap [] H locs → lv_has ls 4 [(0, .int p1), (2, .int z4.1), (3, .int z4.2)] → W p l e R_X5_bitByNumber s m args below meth c H locs 0 0 Q (F0 m 4 ls []) := by
    refine lp_ind ?_
    intro rec4 ih4
    have J27 : ∀ (z27 : Int32 × Int32), M_X5_bitByNumber_j27 N p1 p2 rec4 z27 = some out → ∀ (H : Heap) (locs : List Loc) (ls : Array Slot), gW g A s.heap [] H locs → lv_has ls 4 [(0, .int p1), (2, .int z27.1), (3, .int z27.2)] → W p l e R_X5_bitByNumber s m args below meth c H locs 0 0 Q (F0 m 27 ls []) := by
      intro z27 h H locs ls hw hl
      unfold M_X5_bitByNumber_j27 at h
      refine lv_iinc (v := (z27.2 + 1)) (lv' := [(3, .int (z27.2 + 1)), (0, .int p1), (2, .int z27.1)]) hx hb dX5_bitByNumber_27 hl (k := 2) rfl rfl (by decide) rfl (fun ls hl => ?_)
      refine lv_goto (tgt := 4) hx hb dX5_bitByNumber_30 (by decide) ?_
      exact ih4 _ h _ _ _ hw (lv_sub hl [1, 2, 0] rfl)
    intro z4 h H locs ls hw hl
    unfold M_X5_bitByNumber_l4 at h
    refine lv_iload_n hx hb dX5_bitByNumber_4 rfl (lv_at hl 2 rfl) ?_
    refine lv_bipush (v := 20) hx hb dX5_bitByNumber_5 (by decide) ?_
    refine lv_icmp_gt (tgt := 33) hx hb dX5_bitByNumber_7 (by decide) (fun k7 => ?_) (fun k7 => ?_)
    · have h := itt k7 h
      refine lv_iconst (v := -1) hx hb dX5_bitByNumber_33 (by decide) ?_
      have h := Option.some.inj h
      subst h
      exact hret () dX5_bitByNumber_34 rfl hw
    · have h := itf k7 h
      refine lv_iload_n hx hb dX5_bitByNumber_10 rfl (lv_at hl 0 rfl) ?_
      refine lv_iload_n hx hb dX5_bitByNumber_11 rfl (lv_at hl 2 rfl) ?_
      obtain ⟨r12, h12, h⟩ := bnd h
      refine g_calli0 (isC := []) (gn := fun _ => []) (g_runS (isC := []) (rest := []) (As := [.int p1, .int z4.2]) X hw (c_X5_hasBit l h12) rfl kM_X5_hasBit kt_X5_hasBit km_X5_223 ⟨(Nat.le_of_ble_eq_true rfl), (Nat.le_of_ble_eq_true rfl)⟩ ⟨(Nat.le_of_ble_eq_true rfl), (Nat.le_of_ble_eq_true rfl)⟩ rfl rfl rfl hl.1 rfl (Nat.le_of_ble_eq_true rfl) dX5_bitByNumber_12) hw rfl rfl (fun _ => (Nat.le_of_ble_eq_true rfl)) (fun _ => rfl) rfl rfl (fun _ H locs hw => ?_)
      refine lv_if_eq (tgt := 27) hx hb dX5_bitByNumber_15 (by decide) (fun k15 => ?_) (fun k15 => ?_)
      · have h := itt k15 h
        exact J27 _ h _ _ _ hw (lv_sub hl [0, 1, 2] rfl)
      · have h := itf k15 h
        refine lv_iload_n hx hb dX5_bitByNumber_18 rfl (lv_at hl 1 rfl) ?_
        refine lv_if_ne (tgt := 24) hx hb dX5_bitByNumber_19 (by decide) (fun k19 => ?_) (fun k19 => ?_)
        · have h := itt k19 h
          obtain ⟨y24, e24⟩ : ∃ y : Int32, y = (z4.1 + (-1)) := ⟨_, rfl⟩
          try rw [← e24] at h
          refine lv_iinc (v := y24) (lv' := [(2, .int y24), (0, .int p1), (3, .int z4.2)]) hx hb dX5_bitByNumber_24 hl (k := 1) rfl (by rw [ofI_m1, e24]) (by decide) rfl (fun ls hl => ?_)
          exact J27 _ h _ _ _ hw (lv_sub hl [1, 0, 2] rfl)
        · have h := itf (fun z => z k19) h
          refine lv_iload_n hx hb dX5_bitByNumber_22 rfl (lv_at hl 2 rfl) ?_
          have h := Option.some.inj h
          subst h
          exact hret () dX5_bitByNumber_23 rfl hw
  unfold M_X5_bitByNumber at h
  refine lv_iload_n hx hb dX5_bitByNumber_0 rfl (lv_at hl 1 rfl) ?_
  refine lv_istore_n (lv' := [(2, .int p2), (0, .int p1), (1, .int p2)]) hx hb dX5_bitByNumber_1 rfl hl (by decide) rfl (fun ls hl => ?_)
  refine lv_iconst (v := 0) hx hb dX5_bitByNumber_2 (by decide) ?_
  refine lv_istore_n (lv' := [(3, .int (0 : Int32)), (2, .int p2), (0, .int p1), (1, .int p2)]) hx hb dX5_bitByNumber_3 rfl hl (by decide) rfl (fun ls hl => ?_)
  exact L4 N _ h _ _ _ hw (lv_sub hl [2, 1, 0] rfl)
theorem kM_J6_numberOfLeadingZeros_0f7a4 : kM yJ6_numberOfLeadingZeros_0f7a4 cJ6_numberOfLeadingZeros_0f7a4 2 (some FieldType.int) 1 := ⟨kc_J6_numberOfLeadingZeros_0f7a4, kn_java_lang_Integer, by decide +kernel⟩
abbrev R_J6_numberOfLeadingZeros_0f7a4 : Room := { frames := 0, cells := 0, slots := 0, locals := 0 }
set_option maxHeartbeats 4000000 in
set_option maxRecDepth 100000 in
theorem c_J6_numberOfLeadingZeros_0f7a4 (l : Launch) {N : Nat} {p1 : Int32} {out : Int32} (h : M_J6_numberOfLeadingZeros_0f7a4 N p1 = some out) : gM l yJ6_numberOfLeadingZeros_0f7a4 cJ6_numberOfLeadingZeros_0f7a4 2 (some FieldType.int) R_J6_numberOfLeadingZeros_0f7a4 (fun _ => [.int p1]) (fun g => []) (gQi (fun (_ : Unit) => out) (fun g (_ : Unit) => [])) := by
  refine gM.ofi (by decide +kernel) (fun _ => Nat.le_of_ble_eq_true rfl) (fun g p e s m args below meth c A ls Q X hret hw hl => ?_)
  have hx := X.1.1
  have hb := X.1.2.1
  have hl : lv_has ls 2 [(0, .int p1)] := hl
  have J73 : ∀ (z73 : Int32 × Int32), M_J6_numberOfLeadingZeros_0f7a4_j73 N z73 = some out → ∀ (H : Heap) (locs : List Loc) (ls : Array Slot), gW g A s.heap [] H locs → lv_has ls 2 [(0, .int z73.1), (1, .int z73.2)] → W p l e R_J6_numberOfLeadingZeros_0f7a4 s m args below meth c H locs 0 0 Q (F0 m 73 ls []) := by
    intro z73 h H locs ls hw hl
    unfold M_J6_numberOfLeadingZeros_0f7a4_j73 at h
    refine lv_iload_n hx hb dJ6_numberOfLeadingZeros_0f7a4_73 rfl (lv_at hl 1 rfl) ?_
    refine lv_iload_n hx hb dJ6_numberOfLeadingZeros_0f7a4_74 rfl (lv_at hl 0 rfl) ?_
    refine lv_iconst (v := 1) hx hb dJ6_numberOfLeadingZeros_0f7a4_75 (by decide) ?_
    refine lv_iushr (v := (jushr z73.1 (1 : Int32))) hx hb dJ6_numberOfLeadingZeros_0f7a4_76 rfl ?_
    refine lv_isub hx hb dJ6_numberOfLeadingZeros_0f7a4_77 ?_
    have h := Option.some.inj h
    subst h
    exact hret () dJ6_numberOfLeadingZeros_0f7a4_78 rfl hw
  have J61 : ∀ (z61 : Int32 × Int32), M_J6_numberOfLeadingZeros_0f7a4_j61 N z61 = some out → ∀ (H : Heap) (locs : List Loc) (ls : Array Slot), gW g A s.heap [] H locs → lv_has ls 2 [(0, .int z61.1), (1, .int z61.2)] → W p l e R_J6_numberOfLeadingZeros_0f7a4 s m args below meth c H locs 0 0 Q (F0 m 61 ls []) := by
    intro z61 h H locs ls hw hl
    unfold M_J6_numberOfLeadingZeros_0f7a4_j61 at h
    refine lv_iload_n hx hb dJ6_numberOfLeadingZeros_0f7a4_61 rfl (lv_at hl 0 rfl) ?_
    refine lv_iconst (v := 4) hx hb dJ6_numberOfLeadingZeros_0f7a4_62 (by decide) ?_
    refine lv_icmp_lt (tgt := 73) hx hb dJ6_numberOfLeadingZeros_0f7a4_63 (by decide) (fun k63 => ?_) (fun k63 => ?_)
    · have h := itt k63 h
      exact J73 _ h _ _ _ hw (lv_sub hl [0, 1] rfl)
    · have h := itf k63 h
      refine lv_iinc (v := (z61.2 + (-2))) (lv' := [(1, .int (z61.2 + (-2))), (0, .int z61.1)]) hx hb dJ6_numberOfLeadingZeros_0f7a4_66 hl (k := 1) rfl rfl (by decide) rfl (fun ls hl => ?_)
      refine lv_iload_n hx hb dJ6_numberOfLeadingZeros_0f7a4_69 rfl (lv_at hl 1 rfl) ?_
      refine lv_iconst (v := 2) hx hb dJ6_numberOfLeadingZeros_0f7a4_70 (by decide) ?_
      refine lv_iushr (v := (jushr z61.1 (2 : Int32))) hx hb dJ6_numberOfLeadingZeros_0f7a4_71 rfl ?_
      refine lv_istore_n (lv' := [(0, .int (jushr z61.1 (2 : Int32))), (1, .int (z61.2 + (-2)))]) hx hb dJ6_numberOfLeadingZeros_0f7a4_72 rfl hl (by decide) rfl (fun ls hl => ?_)
      exact J73 _ h _ _ _ hw (lv_sub hl [0, 1] rfl)
  have J48 : ∀ (z48 : Int32 × Int32), M_J6_numberOfLeadingZeros_0f7a4_j48 N z48 = some out → ∀ (H : Heap) (locs : List Loc) (ls : Array Slot), gW g A s.heap [] H locs → lv_has ls 2 [(0, .int z48.1), (1, .int z48.2)] → W p l e R_J6_numberOfLeadingZeros_0f7a4 s m args below meth c H locs 0 0 Q (F0 m 48 ls []) := by
    intro z48 h H locs ls hw hl
    unfold M_J6_numberOfLeadingZeros_0f7a4_j48 at h
    refine lv_iload_n hx hb dJ6_numberOfLeadingZeros_0f7a4_48 rfl (lv_at hl 0 rfl) ?_
    refine lv_bipush (v := 16) hx hb dJ6_numberOfLeadingZeros_0f7a4_49 (by decide) ?_
    refine lv_icmp_lt (tgt := 61) hx hb dJ6_numberOfLeadingZeros_0f7a4_51 (by decide) (fun k51 => ?_) (fun k51 => ?_)
    · have h := itt k51 h
      exact J61 _ h _ _ _ hw (lv_sub hl [0, 1] rfl)
    · have h := itf k51 h
      refine lv_iinc (v := (z48.2 + (-4))) (lv' := [(1, .int (z48.2 + (-4))), (0, .int z48.1)]) hx hb dJ6_numberOfLeadingZeros_0f7a4_54 hl (k := 1) rfl rfl (by decide) rfl (fun ls hl => ?_)
      refine lv_iload_n hx hb dJ6_numberOfLeadingZeros_0f7a4_57 rfl (lv_at hl 1 rfl) ?_
      refine lv_iconst (v := 4) hx hb dJ6_numberOfLeadingZeros_0f7a4_58 (by decide) ?_
      refine lv_iushr (v := (jushr z48.1 (4 : Int32))) hx hb dJ6_numberOfLeadingZeros_0f7a4_59 rfl ?_
      refine lv_istore_n (lv' := [(0, .int (jushr z48.1 (4 : Int32))), (1, .int (z48.2 + (-4)))]) hx hb dJ6_numberOfLeadingZeros_0f7a4_60 rfl hl (by decide) rfl (fun ls hl => ?_)
      exact J61 _ h _ _ _ hw (lv_sub hl [0, 1] rfl)
  have J33 : ∀ (z33 : Int32 × Int32), M_J6_numberOfLeadingZeros_0f7a4_j33 N z33 = some out → ∀ (H : Heap) (locs : List Loc) (ls : Array Slot), gW g A s.heap [] H locs → lv_has ls 2 [(0, .int z33.1), (1, .int z33.2)] → W p l e R_J6_numberOfLeadingZeros_0f7a4 s m args below meth c H locs 0 0 Q (F0 m 33 ls []) := by
    intro z33 h H locs ls hw hl
    unfold M_J6_numberOfLeadingZeros_0f7a4_j33 at h
    refine lv_iload_n hx hb dJ6_numberOfLeadingZeros_0f7a4_33 rfl (lv_at hl 0 rfl) ?_
    refine lv_sipush (v := 256) hx hb dJ6_numberOfLeadingZeros_0f7a4_34 (by decide) ?_
    refine lv_icmp_lt (tgt := 48) hx hb dJ6_numberOfLeadingZeros_0f7a4_37 (by decide) (fun k37 => ?_) (fun k37 => ?_)
    · have h := itt k37 h
      exact J48 _ h _ _ _ hw (lv_sub hl [0, 1] rfl)
    · have h := itf k37 h
      refine lv_iinc (v := (z33.2 + (-8))) (lv' := [(1, .int (z33.2 + (-8))), (0, .int z33.1)]) hx hb dJ6_numberOfLeadingZeros_0f7a4_40 hl (k := 1) rfl rfl (by decide) rfl (fun ls hl => ?_)
      refine lv_iload_n hx hb dJ6_numberOfLeadingZeros_0f7a4_43 rfl (lv_at hl 1 rfl) ?_
      refine lv_bipush (v := 8) hx hb dJ6_numberOfLeadingZeros_0f7a4_44 (by decide) ?_
      refine lv_iushr (v := (jushr z33.1 (8 : Int32))) hx hb dJ6_numberOfLeadingZeros_0f7a4_46 rfl ?_
      refine lv_istore_n (lv' := [(0, .int (jushr z33.1 (8 : Int32))), (1, .int (z33.2 + (-8)))]) hx hb dJ6_numberOfLeadingZeros_0f7a4_47 rfl hl (by decide) rfl (fun ls hl => ?_)
      exact J48 _ h _ _ _ hw (lv_sub hl [0, 1] rfl)
  unfold M_J6_numberOfLeadingZeros_0f7a4 at h
  refine lv_iload_n hx hb dJ6_numberOfLeadingZeros_0f7a4_0 rfl (lv_at hl 0 rfl) ?_
  refine lv_if_gt (tgt := 15) hx hb dJ6_numberOfLeadingZeros_0f7a4_1 (by decide) (fun k1 => ?_) (fun k1 => ?_)
  · have h := itt k1 h
    refine lv_bipush (v := 31) hx hb dJ6_numberOfLeadingZeros_0f7a4_15 (by decide) ?_
    refine lv_istore_n (lv' := [(1, .int (31 : Int32)), (0, .int p1)]) hx hb dJ6_numberOfLeadingZeros_0f7a4_17 rfl hl (by decide) rfl (fun ls hl => ?_)
    refine lv_iload_n hx hb dJ6_numberOfLeadingZeros_0f7a4_18 rfl (lv_at hl 1 rfl) ?_
    refine lv_ldcw hx hb X.1.2.2.2.1 (gK1 X _ kq_J6_264) dJ6_numberOfLeadingZeros_0f7a4_19 ?_
    refine lv_icmp_lt (tgt := 33) hx hb dJ6_numberOfLeadingZeros_0f7a4_22 (by decide) (fun k22 => ?_) (fun k22 => ?_)
    · have h := itt k22 h
      exact J33 _ h _ _ _ hw (lv_sub hl [1, 0] rfl)
    · have h := itf k22 h
      refine lv_iinc (v := ((31 : Int32) + (-16))) (lv' := [(1, .int ((31 : Int32) + (-16))), (0, .int p1)]) hx hb dJ6_numberOfLeadingZeros_0f7a4_25 hl (k := 0) rfl rfl (by decide) rfl (fun ls hl => ?_)
      refine lv_iload_n hx hb dJ6_numberOfLeadingZeros_0f7a4_28 rfl (lv_at hl 1 rfl) ?_
      refine lv_bipush (v := 16) hx hb dJ6_numberOfLeadingZeros_0f7a4_29 (by decide) ?_
      refine lv_iushr (v := (jushr p1 (16 : Int32))) hx hb dJ6_numberOfLeadingZeros_0f7a4_31 rfl ?_
      refine lv_istore_n (lv' := [(0, .int (jushr p1 (16 : Int32))), (1, .int ((31 : Int32) + (-16)))]) hx hb dJ6_numberOfLeadingZeros_0f7a4_32 rfl hl (by decide) rfl (fun ls hl => ?_)
      exact J33 _ h _ _ _ hw (lv_sub hl [0, 1] rfl)
  · have h := itf k1 h
    refine lv_iload_n hx hb dJ6_numberOfLeadingZeros_0f7a4_4 rfl (lv_at hl 0 rfl) ?_
    refine lv_if_ne (tgt := 13) hx hb dJ6_numberOfLeadingZeros_0f7a4_5 (by decide) (fun k5 => ?_) (fun k5 => ?_)
    · have h := itt k5 h
      refine lv_iconst (v := 0) hx hb dJ6_numberOfLeadingZeros_0f7a4_13 (by decide) ?_
      have h := Option.some.inj h
      subst h
      exact hret () dJ6_numberOfLeadingZeros_0f7a4_14 rfl hw
    · have h := itf (fun z => z k5) h
      refine lv_bipush (v := 32) hx hb dJ6_numberOfLeadingZeros_0f7a4_8 (by decide) ?_
      refine lv_goto (tgt := 14) hx hb dJ6_numberOfLeadingZeros_0f7a4_10 (by decide) ?_
      have h := Option.some.inj h
      subst h
      exact hret () dJ6_numberOfLeadingZeros_0f7a4_14 rfl hw
theorem kM_J6_numberOfTrailingZeros_0f7a4 : kM yJ6_numberOfTrailingZeros_0f7a4 cJ6_numberOfTrailingZeros_0f7a4 2 (some FieldType.int) 1 := ⟨kc_J6_numberOfTrailingZeros_0f7a4, kn_java_lang_Integer, by decide +kernel⟩
abbrev R_J6_numberOfTrailingZeros_0f7a4 : Room := { frames := 0, cells := 0, slots := 0, locals := 0 }
set_option maxHeartbeats 4000000 in
set_option maxRecDepth 100000 in
theorem c_J6_numberOfTrailingZeros_0f7a4 (l : Launch) {N : Nat} {p1 : Int32} {out : Int32} (h : M_J6_numberOfTrailingZeros_0f7a4 N p1 = some out) : gM l yJ6_numberOfTrailingZeros_0f7a4 cJ6_numberOfTrailingZeros_0f7a4 2 (some FieldType.int) R_J6_numberOfTrailingZeros_0f7a4 (fun _ => [.int p1]) (fun g => []) (gQi (fun (_ : Unit) => out) (fun g (_ : Unit) => [])) := by
  refine gM.ofi (by decide +kernel) (fun _ => Nat.le_of_ble_eq_true rfl) (fun g p e s m args below meth c A ls Q X hret hw hl => ?_)
  have hx := X.1.1
  have hb := X.1.2.1
  have hl : lv_has ls 2 [(0, .int p1)] := hl
  have J74 : ∀ (z74 : Int32 × Int32), M_J6_numberOfTrailingZeros_0f7a4_j74 N z74 = some out → ∀ (H : Heap) (locs : List Loc) (ls : Array Slot), gW g A s.heap [] H locs → lv_has ls 2 [(0, .int z74.1), (1, .int z74.2)] → W p l e R_J6_numberOfTrailingZeros_0f7a4 s m args below meth c H locs 0 0 Q (F0 m 74 ls []) := by
    intro z74 h H locs ls hw hl
    unfold M_J6_numberOfTrailingZeros_0f7a4_j74 at h
    refine lv_iload_n hx hb dJ6_numberOfTrailingZeros_0f7a4_74 rfl (lv_at hl 1 rfl) ?_
    refine lv_iload_n hx hb dJ6_numberOfTrailingZeros_0f7a4_75 rfl (lv_at hl 0 rfl) ?_
    refine lv_iconst (v := 1) hx hb dJ6_numberOfTrailingZeros_0f7a4_76 (by decide) ?_
    refine lv_iushr (v := (jushr z74.1 (1 : Int32))) hx hb dJ6_numberOfTrailingZeros_0f7a4_77 rfl ?_
    refine lv_iadd hx hb dJ6_numberOfTrailingZeros_0f7a4_78 ?_
    have h := Option.some.inj h
    subst h
    exact hret () dJ6_numberOfTrailingZeros_0f7a4_79 rfl hw
  have J62 : ∀ (z62 : Int32 × Int32), M_J6_numberOfTrailingZeros_0f7a4_j62 N z62 = some out → ∀ (H : Heap) (locs : List Loc) (ls : Array Slot), gW g A s.heap [] H locs → lv_has ls 2 [(0, .int z62.1), (1, .int z62.2)] → W p l e R_J6_numberOfTrailingZeros_0f7a4 s m args below meth c H locs 0 0 Q (F0 m 62 ls []) := by
    intro z62 h H locs ls hw hl
    unfold M_J6_numberOfTrailingZeros_0f7a4_j62 at h
    refine lv_iload_n hx hb dJ6_numberOfTrailingZeros_0f7a4_62 rfl (lv_at hl 0 rfl) ?_
    refine lv_iconst (v := 4) hx hb dJ6_numberOfTrailingZeros_0f7a4_63 (by decide) ?_
    refine lv_icmp_le (tgt := 74) hx hb dJ6_numberOfTrailingZeros_0f7a4_64 (by decide) (fun k64 => ?_) (fun k64 => ?_)
    · have h := itt k64 h
      exact J74 _ h _ _ _ hw (lv_sub hl [0, 1] rfl)
    · have h := itf k64 h
      refine lv_iinc (v := (z62.2 + 2)) (lv' := [(1, .int (z62.2 + 2)), (0, .int z62.1)]) hx hb dJ6_numberOfTrailingZeros_0f7a4_67 hl (k := 1) rfl rfl (by decide) rfl (fun ls hl => ?_)
      refine lv_iload_n hx hb dJ6_numberOfTrailingZeros_0f7a4_70 rfl (lv_at hl 1 rfl) ?_
      refine lv_iconst (v := 2) hx hb dJ6_numberOfTrailingZeros_0f7a4_71 (by decide) ?_
      refine lv_iushr (v := (jushr z62.1 (2 : Int32))) hx hb dJ6_numberOfTrailingZeros_0f7a4_72 rfl ?_
      refine lv_istore_n (lv' := [(0, .int (jushr z62.1 (2 : Int32))), (1, .int (z62.2 + 2))]) hx hb dJ6_numberOfTrailingZeros_0f7a4_73 rfl hl (by decide) rfl (fun ls hl => ?_)
      exact J74 _ h _ _ _ hw (lv_sub hl [0, 1] rfl)
  have J49 : ∀ (z49 : Int32 × Int32), M_J6_numberOfTrailingZeros_0f7a4_j49 N z49 = some out → ∀ (H : Heap) (locs : List Loc) (ls : Array Slot), gW g A s.heap [] H locs → lv_has ls 2 [(0, .int z49.1), (1, .int z49.2)] → W p l e R_J6_numberOfTrailingZeros_0f7a4 s m args below meth c H locs 0 0 Q (F0 m 49 ls []) := by
    intro z49 h H locs ls hw hl
    unfold M_J6_numberOfTrailingZeros_0f7a4_j49 at h
    refine lv_iload_n hx hb dJ6_numberOfTrailingZeros_0f7a4_49 rfl (lv_at hl 0 rfl) ?_
    refine lv_bipush (v := 16) hx hb dJ6_numberOfTrailingZeros_0f7a4_50 (by decide) ?_
    refine lv_icmp_le (tgt := 62) hx hb dJ6_numberOfTrailingZeros_0f7a4_52 (by decide) (fun k52 => ?_) (fun k52 => ?_)
    · have h := itt k52 h
      exact J62 _ h _ _ _ hw (lv_sub hl [0, 1] rfl)
    · have h := itf k52 h
      refine lv_iinc (v := (z49.2 + 4)) (lv' := [(1, .int (z49.2 + 4)), (0, .int z49.1)]) hx hb dJ6_numberOfTrailingZeros_0f7a4_55 hl (k := 1) rfl rfl (by decide) rfl (fun ls hl => ?_)
      refine lv_iload_n hx hb dJ6_numberOfTrailingZeros_0f7a4_58 rfl (lv_at hl 1 rfl) ?_
      refine lv_iconst (v := 4) hx hb dJ6_numberOfTrailingZeros_0f7a4_59 (by decide) ?_
      refine lv_iushr (v := (jushr z49.1 (4 : Int32))) hx hb dJ6_numberOfTrailingZeros_0f7a4_60 rfl ?_
      refine lv_istore_n (lv' := [(0, .int (jushr z49.1 (4 : Int32))), (1, .int (z49.2 + 4))]) hx hb dJ6_numberOfTrailingZeros_0f7a4_61 rfl hl (by decide) rfl (fun ls hl => ?_)
      exact J62 _ h _ _ _ hw (lv_sub hl [0, 1] rfl)
  have J34 : ∀ (z34 : Int32 × Int32), M_J6_numberOfTrailingZeros_0f7a4_j34 N z34 = some out → ∀ (H : Heap) (locs : List Loc) (ls : Array Slot), gW g A s.heap [] H locs → lv_has ls 2 [(0, .int z34.1), (1, .int z34.2)] → W p l e R_J6_numberOfTrailingZeros_0f7a4 s m args below meth c H locs 0 0 Q (F0 m 34 ls []) := by
    intro z34 h H locs ls hw hl
    unfold M_J6_numberOfTrailingZeros_0f7a4_j34 at h
    refine lv_iload_n hx hb dJ6_numberOfTrailingZeros_0f7a4_34 rfl (lv_at hl 0 rfl) ?_
    refine lv_sipush (v := 256) hx hb dJ6_numberOfTrailingZeros_0f7a4_35 (by decide) ?_
    refine lv_icmp_le (tgt := 49) hx hb dJ6_numberOfTrailingZeros_0f7a4_38 (by decide) (fun k38 => ?_) (fun k38 => ?_)
    · have h := itt k38 h
      exact J49 _ h _ _ _ hw (lv_sub hl [0, 1] rfl)
    · have h := itf k38 h
      refine lv_iinc (v := (z34.2 + 8)) (lv' := [(1, .int (z34.2 + 8)), (0, .int z34.1)]) hx hb dJ6_numberOfTrailingZeros_0f7a4_41 hl (k := 1) rfl rfl (by decide) rfl (fun ls hl => ?_)
      refine lv_iload_n hx hb dJ6_numberOfTrailingZeros_0f7a4_44 rfl (lv_at hl 1 rfl) ?_
      refine lv_bipush (v := 8) hx hb dJ6_numberOfTrailingZeros_0f7a4_45 (by decide) ?_
      refine lv_iushr (v := (jushr z34.1 (8 : Int32))) hx hb dJ6_numberOfTrailingZeros_0f7a4_47 rfl ?_
      refine lv_istore_n (lv' := [(0, .int (jushr z34.1 (8 : Int32))), (1, .int (z34.2 + 8))]) hx hb dJ6_numberOfTrailingZeros_0f7a4_48 rfl hl (by decide) rfl (fun ls hl => ?_)
      exact J49 _ h _ _ _ hw (lv_sub hl [0, 1] rfl)
  unfold M_J6_numberOfTrailingZeros_0f7a4 at h
  refine lv_iload_n hx hb dJ6_numberOfTrailingZeros_0f7a4_0 rfl (lv_at hl 0 rfl) ?_
  refine lv_iconst (v := -1) hx hb dJ6_numberOfTrailingZeros_0f7a4_1 (by decide) ?_
  refine lv_ixor hx hb dJ6_numberOfTrailingZeros_0f7a4_2 ?_
  refine lv_iload_n hx hb dJ6_numberOfTrailingZeros_0f7a4_3 rfl (lv_at hl 0 rfl) ?_
  refine lv_iconst (v := 1) hx hb dJ6_numberOfTrailingZeros_0f7a4_4 (by decide) ?_
  refine lv_isub hx hb dJ6_numberOfTrailingZeros_0f7a4_5 ?_
  refine lv_iand hx hb dJ6_numberOfTrailingZeros_0f7a4_6 ?_
  refine lv_istore_n (lv' := [(0, .int ((p1 ^^^ (-1 : Int32)) &&& (p1 - (1 : Int32))))]) hx hb dJ6_numberOfTrailingZeros_0f7a4_7 rfl hl (by decide) rfl (fun ls hl => ?_)
  refine lv_iload_n hx hb dJ6_numberOfTrailingZeros_0f7a4_8 rfl (lv_at hl 0 rfl) ?_
  refine lv_if_gt (tgt := 17) hx hb dJ6_numberOfTrailingZeros_0f7a4_9 (by decide) (fun k9 => ?_) (fun k9 => ?_)
  · have h := itt k9 h
    refine lv_iconst (v := 1) hx hb dJ6_numberOfTrailingZeros_0f7a4_17 (by decide) ?_
    refine lv_istore_n (lv' := [(1, .int (1 : Int32)), (0, .int ((p1 ^^^ (-1 : Int32)) &&& (p1 - (1 : Int32))))]) hx hb dJ6_numberOfTrailingZeros_0f7a4_18 rfl hl (by decide) rfl (fun ls hl => ?_)
    refine lv_iload_n hx hb dJ6_numberOfTrailingZeros_0f7a4_19 rfl (lv_at hl 1 rfl) ?_
    refine lv_ldcw hx hb X.1.2.2.2.1 (gK1 X _ kq_J6_264) dJ6_numberOfTrailingZeros_0f7a4_20 ?_
    refine lv_icmp_le (tgt := 34) hx hb dJ6_numberOfTrailingZeros_0f7a4_23 (by decide) (fun k23 => ?_) (fun k23 => ?_)
    · have h := itt k23 h
      exact J34 _ h _ _ _ hw (lv_sub hl [1, 0] rfl)
    · have h := itf k23 h
      refine lv_iinc (v := ((1 : Int32) + 16)) (lv' := [(1, .int ((1 : Int32) + 16)), (0, .int ((p1 ^^^ (-1 : Int32)) &&& (p1 - (1 : Int32))))]) hx hb dJ6_numberOfTrailingZeros_0f7a4_26 hl (k := 0) rfl rfl (by decide) rfl (fun ls hl => ?_)
      refine lv_iload_n hx hb dJ6_numberOfTrailingZeros_0f7a4_29 rfl (lv_at hl 1 rfl) ?_
      refine lv_bipush (v := 16) hx hb dJ6_numberOfTrailingZeros_0f7a4_30 (by decide) ?_
      refine lv_iushr (v := (jushr ((p1 ^^^ (-1 : Int32)) &&& (p1 - (1 : Int32))) (16 : Int32))) hx hb dJ6_numberOfTrailingZeros_0f7a4_32 rfl ?_
      refine lv_istore_n (lv' := [(0, .int (jushr ((p1 ^^^ (-1 : Int32)) &&& (p1 - (1 : Int32))) (16 : Int32))), (1, .int ((1 : Int32) + 16))]) hx hb dJ6_numberOfTrailingZeros_0f7a4_33 rfl hl (by decide) rfl (fun ls hl => ?_)
      exact J34 _ h _ _ _ hw (lv_sub hl [0, 1] rfl)
  · have h := itf k9 h
    refine lv_iload_n hx hb dJ6_numberOfTrailingZeros_0f7a4_12 rfl (lv_at hl 0 rfl) ?_
    refine lv_bipush (v := 32) hx hb dJ6_numberOfTrailingZeros_0f7a4_13 (by decide) ?_
    refine lv_iand hx hb dJ6_numberOfTrailingZeros_0f7a4_15 ?_
    have h := Option.some.inj h
    subst h
    exact hret () dJ6_numberOfTrailingZeros_0f7a4_16 rfl hw
theorem kM_J6_bitCount_0f7a4 : kM yJ6_bitCount_0f7a4 cJ6_bitCount_0f7a4 1 (some FieldType.int) 1 := ⟨kc_J6_bitCount_0f7a4, kn_java_lang_Integer, by decide +kernel⟩
abbrev R_J6_bitCount_0f7a4 : Room := { frames := 0, cells := 0, slots := 0, locals := 0 }
set_option maxHeartbeats 4000000 in
set_option maxRecDepth 100000 in
theorem c_J6_bitCount_0f7a4 (l : Launch) {N : Nat} {p1 : Int32} {out : Int32} (h : M_J6_bitCount_0f7a4 N p1 = some out) : gM l yJ6_bitCount_0f7a4 cJ6_bitCount_0f7a4 1 (some FieldType.int) R_J6_bitCount_0f7a4 (fun _ => [.int p1]) (fun g => []) (gQi (fun (_ : Unit) => out) (fun g (_ : Unit) => [])) := by
  refine gM.ofi (by decide +kernel) (fun _ => Nat.le_of_ble_eq_true rfl) (fun g p e s m args below meth c A ls Q X hret hw hl => ?_)
  have hx := X.1.1
  have hb := X.1.2.1
  have hl : lv_has ls 1 [(0, .int p1)] := hl
  unfold M_J6_bitCount_0f7a4 at h
  refine lv_iload_n hx hb dJ6_bitCount_0f7a4_0 rfl (lv_at hl 0 rfl) ?_
  refine lv_iload_n hx hb dJ6_bitCount_0f7a4_1 rfl (lv_at hl 0 rfl) ?_
  refine lv_iconst (v := 1) hx hb dJ6_bitCount_0f7a4_2 (by decide) ?_
  refine lv_iushr (v := (jushr p1 (1 : Int32))) hx hb dJ6_bitCount_0f7a4_3 rfl ?_
  refine lv_ldcw hx hb X.1.2.2.2.1 (gK1 X _ kq_J6_265) dJ6_bitCount_0f7a4_4 ?_
  refine lv_iand hx hb dJ6_bitCount_0f7a4_7 ?_
  refine lv_isub hx hb dJ6_bitCount_0f7a4_8 ?_
  refine lv_istore_n (lv' := [(0, .int (p1 - ((jushr p1 (1 : Int32)) &&& (1431655765 : Int32))))]) hx hb dJ6_bitCount_0f7a4_9 rfl hl (by decide) rfl (fun ls hl => ?_)
  refine lv_iload_n hx hb dJ6_bitCount_0f7a4_10 rfl (lv_at hl 0 rfl) ?_
  refine lv_ldcw hx hb X.1.2.2.2.1 (gK1 X _ kq_J6_266) dJ6_bitCount_0f7a4_11 ?_
  refine lv_iand hx hb dJ6_bitCount_0f7a4_14 ?_
  refine lv_iload_n hx hb dJ6_bitCount_0f7a4_15 rfl (lv_at hl 0 rfl) ?_
  refine lv_iconst (v := 2) hx hb dJ6_bitCount_0f7a4_16 (by decide) ?_
  refine lv_iushr (v := (jushr (p1 - ((jushr p1 (1 : Int32)) &&& (1431655765 : Int32))) (2 : Int32))) hx hb dJ6_bitCount_0f7a4_17 rfl ?_
  refine lv_ldcw hx hb X.1.2.2.2.1 (gK1 X _ kq_J6_266) dJ6_bitCount_0f7a4_18 ?_
  refine lv_iand hx hb dJ6_bitCount_0f7a4_21 ?_
  refine lv_iadd hx hb dJ6_bitCount_0f7a4_22 ?_
  refine lv_istore_n (lv' := [(0, .int (((p1 - ((jushr p1 (1 : Int32)) &&& (1431655765 : Int32))) &&& (858993459 : Int32)) + ((jushr (p1 - ((jushr p1 (1 : Int32)) &&& (1431655765 : Int32))) (2 : Int32)) &&& (858993459 : Int32))))]) hx hb dJ6_bitCount_0f7a4_23 rfl hl (by decide) rfl (fun ls hl => ?_)
  refine lv_iload_n hx hb dJ6_bitCount_0f7a4_24 rfl (lv_at hl 0 rfl) ?_
  refine lv_iload_n hx hb dJ6_bitCount_0f7a4_25 rfl (lv_at hl 0 rfl) ?_
  refine lv_iconst (v := 4) hx hb dJ6_bitCount_0f7a4_26 (by decide) ?_
  refine lv_iushr (v := (jushr (((p1 - ((jushr p1 (1 : Int32)) &&& (1431655765 : Int32))) &&& (858993459 : Int32)) + ((jushr (p1 - ((jushr p1 (1 : Int32)) &&& (1431655765 : Int32))) (2 : Int32)) &&& (858993459 : Int32))) (4 : Int32))) hx hb dJ6_bitCount_0f7a4_27 rfl ?_
  refine lv_iadd hx hb dJ6_bitCount_0f7a4_28 ?_
  refine lv_ldcw hx hb X.1.2.2.2.1 (gK1 X _ kq_J6_267) dJ6_bitCount_0f7a4_29 ?_
  refine lv_iand hx hb dJ6_bitCount_0f7a4_32 ?_
  refine lv_istore_n (lv' := [(0, .int (((((p1 - ((jushr p1 (1 : Int32)) &&& (1431655765 : Int32))) &&& (858993459 : Int32)) + ((jushr (p1 - ((jushr p1 (1 : Int32)) &&& (1431655765 : Int32))) (2 : Int32)) &&& (858993459 : Int32))) + (jushr (((p1 - ((jushr p1 (1 : Int32)) &&& (1431655765 : Int32))) &&& (858993459 : Int32)) + ((jushr (p1 - ((jushr p1 (1 : Int32)) &&& (1431655765 : Int32))) (2 : Int32)) &&& (858993459 : Int32))) (4 : Int32))) &&& (252645135 : Int32)))]) hx hb dJ6_bitCount_0f7a4_33 rfl hl (by decide) rfl (fun ls hl => ?_)
  refine lv_iload_n hx hb dJ6_bitCount_0f7a4_34 rfl (lv_at hl 0 rfl) ?_
  refine lv_iload_n hx hb dJ6_bitCount_0f7a4_35 rfl (lv_at hl 0 rfl) ?_
  refine lv_bipush (v := 8) hx hb dJ6_bitCount_0f7a4_36 (by decide) ?_
  refine lv_iushr (v := (jushr (((((p1 - ((jushr p1 (1 : Int32)) &&& (1431655765 : Int32))) &&& (858993459 : Int32)) + ((jushr (p1 - ((jushr p1 (1 : Int32)) &&& (1431655765 : Int32))) (2 : Int32)) &&& (858993459 : Int32))) + (jushr (((p1 - ((jushr p1 (1 : Int32)) &&& (1431655765 : Int32))) &&& (858993459 : Int32)) + ((jushr (p1 - ((jushr p1 (1 : Int32)) &&& (1431655765 : Int32))) (2 : Int32)) &&& (858993459 : Int32))) (4 : Int32))) &&& (252645135 : Int32)) (8 : Int32))) hx hb dJ6_bitCount_0f7a4_38 rfl ?_
  refine lv_iadd hx hb dJ6_bitCount_0f7a4_39 ?_
  refine lv_istore_n (lv' := [(0, .int ((((((p1 - ((jushr p1 (1 : Int32)) &&& (1431655765 : Int32))) &&& (858993459 : Int32)) + ((jushr (p1 - ((jushr p1 (1 : Int32)) &&& (1431655765 : Int32))) (2 : Int32)) &&& (858993459 : Int32))) + (jushr (((p1 - ((jushr p1 (1 : Int32)) &&& (1431655765 : Int32))) &&& (858993459 : Int32)) + ((jushr (p1 - ((jushr p1 (1 : Int32)) &&& (1431655765 : Int32))) (2 : Int32)) &&& (858993459 : Int32))) (4 : Int32))) &&& (252645135 : Int32)) + (jushr (((((p1 - ((jushr p1 (1 : Int32)) &&& (1431655765 : Int32))) &&& (858993459 : Int32)) + ((jushr (p1 - ((jushr p1 (1 : Int32)) &&& (1431655765 : Int32))) (2 : Int32)) &&& (858993459 : Int32))) + (jushr (((p1 - ((jushr p1 (1 : Int32)) &&& (1431655765 : Int32))) &&& (858993459 : Int32)) + ((jushr (p1 - ((jushr p1 (1 : Int32)) &&& (1431655765 : Int32))) (2 : Int32)) &&& (858993459 : Int32))) (4 : Int32))) &&& (252645135 : Int32)) (8 : Int32))))]) hx hb dJ6_bitCount_0f7a4_40 rfl hl (by decide) rfl (fun ls hl => ?_)
  refine lv_iload_n hx hb dJ6_bitCount_0f7a4_41 rfl (lv_at hl 0 rfl) ?_
  refine lv_iload_n hx hb dJ6_bitCount_0f7a4_42 rfl (lv_at hl 0 rfl) ?_
  refine lv_bipush (v := 16) hx hb dJ6_bitCount_0f7a4_43 (by decide) ?_
  refine lv_iushr (v := (jushr ((((((p1 - ((jushr p1 (1 : Int32)) &&& (1431655765 : Int32))) &&& (858993459 : Int32)) + ((jushr (p1 - ((jushr p1 (1 : Int32)) &&& (1431655765 : Int32))) (2 : Int32)) &&& (858993459 : Int32))) + (jushr (((p1 - ((jushr p1 (1 : Int32)) &&& (1431655765 : Int32))) &&& (858993459 : Int32)) + ((jushr (p1 - ((jushr p1 (1 : Int32)) &&& (1431655765 : Int32))) (2 : Int32)) &&& (858993459 : Int32))) (4 : Int32))) &&& (252645135 : Int32)) + (jushr (((((p1 - ((jushr p1 (1 : Int32)) &&& (1431655765 : Int32))) &&& (858993459 : Int32)) + ((jushr (p1 - ((jushr p1 (1 : Int32)) &&& (1431655765 : Int32))) (2 : Int32)) &&& (858993459 : Int32))) + (jushr (((p1 - ((jushr p1 (1 : Int32)) &&& (1431655765 : Int32))) &&& (858993459 : Int32)) + ((jushr (p1 - ((jushr p1 (1 : Int32)) &&& (1431655765 : Int32))) (2 : Int32)) &&& (858993459 : Int32))) (4 : Int32))) &&& (252645135 : Int32)) (8 : Int32))) (16 : Int32))) hx hb dJ6_bitCount_0f7a4_45 rfl ?_
  refine lv_iadd hx hb dJ6_bitCount_0f7a4_46 ?_
  refine lv_istore_n (lv' := [(0, .int (((((((p1 - ((jushr p1 (1 : Int32)) &&& (1431655765 : Int32))) &&& (858993459 : Int32)) + ((jushr (p1 - ((jushr p1 (1 : Int32)) &&& (1431655765 : Int32))) (2 : Int32)) &&& (858993459 : Int32))) + (jushr (((p1 - ((jushr p1 (1 : Int32)) &&& (1431655765 : Int32))) &&& (858993459 : Int32)) + ((jushr (p1 - ((jushr p1 (1 : Int32)) &&& (1431655765 : Int32))) (2 : Int32)) &&& (858993459 : Int32))) (4 : Int32))) &&& (252645135 : Int32)) + (jushr (((((p1 - ((jushr p1 (1 : Int32)) &&& (1431655765 : Int32))) &&& (858993459 : Int32)) + ((jushr (p1 - ((jushr p1 (1 : Int32)) &&& (1431655765 : Int32))) (2 : Int32)) &&& (858993459 : Int32))) + (jushr (((p1 - ((jushr p1 (1 : Int32)) &&& (1431655765 : Int32))) &&& (858993459 : Int32)) + ((jushr (p1 - ((jushr p1 (1 : Int32)) &&& (1431655765 : Int32))) (2 : Int32)) &&& (858993459 : Int32))) (4 : Int32))) &&& (252645135 : Int32)) (8 : Int32))) + (jushr ((((((p1 - ((jushr p1 (1 : Int32)) &&& (1431655765 : Int32))) &&& (858993459 : Int32)) + ((jushr (p1 - ((jushr p1 (1 : Int32)) &&& (1431655765 : Int32))) (2 : Int32)) &&& (858993459 : Int32))) + (jushr (((p1 - ((jushr p1 (1 : Int32)) &&& (1431655765 : Int32))) &&& (858993459 : Int32)) + ((jushr (p1 - ((jushr p1 (1 : Int32)) &&& (1431655765 : Int32))) (2 : Int32)) &&& (858993459 : Int32))) (4 : Int32))) &&& (252645135 : Int32)) + (jushr (((((p1 - ((jushr p1 (1 : Int32)) &&& (1431655765 : Int32))) &&& (858993459 : Int32)) + ((jushr (p1 - ((jushr p1 (1 : Int32)) &&& (1431655765 : Int32))) (2 : Int32)) &&& (858993459 : Int32))) + (jushr (((p1 - ((jushr p1 (1 : Int32)) &&& (1431655765 : Int32))) &&& (858993459 : Int32)) + ((jushr (p1 - ((jushr p1 (1 : Int32)) &&& (1431655765 : Int32))) (2 : Int32)) &&& (858993459 : Int32))) (4 : Int32))) &&& (252645135 : Int32)) (8 : Int32))) (16 : Int32))))]) hx hb dJ6_bitCount_0f7a4_47 rfl hl (by decide) rfl (fun ls hl => ?_)
  refine lv_iload_n hx hb dJ6_bitCount_0f7a4_48 rfl (lv_at hl 0 rfl) ?_
  refine lv_bipush (v := 63) hx hb dJ6_bitCount_0f7a4_49 (by decide) ?_
  refine lv_iand hx hb dJ6_bitCount_0f7a4_51 ?_
  have h := Option.some.inj h
  subst h
  exact hret () dJ6_bitCount_0f7a4_52 rfl hw
theorem kM_J6_highestOneBit_0f7a4 : kM yJ6_highestOneBit_0f7a4 cJ6_highestOneBit_0f7a4 1 (some FieldType.int) 1 := ⟨kc_J6_highestOneBit_0f7a4, kn_java_lang_Integer, by decide +kernel⟩
abbrev R_J6_highestOneBit_0f7a4 : Room := { frames := 1, cells := 0, slots := 0, locals := 21 }
set_option maxHeartbeats 4000000 in
set_option maxRecDepth 100000 in
theorem c_J6_highestOneBit_0f7a4 (l : Launch) {N : Nat} {p1 : Int32} {out : Int32} (h : M_J6_highestOneBit_0f7a4 N p1 = some out) : gM l yJ6_highestOneBit_0f7a4 cJ6_highestOneBit_0f7a4 1 (some FieldType.int) R_J6_highestOneBit_0f7a4 (fun _ => [.int p1]) (fun g => []) (gQi (fun (_ : Unit) => out) (fun g (_ : Unit) => [])) := by
  refine gM.ofi (by decide +kernel) (fun _ => Nat.le_of_ble_eq_true rfl) (fun g p e s m args below meth c A ls Q X hret hw hl => ?_)
  have hx := X.1.1
  have hb := X.1.2.1
  have hl : lv_has ls 1 [(0, .int p1)] := hl
  unfold M_J6_highestOneBit_0f7a4 at h
  refine lv_iload_n hx hb dJ6_highestOneBit_0f7a4_0 rfl (lv_at hl 0 rfl) ?_
  refine lv_ldc hx hb X.1.2.2.2.1 (gK1 X _ kq_J6_127) dJ6_highestOneBit_0f7a4_1 ?_
  refine lv_iload_n hx hb dJ6_highestOneBit_0f7a4_3 rfl (lv_at hl 0 rfl) ?_
  obtain ⟨r4, h4, h⟩ := bnd h
  refine g_calli0 (isC := []) (gn := fun _ => []) (g_runS (isC := []) (rest := [.int (-2147483648 : Int32), .int p1]) (As := [.int p1]) X hw (c_J6_numberOfLeadingZeros_0f7a4 l h4) rfl kM_J6_numberOfLeadingZeros_0f7a4 kt_J6_numberOfLeadingZeros_0f7a4 km_J6_51 ⟨(Nat.le_of_ble_eq_true rfl), (Nat.le_of_ble_eq_true rfl)⟩ ⟨(Nat.le_of_ble_eq_true rfl), (Nat.le_of_ble_eq_true rfl)⟩ rfl rfl rfl hl.1 rfl (Nat.le_of_ble_eq_true rfl) dJ6_highestOneBit_0f7a4_4) hw rfl rfl (fun _ => (Nat.le_of_ble_eq_true rfl)) (fun _ => rfl) rfl rfl (fun _ H locs hw => ?_)
  refine lv_iushr (v := (jushr (-2147483648 : Int32) r4)) hx hb dJ6_highestOneBit_0f7a4_7 rfl ?_
  refine lv_iand hx hb dJ6_highestOneBit_0f7a4_8 ?_
  have h := Option.some.inj h
  subst h
  exact hret () dJ6_highestOneBit_0f7a4_9 rfl hw
