def S_all (I : RO → EV → EV → EV → SH → TP → LW → SE → RM → Option RM → Option RM → Prop) : Prop := S_row I ∧ S_set I ∧ S_copy I ∧ S_element I ∧ S_holds I ∧ S_show I ∧ S_says I ∧ S_bar I ∧ S_put I ∧ S_stick I ∧ S_table I ∧ S_minutes I ∧ S_feed I ∧ S_wipe I ∧ S_bars I ∧ S_barOf I ∧ S_may I ∧ S_moves I ∧ S_move I ∧ S_fewest I ∧ S_way I ∧ S_between I ∧ S_place I ∧ S_setOf I ∧ S_reach I ∧ S_farthest I ∧ S_shape I ∧ S_parts I ∧ S_longest I ∧ S_save I ∧ S_luck I ∧ S_time I ∧ S_bell I ∧ S_lock I ∧ S_movable I ∧ S_ends I ∧ S_first I ∧ S_chance I ∧ S_pictures I ∧ S_broken I ∧ S_once I ∧ S_judge I ∧ S_behind I ∧ S_moved I ∧ S_game I ∧ S_goes I ∧ S_play I ∧ S_drop I ∧ S_seed I ∧ S_image I ∧ S_back I ∧ S_status I
section LAW
variable {p : Program} {l : Launch} {e : Env} {s : State} {m : MethodId} {below : List Frame} {meth : Method} {c : Code} {b L : Nat} {xs : Nat → Int32} {g : gG} {Q : State → Prop} {cells slots : Nat}
theorem law_len {n : Nat} (h : n ≤ 3072) : (Int32.ofNat n - 6).toInt = (n : Int) - 6 := by
  rw [Int32.toInt_sub, show (Int32.ofNat n).toInt = (n : Int) from nI_toInt (by omega), show (6 : Int32).toInt = 6 from rfl]
  simp only [Int.bmod]
  omega
theorem law_in {j i n : Nat} (h : j + i < n) (hn : n ≤ 3072) : vp_in (nI j + nI i) n := by rw [nI_add]; exact vp_in_nI h (by omega)
set_option maxHeartbeats 4000000 in
set_option maxRecDepth 100000 in
theorem law_loop (X : gC p s m meth c #[Value.ref b] RL cL_law 4 g (fun q : Nat => s.heap.size ≤ q)) (hX : va_X b L xs s s.heap) (hbl : b < s.heap.size) {I : RO → EV → EV → EV → SH → TP → LW → SE → RM → Option RM → Option RM → Prop} (hS : S_all I) (hLn : L ≤ 3072)
    (fin : ∀ (cells slots : Nat) (H : Heap) (locs : List Loc) (ls : Array Slot), (∀ q ∈ locs, s.heap.size ≤ q.base) → cells ≤ 600000 → slots ≤ 7302249 → W p l e room_1 s m #[Value.ref b] below meth c H locs cells slots Q (F0 m 1991 ls [])) :
    ∀ (k j cells slots : Nat), j + k = 512 → cells + 37 * k ≤ 600000 → slots + 2859 * k ≤ 7302249 → ∀ (ro : RO) (nw : EV) (kp : EV) (dr : EV) (sh : SH) (tp : TP) (lw : LW) (se : SE) (rm : RM) (K : Option RM) (T : Option RM), I ro nw kp dr sh tp lw se rm K T → ∀ (a0 a1 a2 a3 a4 a5 a6 a7 am aK aT : Nat → Nat) (H : Heap) (locs : List Loc) (ls : Array Slot), gW g (fun q : Nat => s.heap.size ≤ q) s.heap (lawW g ro nw kp dr sh tp lw se rm K T a0 a1 a2 a3 a4 a5 a6 a7 am aK aT) H locs → lv_has ls 4 [(0, .ref b), (1, .ref (a0 0)), (2, .ref (am 0)), (3, .int (nI (6 * j)))] → W p l e room_1 s m #[Value.ref b] below meth c H locs cells slots Q (F0 m 18 ls []) := by
  have hx := X.1.1
  have hb := X.1.2.1
  have hbA : ¬ (fun q : Nat => s.heap.size ≤ q) b := Nat.not_le.mpr hbl
  intro k
  induction k with
  | zero =>
    intro j cells slots hj hc1 hc2 ro nw kp dr sh tp lw se rm K T hI a0 a1 a2 a3 a4 a5 a6 a7 am aK aT H locs ls hw hl
    refine lv_iload_n hx hb dL_law_18 rfl (lv_at hl 3 rfl) ?_
    refine lv_aload_n hx hb dL_law_19 rfl (lv_at hl 0 rfl) ?_
    refine va_slen hx hb hX hbl hbA hw.2.2.1 dL_law_20 ?_
    refine lv_bipush (v := 6) hx hb dL_law_21 (by decide) ?_
    refine lv_isub hx hb dL_law_23 ?_
    refine lv_icmp_gt (tgt := 1991) hx hb dL_law_24 (by decide) (fun _ => fin _ _ _ _ _ hw.2.2.1.2.2 (by omega) (by omega)) (fun hgt => ?_)
    have hle : (6 * j : Int) ≤ (L : Int) - 6 := by
      have h0 := Int32.not_lt.mp hgt
      rw [Int32.le_iff_toInt_le, law_len hLn, nI_toInt (show 6 * j < 2 ^ 31 by omega)] at h0
      exact_mod_cast h0
    omega
  | succ k ih =>
    intro j cells slots hj hc1 hc2 ro nw kp dr sh tp lw se rm K T hI a0 a1 a2 a3 a4 a5 a6 a7 am aK aT H locs ls hw hl
    refine lv_iload_n hx hb dL_law_18 rfl (lv_at hl 3 rfl) ?_
    refine lv_aload_n hx hb dL_law_19 rfl (lv_at hl 0 rfl) ?_
    refine va_slen hx hb hX hbl hbA hw.2.2.1 dL_law_20 ?_
    refine lv_bipush (v := 6) hx hb dL_law_21 (by decide) ?_
    refine lv_isub hx hb dL_law_23 ?_
    refine lv_icmp_gt (tgt := 1991) hx hb dL_law_24 (by decide) (fun _ => fin _ _ _ _ _ hw.2.2.1.2.2 (by omega) (by omega)) (fun hgt => ?_)
    have hle : (6 * j : Int) ≤ (L : Int) - 6 := by
      have h0 := Int32.not_lt.mp hgt
      rw [Int32.le_iff_toInt_le, law_len hLn, nI_toInt (show 6 * j < 2 ^ 31 by omega)] at h0
      exact_mod_cast h0
    have h0 : vp_in (nI (6 * j)) L := vp_in_nI (by omega) (by omega)
    have h1 : vp_in (nI (6 * j) + 1) L := law_in (j := 6 * j) (i := 1) (by omega) hLn
    have h2 : vp_in (nI (6 * j) + 2) L := law_in (j := 6 * j) (i := 2) (by omega) hLn
    have h3 : vp_in (nI (6 * j) + 3) L := law_in (j := 6 * j) (i := 3) (by omega) hLn
    have h4 : vp_in (nI (6 * j) + 4) L := law_in (j := 6 * j) (i := 4) (by omega) hLn
    have h5 : vp_in (nI (6 * j) + 5) L := law_in (j := 6 * j) (i := 5) (by omega) hLn
    have next : lawNext p l e s m below meth c b g I Q (cells + 37) (slots + 2859) (nI (6 * j)) := by
      intro ro nw kp dr sh tp lw se rm K T hI a0 a1 a2 a3 a4 a5 a6 a7 am aK aT H locs ls hw hl
      refine lv_iinc (v := nI (6 * j) + 6) (lv' := [(3, .int (nI (6 * j) + 6)), (0, .ref b), (1, .ref (a0 0)), (2, .ref (am 0))]) hx hb dL_law_1985 hl (k := 3) rfl rfl (by decide) rfl (fun ls hl => ?_)
      refine lv_goto (tgt := 18) hx hb dL_law_1988 (by decide) ?_
      have e6 : nI (6 * j) + 6 = nI (6 * (j + 1)) := nI_add (6 * j) 6
      rw [e6] at hl
      exact ih (j + 1) (cells + 37) (slots + 2859) (by omega) (by omega) (by omega) ro nw kp dr sh tp lw se rm K T hI a0 a1 a2 a3 a4 a5 a6 a7 am aK aT H locs ls hw (lv_sub hl [1, 2, 3, 0] rfl)
    have hB : cells + 37 ≤ 600000 ∧ slots + 2859 ≤ 7302249 := ⟨by omega, by omega⟩
    refine lv_aload_n hx hb dL_law_27 rfl (lv_at hl 0 rfl) ?_
    refine lv_iload_n hx hb dL_law_28 rfl (lv_at hl 3 rfl) ?_
    refine va_sld hx hb hX hbl hbA hw.2.2.1 h0 dL_law_29 ?_
    refine lv_bipush (v := 63) hx hb dL_law_30 (by decide) ?_
    refine lv_iand hx hb dL_law_32 ?_
    generalize xs (nI (6 * j)).toNatClampNeg &&& 63 = w
    by_cases k0 : w = 0
    · refine lv_tableIn (off := 223) (tgt := 256) hx hb dL_law_33 (by rw [k0]; decide) (by rw [k0]; decide) (by rw [k0]; rfl) (by decide) ?_
      exact law_row X hX hbl hS.1 hB h1 h2 h3 h4 h5 next ro nw kp dr sh tp lw se rm K T hI a0 a1 a2 a3 a4 a5 a6 a7 am aK aT H locs ls hw hl
    by_cases k1 : w = 1
    · refine lv_tableIn (off := 266) (tgt := 299) hx hb dL_law_33 (by rw [k1]; decide) (by rw [k1]; decide) (by rw [k1]; rfl) (by decide) ?_
      exact law_set X hX hbl hS.2.1 hB h1 h2 h3 h4 h5 next ro nw kp dr sh tp lw se rm K T hI a0 a1 a2 a3 a4 a5 a6 a7 am aK aT H locs ls hw hl
    by_cases k2 : w = 2
    · refine lv_tableIn (off := 339) (tgt := 372) hx hb dL_law_33 (by rw [k2]; decide) (by rw [k2]; decide) (by rw [k2]; rfl) (by decide) ?_
      exact law_copy X hX hbl hS.2.2.1 hB h1 h2 h3 h4 h5 next ro nw kp dr sh tp lw se rm K T hI a0 a1 a2 a3 a4 a5 a6 a7 am aK aT H locs ls hw hl
    by_cases k3 : w = 3
    · refine lv_tableIn (off := 402) (tgt := 435) hx hb dL_law_33 (by rw [k3]; decide) (by rw [k3]; decide) (by rw [k3]; rfl) (by decide) ?_
      exact law_element X hX hbl hS.2.2.2.1 hB h1 h2 h3 h4 h5 next ro nw kp dr sh tp lw se rm K T hI a0 a1 a2 a3 a4 a5 a6 a7 am aK aT H locs ls hw hl
    by_cases k4 : w = 4
    · refine lv_tableIn (off := 436) (tgt := 469) hx hb dL_law_33 (by rw [k4]; decide) (by rw [k4]; decide) (by rw [k4]; rfl) (by decide) ?_
      exact law_holds X hX hbl hS.2.2.2.2.1 hB h1 h2 h3 h4 h5 next ro nw kp dr sh tp lw se rm K T hI a0 a1 a2 a3 a4 a5 a6 a7 am aK aT H locs ls hw hl
    by_cases k5 : w = 5
    · refine lv_tableIn (off := 459) (tgt := 492) hx hb dL_law_33 (by rw [k5]; decide) (by rw [k5]; decide) (by rw [k5]; rfl) (by decide) ?_
      exact law_show X hX hbl hS.2.2.2.2.2.1 hB h1 h2 h3 h4 h5 next ro nw kp dr sh tp lw se rm K T hI a0 a1 a2 a3 a4 a5 a6 a7 am aK aT H locs ls hw hl
    by_cases k6 : w = 6
    · refine lv_tableIn (off := 492) (tgt := 525) hx hb dL_law_33 (by rw [k6]; decide) (by rw [k6]; decide) (by rw [k6]; rfl) (by decide) ?_
      exact law_says X hX hbl hS.2.2.2.2.2.2.1 hB h1 h2 h3 h4 h5 next ro nw kp dr sh tp lw se rm K T hI a0 a1 a2 a3 a4 a5 a6 a7 am aK aT H locs ls hw hl
    by_cases k7 : w = 7
    · refine lv_tableIn (off := 525) (tgt := 558) hx hb dL_law_33 (by rw [k7]; decide) (by rw [k7]; decide) (by rw [k7]; rfl) (by decide) ?_
      exact law_bar X hX hbl hS.2.2.2.2.2.2.2.1 hB h1 h2 h3 h4 h5 next ro nw kp dr sh tp lw se rm K T hI a0 a1 a2 a3 a4 a5 a6 a7 am aK aT H locs ls hw hl
    by_cases k8 : w = 8
    · refine lv_tableIn (off := 558) (tgt := 591) hx hb dL_law_33 (by rw [k8]; decide) (by rw [k8]; decide) (by rw [k8]; rfl) (by decide) ?_
      exact law_put X hX hbl hS.2.2.2.2.2.2.2.2.1 hB h1 h2 h3 h4 h5 next ro nw kp dr sh tp lw se rm K T hI a0 a1 a2 a3 a4 a5 a6 a7 am aK aT H locs ls hw hl
    by_cases k9 : w = 9
    · refine lv_tableIn (off := 591) (tgt := 624) hx hb dL_law_33 (by rw [k9]; decide) (by rw [k9]; decide) (by rw [k9]; rfl) (by decide) ?_
      exact law_stick X hX hbl hS.2.2.2.2.2.2.2.2.2.1 hB h1 h2 h3 h4 h5 next ro nw kp dr sh tp lw se rm K T hI a0 a1 a2 a3 a4 a5 a6 a7 am aK aT H locs ls hw hl
    by_cases k10 : w = 10
    · refine lv_tableIn (off := 624) (tgt := 657) hx hb dL_law_33 (by rw [k10]; decide) (by rw [k10]; decide) (by rw [k10]; rfl) (by decide) ?_
      exact law_table X hX hbl hS.2.2.2.2.2.2.2.2.2.2.1 hB h1 h2 h3 h4 h5 next ro nw kp dr sh tp lw se rm K T hI a0 a1 a2 a3 a4 a5 a6 a7 am aK aT H locs ls hw hl
    by_cases k11 : w = 11
    · refine lv_tableIn (off := 677) (tgt := 710) hx hb dL_law_33 (by rw [k11]; decide) (by rw [k11]; decide) (by rw [k11]; rfl) (by decide) ?_
      exact law_minutes X hX hbl hS.2.2.2.2.2.2.2.2.2.2.2.1 hB h1 h2 h3 h4 h5 next ro nw kp dr sh tp lw se rm K T hI a0 a1 a2 a3 a4 a5 a6 a7 am aK aT H locs ls hw hl
    by_cases k12 : w = 12
    · refine lv_tableIn (off := 710) (tgt := 743) hx hb dL_law_33 (by rw [k12]; decide) (by rw [k12]; decide) (by rw [k12]; rfl) (by decide) ?_
      exact law_feed X hX hbl hS.2.2.2.2.2.2.2.2.2.2.2.2.1 hB h1 h2 h3 h4 h5 next ro nw kp dr sh tp lw se rm K T hI a0 a1 a2 a3 a4 a5 a6 a7 am aK aT H locs ls hw hl
    by_cases k13 : w = 13
    · refine lv_tableIn (off := 733) (tgt := 766) hx hb dL_law_33 (by rw [k13]; decide) (by rw [k13]; decide) (by rw [k13]; rfl) (by decide) ?_
      exact law_wipe X hX hbl hS.2.2.2.2.2.2.2.2.2.2.2.2.2.1 hB h1 h2 h3 h4 h5 next ro nw kp dr sh tp lw se rm K T hI a0 a1 a2 a3 a4 a5 a6 a7 am aK aT H locs ls hw hl
    by_cases k14 : w = 14
    · refine lv_tableIn (off := 746) (tgt := 779) hx hb dL_law_33 (by rw [k14]; decide) (by rw [k14]; decide) (by rw [k14]; rfl) (by decide) ?_
      exact law_bars X hX hbl hS.2.2.2.2.2.2.2.2.2.2.2.2.2.2.1 hB h1 h2 h3 h4 h5 next ro nw kp dr sh tp lw se rm K T hI a0 a1 a2 a3 a4 a5 a6 a7 am aK aT H locs ls hw hl
    by_cases k15 : w = 15
    · refine lv_tableIn (off := 759) (tgt := 792) hx hb dL_law_33 (by rw [k15]; decide) (by rw [k15]; decide) (by rw [k15]; rfl) (by decide) ?_
      exact law_barOf X hX hbl hS.2.2.2.2.2.2.2.2.2.2.2.2.2.2.2.1 hB h1 h2 h3 h4 h5 next ro nw kp dr sh tp lw se rm K T hI a0 a1 a2 a3 a4 a5 a6 a7 am aK aT H locs ls hw hl
    by_cases k16 : w = 16
    · refine lv_tableIn (off := 792) (tgt := 825) hx hb dL_law_33 (by rw [k16]; decide) (by rw [k16]; decide) (by rw [k16]; rfl) (by decide) ?_
      exact law_may X hX hbl hS.2.2.2.2.2.2.2.2.2.2.2.2.2.2.2.2.1 hB h1 h2 h3 h4 h5 next ro nw kp dr sh tp lw se rm K T hI a0 a1 a2 a3 a4 a5 a6 a7 am aK aT H locs ls hw hl
    by_cases k17 : w = 17
    · refine lv_tableIn (off := 825) (tgt := 858) hx hb dL_law_33 (by rw [k17]; decide) (by rw [k17]; decide) (by rw [k17]; rfl) (by decide) ?_
      exact law_moves X hX hbl hS.2.2.2.2.2.2.2.2.2.2.2.2.2.2.2.2.2.1 hB h1 h2 h3 h4 h5 next ro nw kp dr sh tp lw se rm K T hI a0 a1 a2 a3 a4 a5 a6 a7 am aK aT H locs ls hw hl
    by_cases k18 : w = 18
    · refine lv_tableIn (off := 848) (tgt := 881) hx hb dL_law_33 (by rw [k18]; decide) (by rw [k18]; decide) (by rw [k18]; rfl) (by decide) ?_
      exact law_move X hX hbl hS.2.2.2.2.2.2.2.2.2.2.2.2.2.2.2.2.2.2.1 hB h1 h2 h3 h4 h5 next ro nw kp dr sh tp lw se rm K T hI a0 a1 a2 a3 a4 a5 a6 a7 am aK aT H locs ls hw hl
    by_cases k19 : w = 19
    · refine lv_tableIn (off := 881) (tgt := 914) hx hb dL_law_33 (by rw [k19]; decide) (by rw [k19]; decide) (by rw [k19]; rfl) (by decide) ?_
      exact law_fewest X hX hbl hS.2.2.2.2.2.2.2.2.2.2.2.2.2.2.2.2.2.2.2.1 hB h1 h2 h3 h4 h5 next ro nw kp dr sh tp lw se rm K T hI a0 a1 a2 a3 a4 a5 a6 a7 am aK aT H locs ls hw hl
    by_cases k20 : w = 20
    · refine lv_tableIn (off := 914) (tgt := 947) hx hb dL_law_33 (by rw [k20]; decide) (by rw [k20]; decide) (by rw [k20]; rfl) (by decide) ?_
      exact law_way X hX hbl hS.2.2.2.2.2.2.2.2.2.2.2.2.2.2.2.2.2.2.2.2.1 hB h1 h2 h3 h4 h5 next ro nw kp dr sh tp lw se rm K T hI a0 a1 a2 a3 a4 a5 a6 a7 am aK aT H locs ls hw hl
    by_cases k21 : w = 21
    · refine lv_tableIn (off := 957) (tgt := 990) hx hb dL_law_33 (by rw [k21]; decide) (by rw [k21]; decide) (by rw [k21]; rfl) (by decide) ?_
      exact law_between X hX hbl hS.2.2.2.2.2.2.2.2.2.2.2.2.2.2.2.2.2.2.2.2.2.1 hB h1 h2 h3 h4 h5 next ro nw kp dr sh tp lw se rm K T hI a0 a1 a2 a3 a4 a5 a6 a7 am aK aT H locs ls hw hl
    by_cases k22 : w = 22
    · refine lv_tableIn (off := 1000) (tgt := 1033) hx hb dL_law_33 (by rw [k22]; decide) (by rw [k22]; decide) (by rw [k22]; rfl) (by decide) ?_
      exact law_place X hX hbl hS.2.2.2.2.2.2.2.2.2.2.2.2.2.2.2.2.2.2.2.2.2.2.1 hB h1 h2 h3 h4 h5 next ro nw kp dr sh tp lw se rm K T hI a0 a1 a2 a3 a4 a5 a6 a7 am aK aT H locs ls hw hl
    by_cases k23 : w = 23
    · refine lv_tableIn (off := 1054) (tgt := 1087) hx hb dL_law_33 (by rw [k23]; decide) (by rw [k23]; decide) (by rw [k23]; rfl) (by decide) ?_
      exact law_setOf X hX hbl hS.2.2.2.2.2.2.2.2.2.2.2.2.2.2.2.2.2.2.2.2.2.2.2.1 hB h1 h2 h3 h4 h5 next ro nw kp dr sh tp lw se rm K T hI a0 a1 a2 a3 a4 a5 a6 a7 am aK aT H locs ls hw hl
    by_cases k24 : w = 24
    · refine lv_tableIn (off := 1108) (tgt := 1141) hx hb dL_law_33 (by rw [k24]; decide) (by rw [k24]; decide) (by rw [k24]; rfl) (by decide) ?_
      exact law_reach X hX hbl hS.2.2.2.2.2.2.2.2.2.2.2.2.2.2.2.2.2.2.2.2.2.2.2.2.1 hB h1 h2 h3 h4 h5 next ro nw kp dr sh tp lw se rm K T hI a0 a1 a2 a3 a4 a5 a6 a7 am aK aT H locs ls hw hl
    by_cases k25 : w = 25
    · refine lv_tableIn (off := 1131) (tgt := 1164) hx hb dL_law_33 (by rw [k25]; decide) (by rw [k25]; decide) (by rw [k25]; rfl) (by decide) ?_
      exact law_farthest X hX hbl hS.2.2.2.2.2.2.2.2.2.2.2.2.2.2.2.2.2.2.2.2.2.2.2.2.2.1 hB h1 h2 h3 h4 h5 next ro nw kp dr sh tp lw se rm K T hI a0 a1 a2 a3 a4 a5 a6 a7 am aK aT H locs ls hw hl
    by_cases k26 : w = 26
    · refine lv_tableIn (off := 1164) (tgt := 1197) hx hb dL_law_33 (by rw [k26]; decide) (by rw [k26]; decide) (by rw [k26]; rfl) (by decide) ?_
      exact law_shape X hX hbl hS.2.2.2.2.2.2.2.2.2.2.2.2.2.2.2.2.2.2.2.2.2.2.2.2.2.2.1 hB h1 h2 h3 h4 h5 next ro nw kp dr sh tp lw se rm K T hI a0 a1 a2 a3 a4 a5 a6 a7 am aK aT H locs ls hw hl
    by_cases k27 : w = 27
    · refine lv_tableIn (off := 1187) (tgt := 1220) hx hb dL_law_33 (by rw [k27]; decide) (by rw [k27]; decide) (by rw [k27]; rfl) (by decide) ?_
      exact law_parts X hX hbl hS.2.2.2.2.2.2.2.2.2.2.2.2.2.2.2.2.2.2.2.2.2.2.2.2.2.2.2.1 hB h1 h2 h3 h4 h5 next ro nw kp dr sh tp lw se rm K T hI a0 a1 a2 a3 a4 a5 a6 a7 am aK aT H locs ls hw hl
    by_cases k28 : w = 28
    · refine lv_tableIn (off := 1210) (tgt := 1243) hx hb dL_law_33 (by rw [k28]; decide) (by rw [k28]; decide) (by rw [k28]; rfl) (by decide) ?_
      exact law_longest X hX hbl hS.2.2.2.2.2.2.2.2.2.2.2.2.2.2.2.2.2.2.2.2.2.2.2.2.2.2.2.2.1 hB h1 h2 h3 h4 h5 next ro nw kp dr sh tp lw se rm K T hI a0 a1 a2 a3 a4 a5 a6 a7 am aK aT H locs ls hw hl
    by_cases k29 : w = 29
    · refine lv_tableIn (off := 1233) (tgt := 1266) hx hb dL_law_33 (by rw [k29]; decide) (by rw [k29]; decide) (by rw [k29]; rfl) (by decide) ?_
      exact law_save X hX hbl hS.2.2.2.2.2.2.2.2.2.2.2.2.2.2.2.2.2.2.2.2.2.2.2.2.2.2.2.2.2.1 hB h1 h2 h3 h4 h5 next ro nw kp dr sh tp lw se rm K T hI a0 a1 a2 a3 a4 a5 a6 a7 am aK aT H locs ls hw hl
    by_cases k30 : w = 30
    · refine lv_tableIn (off := 1256) (tgt := 1289) hx hb dL_law_33 (by rw [k30]; decide) (by rw [k30]; decide) (by rw [k30]; rfl) (by decide) ?_
      exact law_luck X hX hbl hS.2.2.2.2.2.2.2.2.2.2.2.2.2.2.2.2.2.2.2.2.2.2.2.2.2.2.2.2.2.2.1 hB h1 h2 h3 h4 h5 next ro nw kp dr sh tp lw se rm K T hI a0 a1 a2 a3 a4 a5 a6 a7 am aK aT H locs ls hw hl
    by_cases k31 : w = 31
    · refine lv_tableIn (off := 1279) (tgt := 1312) hx hb dL_law_33 (by rw [k31]; decide) (by rw [k31]; decide) (by rw [k31]; rfl) (by decide) ?_
      exact law_time X hX hbl hS.2.2.2.2.2.2.2.2.2.2.2.2.2.2.2.2.2.2.2.2.2.2.2.2.2.2.2.2.2.2.2.1 hB h1 h2 h3 h4 h5 next ro nw kp dr sh tp lw se rm K T hI a0 a1 a2 a3 a4 a5 a6 a7 am aK aT H locs ls hw hl
    by_cases k32 : w = 32
    · refine lv_tableIn (off := 1312) (tgt := 1345) hx hb dL_law_33 (by rw [k32]; decide) (by rw [k32]; decide) (by rw [k32]; rfl) (by decide) ?_
      exact law_bell X hX hbl hS.2.2.2.2.2.2.2.2.2.2.2.2.2.2.2.2.2.2.2.2.2.2.2.2.2.2.2.2.2.2.2.2.1 hB h1 h2 h3 h4 h5 next ro nw kp dr sh tp lw se rm K T hI a0 a1 a2 a3 a4 a5 a6 a7 am aK aT H locs ls hw hl
    by_cases k33 : w = 33
    · refine lv_tableIn (off := 1355) (tgt := 1388) hx hb dL_law_33 (by rw [k33]; decide) (by rw [k33]; decide) (by rw [k33]; rfl) (by decide) ?_
      exact law_lock X hX hbl hS.2.2.2.2.2.2.2.2.2.2.2.2.2.2.2.2.2.2.2.2.2.2.2.2.2.2.2.2.2.2.2.2.2.1 hB h1 h2 h3 h4 h5 next ro nw kp dr sh tp lw se rm K T hI a0 a1 a2 a3 a4 a5 a6 a7 am aK aT H locs ls hw hl
    by_cases k34 : w = 34
    · refine lv_tableIn (off := 1378) (tgt := 1411) hx hb dL_law_33 (by rw [k34]; decide) (by rw [k34]; decide) (by rw [k34]; rfl) (by decide) ?_
      exact law_movable X hX hbl hS.2.2.2.2.2.2.2.2.2.2.2.2.2.2.2.2.2.2.2.2.2.2.2.2.2.2.2.2.2.2.2.2.2.2.1 hB h1 h2 h3 h4 h5 next ro nw kp dr sh tp lw se rm K T hI a0 a1 a2 a3 a4 a5 a6 a7 am aK aT H locs ls hw hl
    by_cases k35 : w = 35
    · refine lv_tableIn (off := 1401) (tgt := 1434) hx hb dL_law_33 (by rw [k35]; decide) (by rw [k35]; decide) (by rw [k35]; rfl) (by decide) ?_
      exact law_ends X hX hbl hS.2.2.2.2.2.2.2.2.2.2.2.2.2.2.2.2.2.2.2.2.2.2.2.2.2.2.2.2.2.2.2.2.2.2.2.1 hB h1 h2 h3 h4 h5 next ro nw kp dr sh tp lw se rm K T hI a0 a1 a2 a3 a4 a5 a6 a7 am aK aT H locs ls hw hl
    by_cases k36 : w = 36
    · refine lv_tableIn (off := 1424) (tgt := 1457) hx hb dL_law_33 (by rw [k36]; decide) (by rw [k36]; decide) (by rw [k36]; rfl) (by decide) ?_
      exact law_first X hX hbl hS.2.2.2.2.2.2.2.2.2.2.2.2.2.2.2.2.2.2.2.2.2.2.2.2.2.2.2.2.2.2.2.2.2.2.2.2.1 hB h1 h2 h3 h4 h5 next ro nw kp dr sh tp lw se rm K T hI a0 a1 a2 a3 a4 a5 a6 a7 am aK aT H locs ls hw hl
    by_cases k37 : w = 37
    · refine lv_tableIn (off := 1457) (tgt := 1490) hx hb dL_law_33 (by rw [k37]; decide) (by rw [k37]; decide) (by rw [k37]; rfl) (by decide) ?_
      exact law_chance X hX hbl hS.2.2.2.2.2.2.2.2.2.2.2.2.2.2.2.2.2.2.2.2.2.2.2.2.2.2.2.2.2.2.2.2.2.2.2.2.2.1 hB h1 h2 h3 h4 h5 next ro nw kp dr sh tp lw se rm K T hI a0 a1 a2 a3 a4 a5 a6 a7 am aK aT H locs ls hw hl
    by_cases k38 : w = 38
    · refine lv_tableIn (off := 1500) (tgt := 1533) hx hb dL_law_33 (by rw [k38]; decide) (by rw [k38]; decide) (by rw [k38]; rfl) (by decide) ?_
      exact law_pictures X hX hbl hS.2.2.2.2.2.2.2.2.2.2.2.2.2.2.2.2.2.2.2.2.2.2.2.2.2.2.2.2.2.2.2.2.2.2.2.2.2.2.1 hB h1 h2 h3 h4 h5 next ro nw kp dr sh tp lw se rm K T hI a0 a1 a2 a3 a4 a5 a6 a7 am aK aT H locs ls hw hl
    by_cases k39 : w = 39
    · refine lv_tableIn (off := 1543) (tgt := 1576) hx hb dL_law_33 (by rw [k39]; decide) (by rw [k39]; decide) (by rw [k39]; rfl) (by decide) ?_
      exact law_broken X hX hbl hS.2.2.2.2.2.2.2.2.2.2.2.2.2.2.2.2.2.2.2.2.2.2.2.2.2.2.2.2.2.2.2.2.2.2.2.2.2.2.2.1 hB h1 h2 h3 h4 h5 next ro nw kp dr sh tp lw se rm K T hI a0 a1 a2 a3 a4 a5 a6 a7 am aK aT H locs ls hw hl
    by_cases k40 : w = 40
    · refine lv_tableIn (off := 1586) (tgt := 1619) hx hb dL_law_33 (by rw [k40]; decide) (by rw [k40]; decide) (by rw [k40]; rfl) (by decide) ?_
      exact law_once X hX hbl hS.2.2.2.2.2.2.2.2.2.2.2.2.2.2.2.2.2.2.2.2.2.2.2.2.2.2.2.2.2.2.2.2.2.2.2.2.2.2.2.2.1 hB h1 h2 h3 h4 h5 next ro nw kp dr sh tp lw se rm K T hI a0 a1 a2 a3 a4 a5 a6 a7 am aK aT H locs ls hw hl
    by_cases k41 : w = 41
    · refine lv_tableIn (off := 1629) (tgt := 1662) hx hb dL_law_33 (by rw [k41]; decide) (by rw [k41]; decide) (by rw [k41]; rfl) (by decide) ?_
      exact law_judge X hX hbl hS.2.2.2.2.2.2.2.2.2.2.2.2.2.2.2.2.2.2.2.2.2.2.2.2.2.2.2.2.2.2.2.2.2.2.2.2.2.2.2.2.2.1 hB h1 h2 h3 h4 h5 next ro nw kp dr sh tp lw se rm K T hI a0 a1 a2 a3 a4 a5 a6 a7 am aK aT H locs ls hw hl
    by_cases k42 : w = 42
    · refine lv_tableIn (off := 1672) (tgt := 1705) hx hb dL_law_33 (by rw [k42]; decide) (by rw [k42]; decide) (by rw [k42]; rfl) (by decide) ?_
      exact law_behind X hX hbl hS.2.2.2.2.2.2.2.2.2.2.2.2.2.2.2.2.2.2.2.2.2.2.2.2.2.2.2.2.2.2.2.2.2.2.2.2.2.2.2.2.2.2.1 hB h1 h2 h3 h4 h5 next ro nw kp dr sh tp lw se rm K T hI a0 a1 a2 a3 a4 a5 a6 a7 am aK aT H locs ls hw hl
    by_cases k43 : w = 43
    · refine lv_tableIn (off := 1715) (tgt := 1748) hx hb dL_law_33 (by rw [k43]; decide) (by rw [k43]; decide) (by rw [k43]; rfl) (by decide) ?_
      exact law_moved X hX hbl hS.2.2.2.2.2.2.2.2.2.2.2.2.2.2.2.2.2.2.2.2.2.2.2.2.2.2.2.2.2.2.2.2.2.2.2.2.2.2.2.2.2.2.2.1 hB h1 h2 h3 h4 h5 next ro nw kp dr sh tp lw se rm K T hI a0 a1 a2 a3 a4 a5 a6 a7 am aK aT H locs ls hw hl
    by_cases k44 : w = 44
    · refine lv_tableIn (off := 1758) (tgt := 1791) hx hb dL_law_33 (by rw [k44]; decide) (by rw [k44]; decide) (by rw [k44]; rfl) (by decide) ?_
      exact law_game X hX hbl hS.2.2.2.2.2.2.2.2.2.2.2.2.2.2.2.2.2.2.2.2.2.2.2.2.2.2.2.2.2.2.2.2.2.2.2.2.2.2.2.2.2.2.2.2.1 hB h1 h2 h3 h4 h5 next ro nw kp dr sh tp lw se rm K T hI a0 a1 a2 a3 a4 a5 a6 a7 am aK aT H locs ls hw hl
    by_cases k45 : w = 45
    · refine lv_tableIn (off := 1791) (tgt := 1824) hx hb dL_law_33 (by rw [k45]; decide) (by rw [k45]; decide) (by rw [k45]; rfl) (by decide) ?_
      exact law_goes X hX hbl hS.2.2.2.2.2.2.2.2.2.2.2.2.2.2.2.2.2.2.2.2.2.2.2.2.2.2.2.2.2.2.2.2.2.2.2.2.2.2.2.2.2.2.2.2.2.1 hB h1 h2 h3 h4 h5 next ro nw kp dr sh tp lw se rm K T hI a0 a1 a2 a3 a4 a5 a6 a7 am aK aT H locs ls hw hl
    by_cases k46 : w = 46
    · refine lv_tableIn (off := 1834) (tgt := 1867) hx hb dL_law_33 (by rw [k46]; decide) (by rw [k46]; decide) (by rw [k46]; rfl) (by decide) ?_
      exact law_play X hX hbl hS.2.2.2.2.2.2.2.2.2.2.2.2.2.2.2.2.2.2.2.2.2.2.2.2.2.2.2.2.2.2.2.2.2.2.2.2.2.2.2.2.2.2.2.2.2.2.1 hB h1 h2 h3 h4 h5 next ro nw kp dr sh tp lw se rm K T hI a0 a1 a2 a3 a4 a5 a6 a7 am aK aT H locs ls hw hl
    by_cases k47 : w = 47
    · refine lv_tableIn (off := 1867) (tgt := 1900) hx hb dL_law_33 (by rw [k47]; decide) (by rw [k47]; decide) (by rw [k47]; rfl) (by decide) ?_
      exact law_drop X hX hbl hS.2.2.2.2.2.2.2.2.2.2.2.2.2.2.2.2.2.2.2.2.2.2.2.2.2.2.2.2.2.2.2.2.2.2.2.2.2.2.2.2.2.2.2.2.2.2.2.1 hB h1 h2 h3 h4 h5 next ro nw kp dr sh tp lw se rm K T hI a0 a1 a2 a3 a4 a5 a6 a7 am aK aT H locs ls hw hl
    by_cases k48 : w = 48
    · refine lv_tableIn (off := 1880) (tgt := 1913) hx hb dL_law_33 (by rw [k48]; decide) (by rw [k48]; decide) (by rw [k48]; rfl) (by decide) ?_
      exact law_seed X hX hbl hS.2.2.2.2.2.2.2.2.2.2.2.2.2.2.2.2.2.2.2.2.2.2.2.2.2.2.2.2.2.2.2.2.2.2.2.2.2.2.2.2.2.2.2.2.2.2.2.2.1 hB h1 h2 h3 h4 h5 next ro nw kp dr sh tp lw se rm K T hI a0 a1 a2 a3 a4 a5 a6 a7 am aK aT H locs ls hw hl
    by_cases k49 : w = 49
    · refine lv_tableIn (off := 1903) (tgt := 1936) hx hb dL_law_33 (by rw [k49]; decide) (by rw [k49]; decide) (by rw [k49]; rfl) (by decide) ?_
      exact law_image X hX hbl hS.2.2.2.2.2.2.2.2.2.2.2.2.2.2.2.2.2.2.2.2.2.2.2.2.2.2.2.2.2.2.2.2.2.2.2.2.2.2.2.2.2.2.2.2.2.2.2.2.2.1 hB h1 h2 h3 h4 h5 next ro nw kp dr sh tp lw se rm K T hI a0 a1 a2 a3 a4 a5 a6 a7 am aK aT H locs ls hw hl
    by_cases k50 : w = 50
    · refine lv_tableIn (off := 1916) (tgt := 1949) hx hb dL_law_33 (by rw [k50]; decide) (by rw [k50]; decide) (by rw [k50]; rfl) (by decide) ?_
      exact law_back X hX hbl hS.2.2.2.2.2.2.2.2.2.2.2.2.2.2.2.2.2.2.2.2.2.2.2.2.2.2.2.2.2.2.2.2.2.2.2.2.2.2.2.2.2.2.2.2.2.2.2.2.2.2.1 hB h1 h2 h3 h4 h5 next ro nw kp dr sh tp lw se rm K T hI a0 a1 a2 a3 a4 a5 a6 a7 am aK aT H locs ls hw hl
    by_cases k51 : w = 51
    · refine lv_tableIn (off := 1929) (tgt := 1962) hx hb dL_law_33 (by rw [k51]; decide) (by rw [k51]; decide) (by rw [k51]; rfl) (by decide) ?_
      exact law_status X hX hbl hS.2.2.2.2.2.2.2.2.2.2.2.2.2.2.2.2.2.2.2.2.2.2.2.2.2.2.2.2.2.2.2.2.2.2.2.2.2.2.2.2.2.2.2.2.2.2.2.2.2.2.2 hB h1 h2 h3 h4 h5 next ro nw kp dr sh tp lw se rm K T hI a0 a1 a2 a3 a4 a5 a6 a7 am aK aT H locs ls hw hl
    refine lv_tableOut (tgt := 1985) hx hb dL_law_33 (g_out (lo := 0) (hi := 51) w (fun q h1 h2 => ?_)) (by decide) ?_
    · rcases (show q = 0 ∨ q = 1 ∨ q = 2 ∨ q = 3 ∨ q = 4 ∨ q = 5 ∨ q = 6 ∨ q = 7 ∨ q = 8 ∨ q = 9 ∨ q = 10 ∨ q = 11 ∨ q = 12 ∨ q = 13 ∨ q = 14 ∨ q = 15 ∨ q = 16 ∨ q = 17 ∨ q = 18 ∨ q = 19 ∨ q = 20 ∨ q = 21 ∨ q = 22 ∨ q = 23 ∨ q = 24 ∨ q = 25 ∨ q = 26 ∨ q = 27 ∨ q = 28 ∨ q = 29 ∨ q = 30 ∨ q = 31 ∨ q = 32 ∨ q = 33 ∨ q = 34 ∨ q = 35 ∨ q = 36 ∨ q = 37 ∨ q = 38 ∨ q = 39 ∨ q = 40 ∨ q = 41 ∨ q = 42 ∨ q = 43 ∨ q = 44 ∨ q = 45 ∨ q = 46 ∨ q = 47 ∨ q = 48 ∨ q = 49 ∨ q = 50 ∨ q = 51 by omega) with rfl | rfl | rfl | rfl | rfl | rfl | rfl | rfl | rfl | rfl | rfl | rfl | rfl | rfl | rfl | rfl | rfl | rfl | rfl | rfl | rfl | rfl | rfl | rfl | rfl | rfl | rfl | rfl | rfl | rfl | rfl | rfl | rfl | rfl | rfl | rfl | rfl | rfl | rfl | rfl | rfl | rfl | rfl | rfl | rfl | rfl | rfl | rfl | rfl | rfl | rfl | rfl
      · exact fun e => k0 (Int32.toInt_inj.mp (e.trans rfl))
      · exact fun e => k1 (Int32.toInt_inj.mp (e.trans rfl))
      · exact fun e => k2 (Int32.toInt_inj.mp (e.trans rfl))
      · exact fun e => k3 (Int32.toInt_inj.mp (e.trans rfl))
      · exact fun e => k4 (Int32.toInt_inj.mp (e.trans rfl))
      · exact fun e => k5 (Int32.toInt_inj.mp (e.trans rfl))
      · exact fun e => k6 (Int32.toInt_inj.mp (e.trans rfl))
      · exact fun e => k7 (Int32.toInt_inj.mp (e.trans rfl))
      · exact fun e => k8 (Int32.toInt_inj.mp (e.trans rfl))
      · exact fun e => k9 (Int32.toInt_inj.mp (e.trans rfl))
      · exact fun e => k10 (Int32.toInt_inj.mp (e.trans rfl))
      · exact fun e => k11 (Int32.toInt_inj.mp (e.trans rfl))
      · exact fun e => k12 (Int32.toInt_inj.mp (e.trans rfl))
      · exact fun e => k13 (Int32.toInt_inj.mp (e.trans rfl))
      · exact fun e => k14 (Int32.toInt_inj.mp (e.trans rfl))
      · exact fun e => k15 (Int32.toInt_inj.mp (e.trans rfl))
      · exact fun e => k16 (Int32.toInt_inj.mp (e.trans rfl))
      · exact fun e => k17 (Int32.toInt_inj.mp (e.trans rfl))
      · exact fun e => k18 (Int32.toInt_inj.mp (e.trans rfl))
      · exact fun e => k19 (Int32.toInt_inj.mp (e.trans rfl))
      · exact fun e => k20 (Int32.toInt_inj.mp (e.trans rfl))
      · exact fun e => k21 (Int32.toInt_inj.mp (e.trans rfl))
      · exact fun e => k22 (Int32.toInt_inj.mp (e.trans rfl))
      · exact fun e => k23 (Int32.toInt_inj.mp (e.trans rfl))
      · exact fun e => k24 (Int32.toInt_inj.mp (e.trans rfl))
      · exact fun e => k25 (Int32.toInt_inj.mp (e.trans rfl))
      · exact fun e => k26 (Int32.toInt_inj.mp (e.trans rfl))
      · exact fun e => k27 (Int32.toInt_inj.mp (e.trans rfl))
      · exact fun e => k28 (Int32.toInt_inj.mp (e.trans rfl))
      · exact fun e => k29 (Int32.toInt_inj.mp (e.trans rfl))
      · exact fun e => k30 (Int32.toInt_inj.mp (e.trans rfl))
      · exact fun e => k31 (Int32.toInt_inj.mp (e.trans rfl))
      · exact fun e => k32 (Int32.toInt_inj.mp (e.trans rfl))
      · exact fun e => k33 (Int32.toInt_inj.mp (e.trans rfl))
      · exact fun e => k34 (Int32.toInt_inj.mp (e.trans rfl))
      · exact fun e => k35 (Int32.toInt_inj.mp (e.trans rfl))
      · exact fun e => k36 (Int32.toInt_inj.mp (e.trans rfl))
      · exact fun e => k37 (Int32.toInt_inj.mp (e.trans rfl))
      · exact fun e => k38 (Int32.toInt_inj.mp (e.trans rfl))
      · exact fun e => k39 (Int32.toInt_inj.mp (e.trans rfl))
      · exact fun e => k40 (Int32.toInt_inj.mp (e.trans rfl))
      · exact fun e => k41 (Int32.toInt_inj.mp (e.trans rfl))
      · exact fun e => k42 (Int32.toInt_inj.mp (e.trans rfl))
      · exact fun e => k43 (Int32.toInt_inj.mp (e.trans rfl))
      · exact fun e => k44 (Int32.toInt_inj.mp (e.trans rfl))
      · exact fun e => k45 (Int32.toInt_inj.mp (e.trans rfl))
      · exact fun e => k46 (Int32.toInt_inj.mp (e.trans rfl))
      · exact fun e => k47 (Int32.toInt_inj.mp (e.trans rfl))
      · exact fun e => k48 (Int32.toInt_inj.mp (e.trans rfl))
      · exact fun e => k49 (Int32.toInt_inj.mp (e.trans rfl))
      · exact fun e => k50 (Int32.toInt_inj.mp (e.trans rfl))
      · exact fun e => k51 (Int32.toInt_inj.mp (e.trans rfl))
    · refine W.widen (k := cells + 37) (n := slots + 2859) (by omega) (by omega) ?_
      exact next ro nw kp dr sh tp lw se rm K T hI a0 a1 a2 a3 a4 a5 a6 a7 am aK aT H locs ls hw hl
end LAW
