section LAW
variable {p : Program} {l : Launch} {e : Env} {s : State} {m : MethodId} {below : List Frame} {meth : Method} {c : Code} {b L : Nat} {xs : Nat → Int32} {g : gG} {Q : State → Prop} {cells slots : Nat}
set_option maxHeartbeats 4000000 in
set_option maxRecDepth 100000 in
theorem law_broken (X : gC p s m meth c #[Value.ref b] RL cL_law 4 g (fun q : Nat => s.heap.size ≤ q)) (hX : va_X b L xs s s.heap) (hbl : b < s.heap.size) {I : RO → EV → EV → EV → SH → TP → LW → SE → RM → Option RM → Option RM → Prop} (hS : S_broken I) (hB : cells + 37 ≤ 600000 ∧ slots + 2859 ≤ 7302249) {x3 : Int32} (h1 : vp_in (x3 + 1) L) (h2 : vp_in (x3 + 2) L) (h3 : vp_in (x3 + 3) L) (h4 : vp_in (x3 + 4) L) (h5 : vp_in (x3 + 5) L)
    (next : lawNext p l e s m below meth c b g I Q (cells + 37) (slots + 2859) x3)
    (ro : RO) (nw : EV) (kp : EV) (dr : EV) (sh : SH) (tp : TP) (lw : LW) (se : SE) (rm : RM) (K : Option RM) (T : Option RM) (hI : I ro nw kp dr sh tp lw se rm K T) (a0 a1 a2 a3 a4 a5 a6 a7 am aK aT : Nat → Nat) (H : Heap) (locs : List Loc) (ls : Array Slot) (hw : gW g (fun q : Nat => s.heap.size ≤ q) s.heap (lawW g ro nw kp dr sh tp lw se rm K T a0 a1 a2 a3 a4 a5 a6 a7 am aK aT) H locs) (hl : lv_has ls 4 [(0, .ref b), (1, .ref (a0 0)), (2, .ref (am 0)), (3, .int x3)]) : W p l e room_1 s m #[Value.ref b] below meth c H locs cells slots Q (F0 m 1576 ls []) := by
  have hx := X.1.1
  have hb := X.1.2.1
  have hbA : ¬ (fun q : Nat => s.heap.size ≤ q) b := Nat.not_le.mpr hbl
  refine lv_aload_n hx hb dL_law_1576 rfl (lv_at hl 1 rfl) ?_
  refine lv_aload_n hx hb dL_law_1577 rfl (lv_at hl 0 rfl) ?_
  refine lv_iload_n hx hb dL_law_1578 rfl (lv_at hl 3 rfl) ?_
  refine lv_iconst (v := 1) hx hb dL_law_1579 (by decide) ?_
  refine lv_iadd hx hb dL_law_1580 ?_
  refine va_sld hx hb hX hbl hbA hw.2.2.1 h1 dL_law_1581 ?_
  refine lv_aload_n hx hb dL_law_1582 rfl (lv_at hl 0 rfl) ?_
  refine lv_iload_n hx hb dL_law_1583 rfl (lv_at hl 3 rfl) ?_
  refine lv_iconst (v := 2) hx hb dL_law_1584 (by decide) ?_
  refine lv_iadd hx hb dL_law_1585 ?_
  refine va_sld hx hb hX hbl hbA hw.2.2.1 h2 dL_law_1586 ?_
  refine lv_aload_n hx hb dL_law_1587 rfl (lv_at hl 0 rfl) ?_
  refine lv_iload_n hx hb dL_law_1588 rfl (lv_at hl 3 rfl) ?_
  refine lv_iconst (v := 3) hx hb dL_law_1589 (by decide) ?_
  refine lv_iadd hx hb dL_law_1590 ?_
  refine va_sld hx hb hX hbl hbA hw.2.2.1 h3 dL_law_1591 ?_
  obtain ⟨o1, ho1, hS⟩ := hS ro nw kp dr sh tp lw se rm K T hI (xs (x3 + 1).toNatClampNeg) (xs (x3 + 2).toNatClampNeg) (xs (x3 + 3).toNatClampNeg)
  refine g_calli0 (isC := [0, 1, 4, 6, 7]) (gn := fun _ => ([wRO g a0 (a1 0) (a2 0) (a3 0) (a4 0) (a5 0) (a6 0) (a7 0) o1.2.1, wEV g a1 nw, wEV g a2 kp, wEV g a3 dr, wSH g a4 sh, wTP g a5 tp, wLW g a6 o1.2.2.1, wSE g a7 o1.2.2.2, wRM g am (K.map fun _ => aK 0) (T.map fun _ => aT 0) rm] ++ (oW g aK K ++ oW g aT T))) (g_runV (isC := [0, 1, 4, 6, 7]) (rest := []) (As := [.int (xs (x3 + 1).toNatClampNeg), .int (xs (x3 + 2).toNatClampNeg), .int (xs (x3 + 3).toNatClampNeg)]) X hw (c_X5_broken l (ad := a0) (adN := a1) (adS := a4) (adL := a6) (adE := a7) (aK := (a2 0)) (aD := (a3 0)) (aT := (a5 0)) ho1) rfl kM_X5_broken ki_X5_broken ks_X5_broken km_L_180 ⟨(Nat.le_of_ble_eq_true rfl), (Nat.le_of_ble_eq_true rfl)⟩ (law_c hB (by decide) (by decide)) rfl rfl ⟨_, _, _, _, rfl, rfl, rfl, rfl⟩ rfl hl.1 rfl (Nat.le_of_ble_eq_true rfl) dL_law_1592) hw rfl rfl (fun _ => (Nat.le_of_ble_eq_true rfl)) (fun _ => (gputs_eq rfl).trans rfl) rfl rfl (fun _ H locs hw => ?_)
  refine lv_aload_n hx hb dL_law_1595 rfl (lv_at hl 2 rfl) ?_
  refine lv_aload_n hx hb dL_law_1596 rfl (lv_at hl 0 rfl) ?_
  refine lv_iload_n hx hb dL_law_1597 rfl (lv_at hl 3 rfl) ?_
  refine lv_iconst (v := 1) hx hb dL_law_1598 (by decide) ?_
  refine lv_iadd hx hb dL_law_1599 ?_
  refine va_sld hx hb hX hbl hbA hw.2.2.1 h1 dL_law_1600 ?_
  refine lv_aload_n hx hb dL_law_1601 rfl (lv_at hl 0 rfl) ?_
  refine lv_iload_n hx hb dL_law_1602 rfl (lv_at hl 3 rfl) ?_
  refine lv_iconst (v := 2) hx hb dL_law_1603 (by decide) ?_
  refine lv_iadd hx hb dL_law_1604 ?_
  refine va_sld hx hb hX hbl hbA hw.2.2.1 h2 dL_law_1605 ?_
  refine lv_aload_n hx hb dL_law_1606 rfl (lv_at hl 0 rfl) ?_
  refine lv_iload_n hx hb dL_law_1607 rfl (lv_at hl 3 rfl) ?_
  refine lv_iconst (v := 3) hx hb dL_law_1608 (by decide) ?_
  refine lv_iadd hx hb dL_law_1609 ?_
  refine va_sld hx hb hX hbl hbA hw.2.2.1 h3 dL_law_1610 ?_
  obtain ⟨o2, ho2, heq, hI⟩ := hS
  refine g_calli0 (isC := [8]) (gn := fun _ => ([wRO g a0 (a1 0) (a2 0) (a3 0) (a4 0) (a5 0) (a6 0) (a7 0) o1.2.1, wEV g a1 nw, wEV g a2 kp, wEV g a3 dr, wSH g a4 sh, wTP g a5 tp, wLW g a6 o1.2.2.1, wSE g a7 o1.2.2.2, wRM g am (K.map fun _ => aK 0) (T.map fun _ => aT 0) o2.2] ++ (oW g aK K ++ oW g aT T))) (g_runV (isC := [8]) (rest := [.int o1.1]) (As := [.int (xs (x3 + 1).toNatClampNeg), .int (xs (x3 + 2).toNatClampNeg), .int (xs (x3 + 3).toNatClampNeg)]) X hw (c_X6_broken l (ad := am) (eK := (K.map fun _ => aK 0)) (eT := (T.map fun _ => aT 0)) ho2) rfl kM_X6_broken ki_X6_broken ks_X6_broken km_L_183 ⟨(Nat.le_of_ble_eq_true rfl), (Nat.le_of_ble_eq_true rfl)⟩ (law_c hB (by decide) (by decide)) rfl rfl ⟨_, _, _, _, rfl, rfl, rfl, rfl⟩ rfl hl.1 rfl (Nat.le_of_ble_eq_true rfl) dL_law_1611) hw rfl rfl (fun _ => (Nat.le_of_ble_eq_true rfl)) (fun _ => (gputs_eq rfl).trans rfl) rfl rfl (fun _ H locs hw => ?_)
  refine lv_icmp_eq (tgt := 1985) hx hb dL_law_1614 (by decide) (fun _ => ?_) (fun z => absurd heq z)
  refine W.widen (k := cells + 37) (n := slots + 2859) (by first | omega | exact Nat.add_le_add_left (Nat.le_of_ble_eq_true rfl) _) (by first | omega | exact Nat.add_le_add_left (Nat.le_of_ble_eq_true rfl) _) ?_
  exact next _ _ _ _ _ _ _ _ _ _ _ hI a0 a1 a2 a3 a4 a5 a6 a7 am aK aT _ _ _ hw hl
set_option maxHeartbeats 4000000 in
set_option maxRecDepth 100000 in
theorem law_once (X : gC p s m meth c #[Value.ref b] RL cL_law 4 g (fun q : Nat => s.heap.size ≤ q)) (hX : va_X b L xs s s.heap) (hbl : b < s.heap.size) {I : RO → EV → EV → EV → SH → TP → LW → SE → RM → Option RM → Option RM → Prop} (hS : S_once I) (hB : cells + 37 ≤ 600000 ∧ slots + 2859 ≤ 7302249) {x3 : Int32} (h1 : vp_in (x3 + 1) L) (h2 : vp_in (x3 + 2) L) (h3 : vp_in (x3 + 3) L) (h4 : vp_in (x3 + 4) L) (h5 : vp_in (x3 + 5) L)
    (next : lawNext p l e s m below meth c b g I Q (cells + 37) (slots + 2859) x3)
    (ro : RO) (nw : EV) (kp : EV) (dr : EV) (sh : SH) (tp : TP) (lw : LW) (se : SE) (rm : RM) (K : Option RM) (T : Option RM) (hI : I ro nw kp dr sh tp lw se rm K T) (a0 a1 a2 a3 a4 a5 a6 a7 am aK aT : Nat → Nat) (H : Heap) (locs : List Loc) (ls : Array Slot) (hw : gW g (fun q : Nat => s.heap.size ≤ q) s.heap (lawW g ro nw kp dr sh tp lw se rm K T a0 a1 a2 a3 a4 a5 a6 a7 am aK aT) H locs) (hl : lv_has ls 4 [(0, .ref b), (1, .ref (a0 0)), (2, .ref (am 0)), (3, .int x3)]) : W p l e room_1 s m #[Value.ref b] below meth c H locs cells slots Q (F0 m 1619 ls []) := by
  have hx := X.1.1
  have hb := X.1.2.1
  have hbA : ¬ (fun q : Nat => s.heap.size ≤ q) b := Nat.not_le.mpr hbl
  refine lv_aload_n hx hb dL_law_1619 rfl (lv_at hl 1 rfl) ?_
  refine lv_aload_n hx hb dL_law_1620 rfl (lv_at hl 0 rfl) ?_
  refine lv_iload_n hx hb dL_law_1621 rfl (lv_at hl 3 rfl) ?_
  refine lv_iconst (v := 1) hx hb dL_law_1622 (by decide) ?_
  refine lv_iadd hx hb dL_law_1623 ?_
  refine va_sld hx hb hX hbl hbA hw.2.2.1 h1 dL_law_1624 ?_
  refine lv_aload_n hx hb dL_law_1625 rfl (lv_at hl 0 rfl) ?_
  refine lv_iload_n hx hb dL_law_1626 rfl (lv_at hl 3 rfl) ?_
  refine lv_iconst (v := 2) hx hb dL_law_1627 (by decide) ?_
  refine lv_iadd hx hb dL_law_1628 ?_
  refine va_sld hx hb hX hbl hbA hw.2.2.1 h2 dL_law_1629 ?_
  refine lv_aload_n hx hb dL_law_1630 rfl (lv_at hl 0 rfl) ?_
  refine lv_iload_n hx hb dL_law_1631 rfl (lv_at hl 3 rfl) ?_
  refine lv_iconst (v := 3) hx hb dL_law_1632 (by decide) ?_
  refine lv_iadd hx hb dL_law_1633 ?_
  refine va_sld hx hb hX hbl hbA hw.2.2.1 h3 dL_law_1634 ?_
  obtain ⟨o1, ho1, hS⟩ := hS ro nw kp dr sh tp lw se rm K T hI (xs (x3 + 1).toNatClampNeg) (xs (x3 + 2).toNatClampNeg) (xs (x3 + 3).toNatClampNeg)
  refine g_calli0 (isC := [0, 1, 4, 6, 7]) (gn := fun _ => ([wRO g a0 (a1 0) (a2 0) (a3 0) (a4 0) (a5 0) (a6 0) (a7 0) o1.2.1, wEV g a1 nw, wEV g a2 kp, wEV g a3 dr, wSH g a4 sh, wTP g a5 tp, wLW g a6 o1.2.2.1, wSE g a7 o1.2.2.2, wRM g am (K.map fun _ => aK 0) (T.map fun _ => aT 0) rm] ++ (oW g aK K ++ oW g aT T))) (g_runV (isC := [0, 1, 4, 6, 7]) (rest := []) (As := [.int (xs (x3 + 1).toNatClampNeg), .int (xs (x3 + 2).toNatClampNeg), .int (xs (x3 + 3).toNatClampNeg)]) X hw (c_X5_once l (ad := a0) (adN := a1) (adS := a4) (adL := a6) (adE := a7) (aK := (a2 0)) (aD := (a3 0)) (aT := (a5 0)) ho1) rfl kM_X5_once ki_X5_once ks_X5_once km_L_184 ⟨(Nat.le_of_ble_eq_true rfl), (Nat.le_of_ble_eq_true rfl)⟩ (law_c hB (by decide) (by decide)) rfl rfl ⟨_, _, _, _, rfl, rfl, rfl, rfl⟩ rfl hl.1 rfl (Nat.le_of_ble_eq_true rfl) dL_law_1635) hw rfl rfl (fun _ => (Nat.le_of_ble_eq_true rfl)) (fun _ => (gputs_eq rfl).trans rfl) rfl rfl (fun _ H locs hw => ?_)
  refine lv_aload_n hx hb dL_law_1638 rfl (lv_at hl 2 rfl) ?_
  refine lv_aload_n hx hb dL_law_1639 rfl (lv_at hl 0 rfl) ?_
  refine lv_iload_n hx hb dL_law_1640 rfl (lv_at hl 3 rfl) ?_
  refine lv_iconst (v := 1) hx hb dL_law_1641 (by decide) ?_
  refine lv_iadd hx hb dL_law_1642 ?_
  refine va_sld hx hb hX hbl hbA hw.2.2.1 h1 dL_law_1643 ?_
  refine lv_aload_n hx hb dL_law_1644 rfl (lv_at hl 0 rfl) ?_
  refine lv_iload_n hx hb dL_law_1645 rfl (lv_at hl 3 rfl) ?_
  refine lv_iconst (v := 2) hx hb dL_law_1646 (by decide) ?_
  refine lv_iadd hx hb dL_law_1647 ?_
  refine va_sld hx hb hX hbl hbA hw.2.2.1 h2 dL_law_1648 ?_
  refine lv_aload_n hx hb dL_law_1649 rfl (lv_at hl 0 rfl) ?_
  refine lv_iload_n hx hb dL_law_1650 rfl (lv_at hl 3 rfl) ?_
  refine lv_iconst (v := 3) hx hb dL_law_1651 (by decide) ?_
  refine lv_iadd hx hb dL_law_1652 ?_
  refine va_sld hx hb hX hbl hbA hw.2.2.1 h3 dL_law_1653 ?_
  obtain ⟨o2, ho2, heq, hI⟩ := hS
  refine g_calli0 (isC := [8]) (gn := fun _ => ([wRO g a0 (a1 0) (a2 0) (a3 0) (a4 0) (a5 0) (a6 0) (a7 0) o1.2.1, wEV g a1 nw, wEV g a2 kp, wEV g a3 dr, wSH g a4 sh, wTP g a5 tp, wLW g a6 o1.2.2.1, wSE g a7 o1.2.2.2, wRM g am (K.map fun _ => aK 0) (T.map fun _ => aT 0) o2.2] ++ (oW g aK K ++ oW g aT T))) (g_runV (isC := [8]) (rest := [.int o1.1]) (As := [.int (xs (x3 + 1).toNatClampNeg), .int (xs (x3 + 2).toNatClampNeg), .int (xs (x3 + 3).toNatClampNeg)]) X hw (c_X6_once l (ad := am) (eK := (K.map fun _ => aK 0)) (eT := (T.map fun _ => aT 0)) ho2) rfl kM_X6_once ki_X6_once ks_X6_once km_L_187 ⟨(Nat.le_of_ble_eq_true rfl), (Nat.le_of_ble_eq_true rfl)⟩ (law_c hB (by decide) (by decide)) rfl rfl ⟨_, _, _, _, rfl, rfl, rfl, rfl⟩ rfl hl.1 rfl (Nat.le_of_ble_eq_true rfl) dL_law_1654) hw rfl rfl (fun _ => (Nat.le_of_ble_eq_true rfl)) (fun _ => (gputs_eq rfl).trans rfl) rfl rfl (fun _ H locs hw => ?_)
  refine lv_icmp_eq (tgt := 1985) hx hb dL_law_1657 (by decide) (fun _ => ?_) (fun z => absurd heq z)
  refine W.widen (k := cells + 37) (n := slots + 2859) (by first | omega | exact Nat.add_le_add_left (Nat.le_of_ble_eq_true rfl) _) (by first | omega | exact Nat.add_le_add_left (Nat.le_of_ble_eq_true rfl) _) ?_
  exact next _ _ _ _ _ _ _ _ _ _ _ hI a0 a1 a2 a3 a4 a5 a6 a7 am aK aT _ _ _ hw hl
set_option maxHeartbeats 4000000 in
set_option maxRecDepth 100000 in
theorem law_judge (X : gC p s m meth c #[Value.ref b] RL cL_law 4 g (fun q : Nat => s.heap.size ≤ q)) (hX : va_X b L xs s s.heap) (hbl : b < s.heap.size) {I : RO → EV → EV → EV → SH → TP → LW → SE → RM → Option RM → Option RM → Prop} (hS : S_judge I) (hB : cells + 37 ≤ 600000 ∧ slots + 2859 ≤ 7302249) {x3 : Int32} (h1 : vp_in (x3 + 1) L) (h2 : vp_in (x3 + 2) L) (h3 : vp_in (x3 + 3) L) (h4 : vp_in (x3 + 4) L) (h5 : vp_in (x3 + 5) L)
    (next : lawNext p l e s m below meth c b g I Q (cells + 37) (slots + 2859) x3)
    (ro : RO) (nw : EV) (kp : EV) (dr : EV) (sh : SH) (tp : TP) (lw : LW) (se : SE) (rm : RM) (K : Option RM) (T : Option RM) (hI : I ro nw kp dr sh tp lw se rm K T) (a0 a1 a2 a3 a4 a5 a6 a7 am aK aT : Nat → Nat) (H : Heap) (locs : List Loc) (ls : Array Slot) (hw : gW g (fun q : Nat => s.heap.size ≤ q) s.heap (lawW g ro nw kp dr sh tp lw se rm K T a0 a1 a2 a3 a4 a5 a6 a7 am aK aT) H locs) (hl : lv_has ls 4 [(0, .ref b), (1, .ref (a0 0)), (2, .ref (am 0)), (3, .int x3)]) : W p l e room_1 s m #[Value.ref b] below meth c H locs cells slots Q (F0 m 1662 ls []) := by
  have hx := X.1.1
  have hb := X.1.2.1
  have hbA : ¬ (fun q : Nat => s.heap.size ≤ q) b := Nat.not_le.mpr hbl
  refine lv_aload_n hx hb dL_law_1662 rfl (lv_at hl 1 rfl) ?_
  refine lv_aload_n hx hb dL_law_1663 rfl (lv_at hl 0 rfl) ?_
  refine lv_iload_n hx hb dL_law_1664 rfl (lv_at hl 3 rfl) ?_
  refine lv_iconst (v := 1) hx hb dL_law_1665 (by decide) ?_
  refine lv_iadd hx hb dL_law_1666 ?_
  refine va_sld hx hb hX hbl hbA hw.2.2.1 h1 dL_law_1667 ?_
  refine lv_aload_n hx hb dL_law_1668 rfl (lv_at hl 0 rfl) ?_
  refine lv_iload_n hx hb dL_law_1669 rfl (lv_at hl 3 rfl) ?_
  refine lv_iconst (v := 2) hx hb dL_law_1670 (by decide) ?_
  refine lv_iadd hx hb dL_law_1671 ?_
  refine va_sld hx hb hX hbl hbA hw.2.2.1 h2 dL_law_1672 ?_
  refine lv_aload_n hx hb dL_law_1673 rfl (lv_at hl 0 rfl) ?_
  refine lv_iload_n hx hb dL_law_1674 rfl (lv_at hl 3 rfl) ?_
  refine lv_iconst (v := 3) hx hb dL_law_1675 (by decide) ?_
  refine lv_iadd hx hb dL_law_1676 ?_
  refine va_sld hx hb hX hbl hbA hw.2.2.1 h3 dL_law_1677 ?_
  obtain ⟨o1, ho1, hS⟩ := hS ro nw kp dr sh tp lw se rm K T hI (xs (x3 + 1).toNatClampNeg) (xs (x3 + 2).toNatClampNeg) (xs (x3 + 3).toNatClampNeg)
  refine g_calli0 (isC := [0, 1, 4, 6]) (gn := fun _ => ([wRO g a0 (a1 0) (a2 0) (a3 0) (a4 0) (a5 0) (a6 0) (a7 0) o1.2.1, wEV g a1 nw, wEV g a2 kp, wEV g a3 dr, wSH g a4 sh, wTP g a5 tp, wLW g a6 o1.2.2, wSE g a7 se, wRM g am (K.map fun _ => aK 0) (T.map fun _ => aT 0) rm] ++ (oW g aK K ++ oW g aT T))) (g_runV (isC := [0, 1, 4, 6]) (rest := []) (As := [.int (xs (x3 + 1).toNatClampNeg), .int (xs (x3 + 2).toNatClampNeg), .int (xs (x3 + 3).toNatClampNeg)]) X hw (c_X5_judge l (ad := a0) (adN := a1) (adS := a4) (adL := a6) (aK := (a2 0)) (aD := (a3 0)) (aT := (a5 0)) (aE := (a7 0)) ho1) rfl kM_X5_judge ki_X5_judge ks_X5_judge km_L_188 ⟨(Nat.le_of_ble_eq_true rfl), (Nat.le_of_ble_eq_true rfl)⟩ (law_c hB (by decide) (by decide)) rfl rfl ⟨_, _, _, _, rfl, rfl, rfl, rfl⟩ rfl hl.1 rfl (Nat.le_of_ble_eq_true rfl) dL_law_1678) hw rfl rfl (fun _ => (Nat.le_of_ble_eq_true rfl)) (fun _ => (gputs_eq rfl).trans rfl) rfl rfl (fun _ H locs hw => ?_)
  refine lv_aload_n hx hb dL_law_1681 rfl (lv_at hl 2 rfl) ?_
  refine lv_aload_n hx hb dL_law_1682 rfl (lv_at hl 0 rfl) ?_
  refine lv_iload_n hx hb dL_law_1683 rfl (lv_at hl 3 rfl) ?_
  refine lv_iconst (v := 1) hx hb dL_law_1684 (by decide) ?_
  refine lv_iadd hx hb dL_law_1685 ?_
  refine va_sld hx hb hX hbl hbA hw.2.2.1 h1 dL_law_1686 ?_
  refine lv_aload_n hx hb dL_law_1687 rfl (lv_at hl 0 rfl) ?_
  refine lv_iload_n hx hb dL_law_1688 rfl (lv_at hl 3 rfl) ?_
  refine lv_iconst (v := 2) hx hb dL_law_1689 (by decide) ?_
  refine lv_iadd hx hb dL_law_1690 ?_
  refine va_sld hx hb hX hbl hbA hw.2.2.1 h2 dL_law_1691 ?_
  refine lv_aload_n hx hb dL_law_1692 rfl (lv_at hl 0 rfl) ?_
  refine lv_iload_n hx hb dL_law_1693 rfl (lv_at hl 3 rfl) ?_
  refine lv_iconst (v := 3) hx hb dL_law_1694 (by decide) ?_
  refine lv_iadd hx hb dL_law_1695 ?_
  refine va_sld hx hb hX hbl hbA hw.2.2.1 h3 dL_law_1696 ?_
  obtain ⟨o2, ho2, heq, hI⟩ := hS
  refine g_calli0 (isC := [8]) (gn := fun _ => ([wRO g a0 (a1 0) (a2 0) (a3 0) (a4 0) (a5 0) (a6 0) (a7 0) o1.2.1, wEV g a1 nw, wEV g a2 kp, wEV g a3 dr, wSH g a4 sh, wTP g a5 tp, wLW g a6 o1.2.2, wSE g a7 se, wRM g am (K.map fun _ => aK 0) (T.map fun _ => aT 0) o2.2] ++ (oW g aK K ++ oW g aT T))) (g_runV (isC := [8]) (rest := [.int o1.1]) (As := [.int (xs (x3 + 1).toNatClampNeg), .int (xs (x3 + 2).toNatClampNeg), .int (xs (x3 + 3).toNatClampNeg)]) X hw (c_X6_judge l (ad := am) (eK := (K.map fun _ => aK 0)) (eT := (T.map fun _ => aT 0)) ho2) rfl kM_X6_judge ki_X6_judge ks_X6_judge km_L_191 ⟨(Nat.le_of_ble_eq_true rfl), (Nat.le_of_ble_eq_true rfl)⟩ (law_c hB (by decide) (by decide)) rfl rfl ⟨_, _, _, _, rfl, rfl, rfl, rfl⟩ rfl hl.1 rfl (Nat.le_of_ble_eq_true rfl) dL_law_1697) hw rfl rfl (fun _ => (Nat.le_of_ble_eq_true rfl)) (fun _ => (gputs_eq rfl).trans rfl) rfl rfl (fun _ H locs hw => ?_)
  refine lv_icmp_eq (tgt := 1985) hx hb dL_law_1700 (by decide) (fun _ => ?_) (fun z => absurd heq z)
  refine W.widen (k := cells + 37) (n := slots + 2859) (by first | omega | exact Nat.add_le_add_left (Nat.le_of_ble_eq_true rfl) _) (by first | omega | exact Nat.add_le_add_left (Nat.le_of_ble_eq_true rfl) _) ?_
  exact next _ _ _ _ _ _ _ _ _ _ _ hI a0 a1 a2 a3 a4 a5 a6 a7 am aK aT _ _ _ hw hl
set_option maxHeartbeats 4000000 in
set_option maxRecDepth 100000 in
theorem law_behind (X : gC p s m meth c #[Value.ref b] RL cL_law 4 g (fun q : Nat => s.heap.size ≤ q)) (hX : va_X b L xs s s.heap) (hbl : b < s.heap.size) {I : RO → EV → EV → EV → SH → TP → LW → SE → RM → Option RM → Option RM → Prop} (hS : S_behind I) (hB : cells + 37 ≤ 600000 ∧ slots + 2859 ≤ 7302249) {x3 : Int32} (h1 : vp_in (x3 + 1) L) (h2 : vp_in (x3 + 2) L) (h3 : vp_in (x3 + 3) L) (h4 : vp_in (x3 + 4) L) (h5 : vp_in (x3 + 5) L)
    (next : lawNext p l e s m below meth c b g I Q (cells + 37) (slots + 2859) x3)
    (ro : RO) (nw : EV) (kp : EV) (dr : EV) (sh : SH) (tp : TP) (lw : LW) (se : SE) (rm : RM) (K : Option RM) (T : Option RM) (hI : I ro nw kp dr sh tp lw se rm K T) (a0 a1 a2 a3 a4 a5 a6 a7 am aK aT : Nat → Nat) (H : Heap) (locs : List Loc) (ls : Array Slot) (hw : gW g (fun q : Nat => s.heap.size ≤ q) s.heap (lawW g ro nw kp dr sh tp lw se rm K T a0 a1 a2 a3 a4 a5 a6 a7 am aK aT) H locs) (hl : lv_has ls 4 [(0, .ref b), (1, .ref (a0 0)), (2, .ref (am 0)), (3, .int x3)]) : W p l e room_1 s m #[Value.ref b] below meth c H locs cells slots Q (F0 m 1705 ls []) := by
  have hx := X.1.1
  have hb := X.1.2.1
  have hbA : ¬ (fun q : Nat => s.heap.size ≤ q) b := Nat.not_le.mpr hbl
  refine lv_aload_n hx hb dL_law_1705 rfl (lv_at hl 1 rfl) ?_
  refine lv_aload_n hx hb dL_law_1706 rfl (lv_at hl 0 rfl) ?_
  refine lv_iload_n hx hb dL_law_1707 rfl (lv_at hl 3 rfl) ?_
  refine lv_iconst (v := 1) hx hb dL_law_1708 (by decide) ?_
  refine lv_iadd hx hb dL_law_1709 ?_
  refine va_sld hx hb hX hbl hbA hw.2.2.1 h1 dL_law_1710 ?_
  refine lv_aload_n hx hb dL_law_1711 rfl (lv_at hl 0 rfl) ?_
  refine lv_iload_n hx hb dL_law_1712 rfl (lv_at hl 3 rfl) ?_
  refine lv_iconst (v := 2) hx hb dL_law_1713 (by decide) ?_
  refine lv_iadd hx hb dL_law_1714 ?_
  refine va_sld hx hb hX hbl hbA hw.2.2.1 h2 dL_law_1715 ?_
  refine lv_aload_n hx hb dL_law_1716 rfl (lv_at hl 0 rfl) ?_
  refine lv_iload_n hx hb dL_law_1717 rfl (lv_at hl 3 rfl) ?_
  refine lv_iconst (v := 3) hx hb dL_law_1718 (by decide) ?_
  refine lv_iadd hx hb dL_law_1719 ?_
  refine va_sld hx hb hX hbl hbA hw.2.2.1 h3 dL_law_1720 ?_
  obtain ⟨o1, ho1, hS⟩ := hS ro nw kp dr sh tp lw se rm K T hI (xs (x3 + 1).toNatClampNeg) (xs (x3 + 2).toNatClampNeg) (xs (x3 + 3).toNatClampNeg)
  refine g_calli0 (isC := [0, 1, 4, 6]) (gn := fun _ => ([wRO g a0 (a1 0) (a2 0) (a3 0) (a4 0) (a5 0) (a6 0) (a7 0) o1.2.1, wEV g a1 nw, wEV g a2 kp, wEV g a3 dr, wSH g a4 sh, wTP g a5 tp, wLW g a6 o1.2.2, wSE g a7 se, wRM g am (K.map fun _ => aK 0) (T.map fun _ => aT 0) rm] ++ (oW g aK K ++ oW g aT T))) (g_runV (isC := [0, 1, 4, 6]) (rest := []) (As := [.int (xs (x3 + 1).toNatClampNeg), .int (xs (x3 + 2).toNatClampNeg), .int (xs (x3 + 3).toNatClampNeg)]) X hw (c_X5_behind l (ad := a0) (adN := a1) (adS := a4) (adL := a6) (aK := (a2 0)) (aD := (a3 0)) (aT := (a5 0)) (aE := (a7 0)) ho1) rfl kM_X5_behind ki_X5_behind ks_X5_behind km_L_192 ⟨(Nat.le_of_ble_eq_true rfl), (Nat.le_of_ble_eq_true rfl)⟩ (law_c hB (by decide) (by decide)) rfl rfl ⟨_, _, _, _, rfl, rfl, rfl, rfl⟩ rfl hl.1 rfl (Nat.le_of_ble_eq_true rfl) dL_law_1721) hw rfl rfl (fun _ => (Nat.le_of_ble_eq_true rfl)) (fun _ => (gputs_eq rfl).trans rfl) rfl rfl (fun _ H locs hw => ?_)
  refine lv_aload_n hx hb dL_law_1724 rfl (lv_at hl 2 rfl) ?_
  refine lv_aload_n hx hb dL_law_1725 rfl (lv_at hl 0 rfl) ?_
  refine lv_iload_n hx hb dL_law_1726 rfl (lv_at hl 3 rfl) ?_
  refine lv_iconst (v := 1) hx hb dL_law_1727 (by decide) ?_
  refine lv_iadd hx hb dL_law_1728 ?_
  refine va_sld hx hb hX hbl hbA hw.2.2.1 h1 dL_law_1729 ?_
  refine lv_aload_n hx hb dL_law_1730 rfl (lv_at hl 0 rfl) ?_
  refine lv_iload_n hx hb dL_law_1731 rfl (lv_at hl 3 rfl) ?_
  refine lv_iconst (v := 2) hx hb dL_law_1732 (by decide) ?_
  refine lv_iadd hx hb dL_law_1733 ?_
  refine va_sld hx hb hX hbl hbA hw.2.2.1 h2 dL_law_1734 ?_
  refine lv_aload_n hx hb dL_law_1735 rfl (lv_at hl 0 rfl) ?_
  refine lv_iload_n hx hb dL_law_1736 rfl (lv_at hl 3 rfl) ?_
  refine lv_iconst (v := 3) hx hb dL_law_1737 (by decide) ?_
  refine lv_iadd hx hb dL_law_1738 ?_
  refine va_sld hx hb hX hbl hbA hw.2.2.1 h3 dL_law_1739 ?_
  obtain ⟨o2, ho2, heq, hI⟩ := hS
  refine g_calli0 (isC := [8]) (gn := fun _ => ([wRO g a0 (a1 0) (a2 0) (a3 0) (a4 0) (a5 0) (a6 0) (a7 0) o1.2.1, wEV g a1 nw, wEV g a2 kp, wEV g a3 dr, wSH g a4 sh, wTP g a5 tp, wLW g a6 o1.2.2, wSE g a7 se, wRM g am (K.map fun _ => aK 0) (T.map fun _ => aT 0) o2.2] ++ (oW g aK K ++ oW g aT T))) (g_runV (isC := [8]) (rest := [.int o1.1]) (As := [.int (xs (x3 + 1).toNatClampNeg), .int (xs (x3 + 2).toNatClampNeg), .int (xs (x3 + 3).toNatClampNeg)]) X hw (c_X6_behind l (ad := am) (eK := (K.map fun _ => aK 0)) (eT := (T.map fun _ => aT 0)) ho2) rfl kM_X6_behind ki_X6_behind ks_X6_behind km_L_195 ⟨(Nat.le_of_ble_eq_true rfl), (Nat.le_of_ble_eq_true rfl)⟩ (law_c hB (by decide) (by decide)) rfl rfl ⟨_, _, _, _, rfl, rfl, rfl, rfl⟩ rfl hl.1 rfl (Nat.le_of_ble_eq_true rfl) dL_law_1740) hw rfl rfl (fun _ => (Nat.le_of_ble_eq_true rfl)) (fun _ => (gputs_eq rfl).trans rfl) rfl rfl (fun _ H locs hw => ?_)
  refine lv_icmp_eq (tgt := 1985) hx hb dL_law_1743 (by decide) (fun _ => ?_) (fun z => absurd heq z)
  refine W.widen (k := cells + 37) (n := slots + 2859) (by first | omega | exact Nat.add_le_add_left (Nat.le_of_ble_eq_true rfl) _) (by first | omega | exact Nat.add_le_add_left (Nat.le_of_ble_eq_true rfl) _) ?_
  exact next _ _ _ _ _ _ _ _ _ _ _ hI a0 a1 a2 a3 a4 a5 a6 a7 am aK aT _ _ _ hw hl
set_option maxHeartbeats 4000000 in
set_option maxRecDepth 100000 in
theorem law_moved (X : gC p s m meth c #[Value.ref b] RL cL_law 4 g (fun q : Nat => s.heap.size ≤ q)) (hX : va_X b L xs s s.heap) (hbl : b < s.heap.size) {I : RO → EV → EV → EV → SH → TP → LW → SE → RM → Option RM → Option RM → Prop} (hS : S_moved I) (hB : cells + 37 ≤ 600000 ∧ slots + 2859 ≤ 7302249) {x3 : Int32} (h1 : vp_in (x3 + 1) L) (h2 : vp_in (x3 + 2) L) (h3 : vp_in (x3 + 3) L) (h4 : vp_in (x3 + 4) L) (h5 : vp_in (x3 + 5) L)
    (next : lawNext p l e s m below meth c b g I Q (cells + 37) (slots + 2859) x3)
    (ro : RO) (nw : EV) (kp : EV) (dr : EV) (sh : SH) (tp : TP) (lw : LW) (se : SE) (rm : RM) (K : Option RM) (T : Option RM) (hI : I ro nw kp dr sh tp lw se rm K T) (a0 a1 a2 a3 a4 a5 a6 a7 am aK aT : Nat → Nat) (H : Heap) (locs : List Loc) (ls : Array Slot) (hw : gW g (fun q : Nat => s.heap.size ≤ q) s.heap (lawW g ro nw kp dr sh tp lw se rm K T a0 a1 a2 a3 a4 a5 a6 a7 am aK aT) H locs) (hl : lv_has ls 4 [(0, .ref b), (1, .ref (a0 0)), (2, .ref (am 0)), (3, .int x3)]) : W p l e room_1 s m #[Value.ref b] below meth c H locs cells slots Q (F0 m 1748 ls []) := by
  have hx := X.1.1
  have hb := X.1.2.1
  have hbA : ¬ (fun q : Nat => s.heap.size ≤ q) b := Nat.not_le.mpr hbl
  refine lv_aload_n hx hb dL_law_1748 rfl (lv_at hl 1 rfl) ?_
  refine lv_aload_n hx hb dL_law_1749 rfl (lv_at hl 0 rfl) ?_
  refine lv_iload_n hx hb dL_law_1750 rfl (lv_at hl 3 rfl) ?_
  refine lv_iconst (v := 1) hx hb dL_law_1751 (by decide) ?_
  refine lv_iadd hx hb dL_law_1752 ?_
  refine va_sld hx hb hX hbl hbA hw.2.2.1 h1 dL_law_1753 ?_
  refine lv_aload_n hx hb dL_law_1754 rfl (lv_at hl 0 rfl) ?_
  refine lv_iload_n hx hb dL_law_1755 rfl (lv_at hl 3 rfl) ?_
  refine lv_iconst (v := 2) hx hb dL_law_1756 (by decide) ?_
  refine lv_iadd hx hb dL_law_1757 ?_
  refine va_sld hx hb hX hbl hbA hw.2.2.1 h2 dL_law_1758 ?_
  refine lv_aload_n hx hb dL_law_1759 rfl (lv_at hl 0 rfl) ?_
  refine lv_iload_n hx hb dL_law_1760 rfl (lv_at hl 3 rfl) ?_
  refine lv_iconst (v := 3) hx hb dL_law_1761 (by decide) ?_
  refine lv_iadd hx hb dL_law_1762 ?_
  refine va_sld hx hb hX hbl hbA hw.2.2.1 h3 dL_law_1763 ?_
  obtain ⟨o1, ho1, hS⟩ := hS ro nw kp dr sh tp lw se rm K T hI (xs (x3 + 1).toNatClampNeg) (xs (x3 + 2).toNatClampNeg) (xs (x3 + 3).toNatClampNeg)
  refine g_calli0 (isC := [0, 1, 4, 6]) (gn := fun _ => ([wRO g a0 (a1 0) (a2 0) (a3 0) (a4 0) (a5 0) (a6 0) (a7 0) o1.2.1, wEV g a1 o1.2.2.1, wEV g a2 kp, wEV g a3 dr, wSH g a4 sh, wTP g a5 tp, wLW g a6 o1.2.2.2, wSE g a7 se, wRM g am (K.map fun _ => aK 0) (T.map fun _ => aT 0) rm] ++ (oW g aK K ++ oW g aT T))) (g_runV (isC := [0, 1, 4, 6]) (rest := []) (As := [.int (xs (x3 + 1).toNatClampNeg), .int (xs (x3 + 2).toNatClampNeg), .int (xs (x3 + 3).toNatClampNeg)]) X hw (c_X5_moved l (ad := a0) (adN := a1) (adS := a4) (adL := a6) (aK := (a2 0)) (aD := (a3 0)) (aT := (a5 0)) (aE := (a7 0)) ho1) rfl kM_X5_moved ki_X5_moved ks_X5_moved km_L_196 ⟨(Nat.le_of_ble_eq_true rfl), (Nat.le_of_ble_eq_true rfl)⟩ (law_c hB (by decide) (by decide)) rfl rfl ⟨_, _, _, _, rfl, rfl, rfl, rfl⟩ rfl hl.1 rfl (Nat.le_of_ble_eq_true rfl) dL_law_1764) hw rfl rfl (fun _ => (Nat.le_of_ble_eq_true rfl)) (fun _ => (gputs_eq rfl).trans rfl) rfl rfl (fun _ H locs hw => ?_)
  refine lv_aload_n hx hb dL_law_1767 rfl (lv_at hl 2 rfl) ?_
  refine lv_aload_n hx hb dL_law_1768 rfl (lv_at hl 0 rfl) ?_
  refine lv_iload_n hx hb dL_law_1769 rfl (lv_at hl 3 rfl) ?_
  refine lv_iconst (v := 1) hx hb dL_law_1770 (by decide) ?_
  refine lv_iadd hx hb dL_law_1771 ?_
  refine va_sld hx hb hX hbl hbA hw.2.2.1 h1 dL_law_1772 ?_
  refine lv_aload_n hx hb dL_law_1773 rfl (lv_at hl 0 rfl) ?_
  refine lv_iload_n hx hb dL_law_1774 rfl (lv_at hl 3 rfl) ?_
  refine lv_iconst (v := 2) hx hb dL_law_1775 (by decide) ?_
  refine lv_iadd hx hb dL_law_1776 ?_
  refine va_sld hx hb hX hbl hbA hw.2.2.1 h2 dL_law_1777 ?_
  refine lv_aload_n hx hb dL_law_1778 rfl (lv_at hl 0 rfl) ?_
  refine lv_iload_n hx hb dL_law_1779 rfl (lv_at hl 3 rfl) ?_
  refine lv_iconst (v := 3) hx hb dL_law_1780 (by decide) ?_
  refine lv_iadd hx hb dL_law_1781 ?_
  refine va_sld hx hb hX hbl hbA hw.2.2.1 h3 dL_law_1782 ?_
  obtain ⟨o2, ho2, heq, hI⟩ := hS
  refine g_calli0 (isC := [8]) (gn := fun _ => ([wRO g a0 (a1 0) (a2 0) (a3 0) (a4 0) (a5 0) (a6 0) (a7 0) o1.2.1, wEV g a1 o1.2.2.1, wEV g a2 kp, wEV g a3 dr, wSH g a4 sh, wTP g a5 tp, wLW g a6 o1.2.2.2, wSE g a7 se, wRM g am (K.map fun _ => aK 0) (T.map fun _ => aT 0) o2.2] ++ (oW g aK K ++ oW g aT T))) (g_runV (isC := [8]) (rest := [.int o1.1]) (As := [.int (xs (x3 + 1).toNatClampNeg), .int (xs (x3 + 2).toNatClampNeg), .int (xs (x3 + 3).toNatClampNeg)]) X hw (c_X6_moved l (ad := am) (eK := (K.map fun _ => aK 0)) (eT := (T.map fun _ => aT 0)) ho2) rfl kM_X6_moved ki_X6_moved ks_X6_moved km_L_199 ⟨(Nat.le_of_ble_eq_true rfl), (Nat.le_of_ble_eq_true rfl)⟩ (law_c hB (by decide) (by decide)) rfl rfl ⟨_, _, _, _, rfl, rfl, rfl, rfl⟩ rfl hl.1 rfl (Nat.le_of_ble_eq_true rfl) dL_law_1783) hw rfl rfl (fun _ => (Nat.le_of_ble_eq_true rfl)) (fun _ => (gputs_eq rfl).trans rfl) rfl rfl (fun _ H locs hw => ?_)
  refine lv_icmp_eq (tgt := 1985) hx hb dL_law_1786 (by decide) (fun _ => ?_) (fun z => absurd heq z)
  refine W.widen (k := cells + 37) (n := slots + 2859) (by first | omega | exact Nat.add_le_add_left (Nat.le_of_ble_eq_true rfl) _) (by first | omega | exact Nat.add_le_add_left (Nat.le_of_ble_eq_true rfl) _) ?_
  exact next _ _ _ _ _ _ _ _ _ _ _ hI a0 a1 a2 a3 a4 a5 a6 a7 am aK aT _ _ _ hw hl
set_option maxHeartbeats 4000000 in
set_option maxRecDepth 100000 in
theorem law_game (X : gC p s m meth c #[Value.ref b] RL cL_law 4 g (fun q : Nat => s.heap.size ≤ q)) (hX : va_X b L xs s s.heap) (hbl : b < s.heap.size) {I : RO → EV → EV → EV → SH → TP → LW → SE → RM → Option RM → Option RM → Prop} (hS : S_game I) (hB : cells + 37 ≤ 600000 ∧ slots + 2859 ≤ 7302249) {x3 : Int32} (h1 : vp_in (x3 + 1) L) (h2 : vp_in (x3 + 2) L) (h3 : vp_in (x3 + 3) L) (h4 : vp_in (x3 + 4) L) (h5 : vp_in (x3 + 5) L)
    (next : lawNext p l e s m below meth c b g I Q (cells + 37) (slots + 2859) x3)
    (ro : RO) (nw : EV) (kp : EV) (dr : EV) (sh : SH) (tp : TP) (lw : LW) (se : SE) (rm : RM) (K : Option RM) (T : Option RM) (hI : I ro nw kp dr sh tp lw se rm K T) (a0 a1 a2 a3 a4 a5 a6 a7 am aK aT : Nat → Nat) (H : Heap) (locs : List Loc) (ls : Array Slot) (hw : gW g (fun q : Nat => s.heap.size ≤ q) s.heap (lawW g ro nw kp dr sh tp lw se rm K T a0 a1 a2 a3 a4 a5 a6 a7 am aK aT) H locs) (hl : lv_has ls 4 [(0, .ref b), (1, .ref (a0 0)), (2, .ref (am 0)), (3, .int x3)]) : W p l e room_1 s m #[Value.ref b] below meth c H locs cells slots Q (F0 m 1791 ls []) := by
  have hx := X.1.1
  have hb := X.1.2.1
  have hbA : ¬ (fun q : Nat => s.heap.size ≤ q) b := Nat.not_le.mpr hbl
  refine lv_aload_n hx hb dL_law_1791 rfl (lv_at hl 1 rfl) ?_
  refine lv_aload_n hx hb dL_law_1792 rfl (lv_at hl 0 rfl) ?_
  refine lv_iload_n hx hb dL_law_1793 rfl (lv_at hl 3 rfl) ?_
  refine lv_iconst (v := 1) hx hb dL_law_1794 (by decide) ?_
  refine lv_iadd hx hb dL_law_1795 ?_
  refine va_sld hx hb hX hbl hbA hw.2.2.1 h1 dL_law_1796 ?_
  refine lv_aload_n hx hb dL_law_1797 rfl (lv_at hl 0 rfl) ?_
  refine lv_iload_n hx hb dL_law_1798 rfl (lv_at hl 3 rfl) ?_
  refine lv_iconst (v := 2) hx hb dL_law_1799 (by decide) ?_
  refine lv_iadd hx hb dL_law_1800 ?_
  refine va_sld hx hb hX hbl hbA hw.2.2.1 h2 dL_law_1801 ?_
  obtain ⟨o1, ho1, hS⟩ := hS ro nw kp dr sh tp lw se rm K T hI (xs (x3 + 1).toNatClampNeg) (xs (x3 + 2).toNatClampNeg)
  refine g_calli0 (isC := [0, 1, 6, 7]) (gn := fun _ => ([wRO g a0 (a1 0) (a2 0) (a3 0) (a4 0) (a5 0) (a6 0) (a7 0) o1.2.1, wEV g a1 nw, wEV g a2 kp, wEV g a3 dr, wSH g a4 sh, wTP g a5 tp, wLW g a6 o1.2.2.1, wSE g a7 o1.2.2.2, wRM g am (K.map fun _ => aK 0) (T.map fun _ => aT 0) rm] ++ (oW g aK K ++ oW g aT T))) (g_runV (isC := [0, 1, 6, 7]) (rest := []) (As := [.int (xs (x3 + 1).toNatClampNeg), .int (xs (x3 + 2).toNatClampNeg)]) X hw (c_X5_game l (ad := a0) (adN := a1) (adL := a6) (adE := a7) (aK := (a2 0)) (aD := (a3 0)) (aS := (a4 0)) (aT := (a5 0)) ho1) rfl kM_X5_game ki_X5_game ks_X5_game km_L_200 ⟨(Nat.le_of_ble_eq_true rfl), (Nat.le_of_ble_eq_true rfl)⟩ (law_c hB (by decide) (by decide)) rfl rfl ⟨_, _, _, _, rfl, rfl, rfl, rfl⟩ rfl hl.1 rfl (Nat.le_of_ble_eq_true rfl) dL_law_1802) hw rfl rfl (fun _ => (Nat.le_of_ble_eq_true rfl)) (fun _ => (gputs_eq rfl).trans rfl) rfl rfl (fun _ H locs hw => ?_)
  refine lv_aload_n hx hb dL_law_1805 rfl (lv_at hl 2 rfl) ?_
  refine lv_aload_n hx hb dL_law_1806 rfl (lv_at hl 0 rfl) ?_
  refine lv_iload_n hx hb dL_law_1807 rfl (lv_at hl 3 rfl) ?_
  refine lv_iconst (v := 1) hx hb dL_law_1808 (by decide) ?_
  refine lv_iadd hx hb dL_law_1809 ?_
  refine va_sld hx hb hX hbl hbA hw.2.2.1 h1 dL_law_1810 ?_
  refine lv_aload_n hx hb dL_law_1811 rfl (lv_at hl 0 rfl) ?_
  refine lv_iload_n hx hb dL_law_1812 rfl (lv_at hl 3 rfl) ?_
  refine lv_iconst (v := 2) hx hb dL_law_1813 (by decide) ?_
  refine lv_iadd hx hb dL_law_1814 ?_
  refine va_sld hx hb hX hbl hbA hw.2.2.1 h2 dL_law_1815 ?_
  obtain ⟨o2, ho2, heq, hI⟩ := hS
  refine g_calli0 (isC := [8]) (gn := fun _ => ([wRO g a0 (a1 0) (a2 0) (a3 0) (a4 0) (a5 0) (a6 0) (a7 0) o1.2.1, wEV g a1 nw, wEV g a2 kp, wEV g a3 dr, wSH g a4 sh, wTP g a5 tp, wLW g a6 o1.2.2.1, wSE g a7 o1.2.2.2, wRM g am (K.map fun _ => aK 0) (T.map fun _ => aT 0) o2.2] ++ (oW g aK K ++ oW g aT T))) (g_runV (isC := [8]) (rest := [.int o1.1]) (As := [.int (xs (x3 + 1).toNatClampNeg), .int (xs (x3 + 2).toNatClampNeg)]) X hw (c_X6_game l (ad := am) (eK := (K.map fun _ => aK 0)) (eT := (T.map fun _ => aT 0)) ho2) rfl kM_X6_game ki_X6_game ks_X6_game km_L_203 ⟨(Nat.le_of_ble_eq_true rfl), (Nat.le_of_ble_eq_true rfl)⟩ (law_c hB (by decide) (by decide)) rfl rfl ⟨_, _, _, _, rfl, rfl, rfl, rfl⟩ rfl hl.1 rfl (Nat.le_of_ble_eq_true rfl) dL_law_1816) hw rfl rfl (fun _ => (Nat.le_of_ble_eq_true rfl)) (fun _ => (gputs_eq rfl).trans rfl) rfl rfl (fun _ H locs hw => ?_)
  refine lv_icmp_eq (tgt := 1985) hx hb dL_law_1819 (by decide) (fun _ => ?_) (fun z => absurd heq z)
  refine W.widen (k := cells + 37) (n := slots + 2859) (by first | omega | exact Nat.add_le_add_left (Nat.le_of_ble_eq_true rfl) _) (by first | omega | exact Nat.add_le_add_left (Nat.le_of_ble_eq_true rfl) _) ?_
  exact next _ _ _ _ _ _ _ _ _ _ _ hI a0 a1 a2 a3 a4 a5 a6 a7 am aK aT _ _ _ hw hl
set_option maxHeartbeats 4000000 in
set_option maxRecDepth 100000 in
theorem law_goes (X : gC p s m meth c #[Value.ref b] RL cL_law 4 g (fun q : Nat => s.heap.size ≤ q)) (hX : va_X b L xs s s.heap) (hbl : b < s.heap.size) {I : RO → EV → EV → EV → SH → TP → LW → SE → RM → Option RM → Option RM → Prop} (hS : S_goes I) (hB : cells + 37 ≤ 600000 ∧ slots + 2859 ≤ 7302249) {x3 : Int32} (h1 : vp_in (x3 + 1) L) (h2 : vp_in (x3 + 2) L) (h3 : vp_in (x3 + 3) L) (h4 : vp_in (x3 + 4) L) (h5 : vp_in (x3 + 5) L)
    (next : lawNext p l e s m below meth c b g I Q (cells + 37) (slots + 2859) x3)
    (ro : RO) (nw : EV) (kp : EV) (dr : EV) (sh : SH) (tp : TP) (lw : LW) (se : SE) (rm : RM) (K : Option RM) (T : Option RM) (hI : I ro nw kp dr sh tp lw se rm K T) (a0 a1 a2 a3 a4 a5 a6 a7 am aK aT : Nat → Nat) (H : Heap) (locs : List Loc) (ls : Array Slot) (hw : gW g (fun q : Nat => s.heap.size ≤ q) s.heap (lawW g ro nw kp dr sh tp lw se rm K T a0 a1 a2 a3 a4 a5 a6 a7 am aK aT) H locs) (hl : lv_has ls 4 [(0, .ref b), (1, .ref (a0 0)), (2, .ref (am 0)), (3, .int x3)]) : W p l e room_1 s m #[Value.ref b] below meth c H locs cells slots Q (F0 m 1824 ls []) := by
  have hx := X.1.1
  have hb := X.1.2.1
  have hbA : ¬ (fun q : Nat => s.heap.size ≤ q) b := Nat.not_le.mpr hbl
  refine lv_aload_n hx hb dL_law_1824 rfl (lv_at hl 1 rfl) ?_
  refine lv_aload_n hx hb dL_law_1825 rfl (lv_at hl 0 rfl) ?_
  refine lv_iload_n hx hb dL_law_1826 rfl (lv_at hl 3 rfl) ?_
  refine lv_iconst (v := 1) hx hb dL_law_1827 (by decide) ?_
  refine lv_iadd hx hb dL_law_1828 ?_
  refine va_sld hx hb hX hbl hbA hw.2.2.1 h1 dL_law_1829 ?_
  refine lv_aload_n hx hb dL_law_1830 rfl (lv_at hl 0 rfl) ?_
  refine lv_iload_n hx hb dL_law_1831 rfl (lv_at hl 3 rfl) ?_
  refine lv_iconst (v := 2) hx hb dL_law_1832 (by decide) ?_
  refine lv_iadd hx hb dL_law_1833 ?_
  refine va_sld hx hb hX hbl hbA hw.2.2.1 h2 dL_law_1834 ?_
  refine lv_aload_n hx hb dL_law_1835 rfl (lv_at hl 0 rfl) ?_
  refine lv_iload_n hx hb dL_law_1836 rfl (lv_at hl 3 rfl) ?_
  refine lv_iconst (v := 3) hx hb dL_law_1837 (by decide) ?_
  refine lv_iadd hx hb dL_law_1838 ?_
  refine va_sld hx hb hX hbl hbA hw.2.2.1 h3 dL_law_1839 ?_
  obtain ⟨o1, ho1, hS⟩ := hS ro nw kp dr sh tp lw se rm K T hI (xs (x3 + 1).toNatClampNeg) (xs (x3 + 2).toNatClampNeg) (xs (x3 + 3).toNatClampNeg)
  refine g_calli0 (isC := [0, 1, 6, 7]) (gn := fun _ => ([wRO g a0 (a1 0) (a2 0) (a3 0) (a4 0) (a5 0) (a6 0) (a7 0) o1.2.1, wEV g a1 o1.2.2.1, wEV g a2 kp, wEV g a3 dr, wSH g a4 sh, wTP g a5 tp, wLW g a6 o1.2.2.2.1, wSE g a7 o1.2.2.2.2, wRM g am (K.map fun _ => aK 0) (T.map fun _ => aT 0) rm] ++ (oW g aK K ++ oW g aT T))) (g_runV (isC := [0, 1, 6, 7]) (rest := []) (As := [.int (xs (x3 + 1).toNatClampNeg), .int (xs (x3 + 2).toNatClampNeg), .int (xs (x3 + 3).toNatClampNeg)]) X hw (c_X5_goes l (ad := a0) (adN := a1) (adL := a6) (adE := a7) (aK := (a2 0)) (aD := (a3 0)) (aS := (a4 0)) (aT := (a5 0)) ho1) rfl kM_X5_goes ki_X5_goes ks_X5_goes km_L_204 ⟨(Nat.le_of_ble_eq_true rfl), (Nat.le_of_ble_eq_true rfl)⟩ (law_c hB (by decide) (by decide)) rfl rfl ⟨_, _, _, _, rfl, rfl, rfl, rfl⟩ rfl hl.1 rfl (Nat.le_of_ble_eq_true rfl) dL_law_1840) hw rfl rfl (fun _ => (Nat.le_of_ble_eq_true rfl)) (fun _ => (gputs_eq rfl).trans rfl) rfl rfl (fun _ H locs hw => ?_)
  refine lv_aload_n hx hb dL_law_1843 rfl (lv_at hl 2 rfl) ?_
  refine lv_aload_n hx hb dL_law_1844 rfl (lv_at hl 0 rfl) ?_
  refine lv_iload_n hx hb dL_law_1845 rfl (lv_at hl 3 rfl) ?_
  refine lv_iconst (v := 1) hx hb dL_law_1846 (by decide) ?_
  refine lv_iadd hx hb dL_law_1847 ?_
  refine va_sld hx hb hX hbl hbA hw.2.2.1 h1 dL_law_1848 ?_
  refine lv_aload_n hx hb dL_law_1849 rfl (lv_at hl 0 rfl) ?_
  refine lv_iload_n hx hb dL_law_1850 rfl (lv_at hl 3 rfl) ?_
  refine lv_iconst (v := 2) hx hb dL_law_1851 (by decide) ?_
  refine lv_iadd hx hb dL_law_1852 ?_
  refine va_sld hx hb hX hbl hbA hw.2.2.1 h2 dL_law_1853 ?_
  refine lv_aload_n hx hb dL_law_1854 rfl (lv_at hl 0 rfl) ?_
  refine lv_iload_n hx hb dL_law_1855 rfl (lv_at hl 3 rfl) ?_
  refine lv_iconst (v := 3) hx hb dL_law_1856 (by decide) ?_
  refine lv_iadd hx hb dL_law_1857 ?_
  refine va_sld hx hb hX hbl hbA hw.2.2.1 h3 dL_law_1858 ?_
  obtain ⟨o2, ho2, heq, hI⟩ := hS
  refine g_calli0 (isC := [8]) (gn := fun _ => ([wRO g a0 (a1 0) (a2 0) (a3 0) (a4 0) (a5 0) (a6 0) (a7 0) o1.2.1, wEV g a1 o1.2.2.1, wEV g a2 kp, wEV g a3 dr, wSH g a4 sh, wTP g a5 tp, wLW g a6 o1.2.2.2.1, wSE g a7 o1.2.2.2.2, wRM g am (K.map fun _ => aK 0) (T.map fun _ => aT 0) o2.2] ++ (oW g aK K ++ oW g aT T))) (g_runV (isC := [8]) (rest := [.int o1.1]) (As := [.int (xs (x3 + 1).toNatClampNeg), .int (xs (x3 + 2).toNatClampNeg), .int (xs (x3 + 3).toNatClampNeg)]) X hw (c_X6_goes l (ad := am) (eK := (K.map fun _ => aK 0)) (eT := (T.map fun _ => aT 0)) ho2) rfl kM_X6_goes ki_X6_goes ks_X6_goes km_L_207 ⟨(Nat.le_of_ble_eq_true rfl), (Nat.le_of_ble_eq_true rfl)⟩ (law_c hB (by decide) (by decide)) rfl rfl ⟨_, _, _, _, rfl, rfl, rfl, rfl⟩ rfl hl.1 rfl (Nat.le_of_ble_eq_true rfl) dL_law_1859) hw rfl rfl (fun _ => (Nat.le_of_ble_eq_true rfl)) (fun _ => (gputs_eq rfl).trans rfl) rfl rfl (fun _ H locs hw => ?_)
  refine lv_icmp_eq (tgt := 1985) hx hb dL_law_1862 (by decide) (fun _ => ?_) (fun z => absurd heq z)
  refine W.widen (k := cells + 37) (n := slots + 2859) (by first | omega | exact Nat.add_le_add_left (Nat.le_of_ble_eq_true rfl) _) (by first | omega | exact Nat.add_le_add_left (Nat.le_of_ble_eq_true rfl) _) ?_
  exact next _ _ _ _ _ _ _ _ _ _ _ hI a0 a1 a2 a3 a4 a5 a6 a7 am aK aT _ _ _ hw hl
set_option maxHeartbeats 4000000 in
set_option maxRecDepth 100000 in
theorem law_play (X : gC p s m meth c #[Value.ref b] RL cL_law 4 g (fun q : Nat => s.heap.size ≤ q)) (hX : va_X b L xs s s.heap) (hbl : b < s.heap.size) {I : RO → EV → EV → EV → SH → TP → LW → SE → RM → Option RM → Option RM → Prop} (hS : S_play I) (hB : cells + 37 ≤ 600000 ∧ slots + 2859 ≤ 7302249) {x3 : Int32} (h1 : vp_in (x3 + 1) L) (h2 : vp_in (x3 + 2) L) (h3 : vp_in (x3 + 3) L) (h4 : vp_in (x3 + 4) L) (h5 : vp_in (x3 + 5) L)
    (next : lawNext p l e s m below meth c b g I Q (cells + 37) (slots + 2859) x3)
    (ro : RO) (nw : EV) (kp : EV) (dr : EV) (sh : SH) (tp : TP) (lw : LW) (se : SE) (rm : RM) (K : Option RM) (T : Option RM) (hI : I ro nw kp dr sh tp lw se rm K T) (a0 a1 a2 a3 a4 a5 a6 a7 am aK aT : Nat → Nat) (H : Heap) (locs : List Loc) (ls : Array Slot) (hw : gW g (fun q : Nat => s.heap.size ≤ q) s.heap (lawW g ro nw kp dr sh tp lw se rm K T a0 a1 a2 a3 a4 a5 a6 a7 am aK aT) H locs) (hl : lv_has ls 4 [(0, .ref b), (1, .ref (a0 0)), (2, .ref (am 0)), (3, .int x3)]) : W p l e room_1 s m #[Value.ref b] below meth c H locs cells slots Q (F0 m 1867 ls []) := by
  have hx := X.1.1
  have hb := X.1.2.1
  have hbA : ¬ (fun q : Nat => s.heap.size ≤ q) b := Nat.not_le.mpr hbl
  refine lv_aload_n hx hb dL_law_1867 rfl (lv_at hl 1 rfl) ?_
  refine lv_aload_n hx hb dL_law_1868 rfl (lv_at hl 0 rfl) ?_
  refine lv_iload_n hx hb dL_law_1869 rfl (lv_at hl 3 rfl) ?_
  refine lv_iconst (v := 1) hx hb dL_law_1870 (by decide) ?_
  refine lv_iadd hx hb dL_law_1871 ?_
  refine va_sld hx hb hX hbl hbA hw.2.2.1 h1 dL_law_1872 ?_
  refine lv_aload_n hx hb dL_law_1873 rfl (lv_at hl 0 rfl) ?_
  refine lv_iload_n hx hb dL_law_1874 rfl (lv_at hl 3 rfl) ?_
  refine lv_iconst (v := 2) hx hb dL_law_1875 (by decide) ?_
  refine lv_iadd hx hb dL_law_1876 ?_
  refine va_sld hx hb hX hbl hbA hw.2.2.1 h2 dL_law_1877 ?_
  obtain ⟨o1, ho1, hS⟩ := hS ro nw kp dr sh tp lw se rm K T hI (xs (x3 + 1).toNatClampNeg) (xs (x3 + 2).toNatClampNeg)
  refine g_calli0 (isC := [0, 1, 6]) (gn := fun _ => ([wRO g a0 (a1 0) (a2 0) (a3 0) (a4 0) (a5 0) (a6 0) (a7 0) o1.2.1, wEV g a1 o1.2.2.1, wEV g a2 kp, wEV g a3 dr, wSH g a4 sh, wTP g a5 tp, wLW g a6 o1.2.2.2, wSE g a7 se, wRM g am (K.map fun _ => aK 0) (T.map fun _ => aT 0) rm] ++ (oW g aK K ++ oW g aT T))) (g_runV (isC := [0, 1, 6]) (rest := []) (As := [.int (xs (x3 + 1).toNatClampNeg), .int (xs (x3 + 2).toNatClampNeg)]) X hw (c_X5_play l (ad := a0) (adN := a1) (adL := a6) (aK := (a2 0)) (aD := (a3 0)) (aS := (a4 0)) (aT := (a5 0)) (aE := (a7 0)) ho1) rfl kM_X5_play ki_X5_play ks_X5_play km_L_208 ⟨(Nat.le_of_ble_eq_true rfl), (Nat.le_of_ble_eq_true rfl)⟩ (law_c hB (by decide) (by decide)) rfl rfl ⟨_, _, _, _, rfl, rfl, rfl, rfl⟩ rfl hl.1 rfl (Nat.le_of_ble_eq_true rfl) dL_law_1878) hw rfl rfl (fun _ => (Nat.le_of_ble_eq_true rfl)) (fun _ => (gputs_eq rfl).trans rfl) rfl rfl (fun _ H locs hw => ?_)
  refine lv_aload_n hx hb dL_law_1881 rfl (lv_at hl 2 rfl) ?_
  refine lv_aload_n hx hb dL_law_1882 rfl (lv_at hl 0 rfl) ?_
  refine lv_iload_n hx hb dL_law_1883 rfl (lv_at hl 3 rfl) ?_
  refine lv_iconst (v := 1) hx hb dL_law_1884 (by decide) ?_
  refine lv_iadd hx hb dL_law_1885 ?_
  refine va_sld hx hb hX hbl hbA hw.2.2.1 h1 dL_law_1886 ?_
  refine lv_aload_n hx hb dL_law_1887 rfl (lv_at hl 0 rfl) ?_
  refine lv_iload_n hx hb dL_law_1888 rfl (lv_at hl 3 rfl) ?_
  refine lv_iconst (v := 2) hx hb dL_law_1889 (by decide) ?_
  refine lv_iadd hx hb dL_law_1890 ?_
  refine va_sld hx hb hX hbl hbA hw.2.2.1 h2 dL_law_1891 ?_
  obtain ⟨o2, ho2, heq, hI⟩ := hS
  refine g_calli0 (isC := [8]) (gn := fun _ => ([wRO g a0 (a1 0) (a2 0) (a3 0) (a4 0) (a5 0) (a6 0) (a7 0) o1.2.1, wEV g a1 o1.2.2.1, wEV g a2 kp, wEV g a3 dr, wSH g a4 sh, wTP g a5 tp, wLW g a6 o1.2.2.2, wSE g a7 se, wRM g am (K.map fun _ => aK 0) (T.map fun _ => aT 0) o2.2] ++ (oW g aK K ++ oW g aT T))) (g_runV (isC := [8]) (rest := [.int o1.1]) (As := [.int (xs (x3 + 1).toNatClampNeg), .int (xs (x3 + 2).toNatClampNeg)]) X hw (c_X6_play l (ad := am) (eK := (K.map fun _ => aK 0)) (eT := (T.map fun _ => aT 0)) ho2) rfl kM_X6_play ki_X6_play ks_X6_play km_L_211 ⟨(Nat.le_of_ble_eq_true rfl), (Nat.le_of_ble_eq_true rfl)⟩ (law_c hB (by decide) (by decide)) rfl rfl ⟨_, _, _, _, rfl, rfl, rfl, rfl⟩ rfl hl.1 rfl (Nat.le_of_ble_eq_true rfl) dL_law_1892) hw rfl rfl (fun _ => (Nat.le_of_ble_eq_true rfl)) (fun _ => (gputs_eq rfl).trans rfl) rfl rfl (fun _ H locs hw => ?_)
  refine lv_icmp_eq (tgt := 1985) hx hb dL_law_1895 (by decide) (fun _ => ?_) (fun z => absurd heq z)
  refine W.widen (k := cells + 37) (n := slots + 2859) (by first | omega | exact Nat.add_le_add_left (Nat.le_of_ble_eq_true rfl) _) (by first | omega | exact Nat.add_le_add_left (Nat.le_of_ble_eq_true rfl) _) ?_
  exact next _ _ _ _ _ _ _ _ _ _ _ hI a0 a1 a2 a3 a4 a5 a6 a7 am aK aT _ _ _ hw hl
set_option maxHeartbeats 4000000 in
set_option maxRecDepth 100000 in
theorem law_drop (X : gC p s m meth c #[Value.ref b] RL cL_law 4 g (fun q : Nat => s.heap.size ≤ q)) (hX : va_X b L xs s s.heap) (hbl : b < s.heap.size) {I : RO → EV → EV → EV → SH → TP → LW → SE → RM → Option RM → Option RM → Prop} (hS : S_drop I) (hB : cells + 37 ≤ 600000 ∧ slots + 2859 ≤ 7302249) {x3 : Int32} (h1 : vp_in (x3 + 1) L) (h2 : vp_in (x3 + 2) L) (h3 : vp_in (x3 + 3) L) (h4 : vp_in (x3 + 4) L) (h5 : vp_in (x3 + 5) L)
    (next : lawNext p l e s m below meth c b g I Q (cells + 37) (slots + 2859) x3)
    (ro : RO) (nw : EV) (kp : EV) (dr : EV) (sh : SH) (tp : TP) (lw : LW) (se : SE) (rm : RM) (K : Option RM) (T : Option RM) (hI : I ro nw kp dr sh tp lw se rm K T) (a0 a1 a2 a3 a4 a5 a6 a7 am aK aT : Nat → Nat) (H : Heap) (locs : List Loc) (ls : Array Slot) (hw : gW g (fun q : Nat => s.heap.size ≤ q) s.heap (lawW g ro nw kp dr sh tp lw se rm K T a0 a1 a2 a3 a4 a5 a6 a7 am aK aT) H locs) (hl : lv_has ls 4 [(0, .ref b), (1, .ref (a0 0)), (2, .ref (am 0)), (3, .int x3)]) : W p l e room_1 s m #[Value.ref b] below meth c H locs cells slots Q (F0 m 1900 ls []) := by
  have hx := X.1.1
  have hb := X.1.2.1
  have hbA : ¬ (fun q : Nat => s.heap.size ≤ q) b := Nat.not_le.mpr hbl
  refine lv_aload_n hx hb dL_law_1900 rfl (lv_at hl 1 rfl) ?_
  obtain ⟨o1, ho1, hS⟩ := hS ro nw kp dr sh tp lw se rm K T hI ()
  refine g_calli0 (isC := [0, 1, 4]) (gn := fun _ => ([wRO g a0 (a1 0) (a2 0) (a3 0) (a4 0) (a5 0) (a6 0) (a7 0) o1.2.1, wEV g a1 o1.2.2.1, wEV g a2 kp, wEV g a3 dr, wSH g a4 o1.2.2.2, wTP g a5 tp, wLW g a6 lw, wSE g a7 se, wRM g am (K.map fun _ => aK 0) (T.map fun _ => aT 0) rm] ++ (oW g aK K ++ oW g aT T))) (g_runV (isC := [0, 1, 4]) (rest := []) (As := []) X hw (c_X5_drop l (ad := a0) (adN := a1) (adS := a4) (aK := (a2 0)) (aD := (a3 0)) (aT := (a5 0)) (aL := (a6 0)) (aE := (a7 0)) ho1) rfl kM_X5_drop ki_X5_drop ks_X5_drop km_L_212 ⟨(Nat.le_of_ble_eq_true rfl), (Nat.le_of_ble_eq_true rfl)⟩ (law_c hB (by decide) (by decide)) rfl rfl ⟨_, _, _, _, rfl, rfl, rfl, rfl⟩ rfl hl.1 rfl (Nat.le_of_ble_eq_true rfl) dL_law_1901) hw rfl rfl (fun _ => (Nat.le_of_ble_eq_true rfl)) (fun _ => (gputs_eq rfl).trans rfl) rfl rfl (fun _ H locs hw => ?_)
  refine lv_aload_n hx hb dL_law_1904 rfl (lv_at hl 2 rfl) ?_
  obtain ⟨o2, ho2, heq, hI⟩ := hS
  refine g_calli0 (isC := [8]) (gn := fun _ => ([wRO g a0 (a1 0) (a2 0) (a3 0) (a4 0) (a5 0) (a6 0) (a7 0) o1.2.1, wEV g a1 o1.2.2.1, wEV g a2 kp, wEV g a3 dr, wSH g a4 o1.2.2.2, wTP g a5 tp, wLW g a6 lw, wSE g a7 se, wRM g am (K.map fun _ => aK 0) (T.map fun _ => aT 0) o2.2] ++ (oW g aK K ++ oW g aT T))) (g_runV (isC := [8]) (rest := [.int o1.1]) (As := []) X hw (c_X6_drop l (ad := am) (eK := (K.map fun _ => aK 0)) (eT := (T.map fun _ => aT 0)) ho2) rfl kM_X6_drop ki_X6_drop ks_X6_drop km_L_215 ⟨(Nat.le_of_ble_eq_true rfl), (Nat.le_of_ble_eq_true rfl)⟩ (law_c hB (by decide) (by decide)) rfl rfl ⟨_, _, _, _, rfl, rfl, rfl, rfl⟩ rfl hl.1 rfl (Nat.le_of_ble_eq_true rfl) dL_law_1905) hw rfl rfl (fun _ => (Nat.le_of_ble_eq_true rfl)) (fun _ => (gputs_eq rfl).trans rfl) rfl rfl (fun _ H locs hw => ?_)
  refine lv_icmp_eq (tgt := 1985) hx hb dL_law_1908 (by decide) (fun _ => ?_) (fun z => absurd heq z)
  refine W.widen (k := cells + 37) (n := slots + 2859) (by first | omega | exact Nat.add_le_add_left (Nat.le_of_ble_eq_true rfl) _) (by first | omega | exact Nat.add_le_add_left (Nat.le_of_ble_eq_true rfl) _) ?_
  exact next _ _ _ _ _ _ _ _ _ _ _ hI a0 a1 a2 a3 a4 a5 a6 a7 am aK aT _ _ _ hw hl
set_option maxHeartbeats 4000000 in
set_option maxRecDepth 100000 in
theorem law_seed (X : gC p s m meth c #[Value.ref b] RL cL_law 4 g (fun q : Nat => s.heap.size ≤ q)) (hX : va_X b L xs s s.heap) (hbl : b < s.heap.size) {I : RO → EV → EV → EV → SH → TP → LW → SE → RM → Option RM → Option RM → Prop} (hS : S_seed I) (hB : cells + 37 ≤ 600000 ∧ slots + 2859 ≤ 7302249) {x3 : Int32} (h1 : vp_in (x3 + 1) L) (h2 : vp_in (x3 + 2) L) (h3 : vp_in (x3 + 3) L) (h4 : vp_in (x3 + 4) L) (h5 : vp_in (x3 + 5) L)
    (next : lawNext p l e s m below meth c b g I Q (cells + 37) (slots + 2859) x3)
    (ro : RO) (nw : EV) (kp : EV) (dr : EV) (sh : SH) (tp : TP) (lw : LW) (se : SE) (rm : RM) (K : Option RM) (T : Option RM) (hI : I ro nw kp dr sh tp lw se rm K T) (a0 a1 a2 a3 a4 a5 a6 a7 am aK aT : Nat → Nat) (H : Heap) (locs : List Loc) (ls : Array Slot) (hw : gW g (fun q : Nat => s.heap.size ≤ q) s.heap (lawW g ro nw kp dr sh tp lw se rm K T a0 a1 a2 a3 a4 a5 a6 a7 am aK aT) H locs) (hl : lv_has ls 4 [(0, .ref b), (1, .ref (a0 0)), (2, .ref (am 0)), (3, .int x3)]) : W p l e room_1 s m #[Value.ref b] below meth c H locs cells slots Q (F0 m 1913 ls []) := by
  have hx := X.1.1
  have hb := X.1.2.1
  have hbA : ¬ (fun q : Nat => s.heap.size ≤ q) b := Nat.not_le.mpr hbl
  refine lv_aload_n hx hb dL_law_1913 rfl (lv_at hl 1 rfl) ?_
  refine lv_aload_n hx hb dL_law_1914 rfl (lv_at hl 0 rfl) ?_
  refine lv_iload_n hx hb dL_law_1915 rfl (lv_at hl 3 rfl) ?_
  refine lv_iconst (v := 1) hx hb dL_law_1916 (by decide) ?_
  refine lv_iadd hx hb dL_law_1917 ?_
  refine va_sld hx hb hX hbl hbA hw.2.2.1 h1 dL_law_1918 ?_
  obtain ⟨o1, ho1, hS⟩ := hS ro nw kp dr sh tp lw se rm K T hI (xs (x3 + 1).toNatClampNeg)
  refine g_calli0 (isC := [0, 1]) (gn := fun _ => ([wRO g a0 (a1 0) (a2 0) (a3 0) (a4 0) (a5 0) (a6 0) (a7 0) ro, wEV g a1 o1.2, wEV g a2 kp, wEV g a3 dr, wSH g a4 sh, wTP g a5 tp, wLW g a6 lw, wSE g a7 se, wRM g am (K.map fun _ => aK 0) (T.map fun _ => aT 0) rm] ++ (oW g aK K ++ oW g aT T))) (g_runV (isC := [0, 1]) (rest := []) (As := [.int (xs (x3 + 1).toNatClampNeg)]) X hw (c_X5_seed l (ad := a0) (adN := a1) (aK := (a2 0)) (aD := (a3 0)) (aS := (a4 0)) (aT := (a5 0)) (aL := (a6 0)) (aE := (a7 0)) ho1) rfl kM_X5_seed ki_X5_seed ks_X5_seed km_L_216 ⟨(Nat.le_of_ble_eq_true rfl), (Nat.le_of_ble_eq_true rfl)⟩ (law_c hB (by decide) (by decide)) rfl rfl ⟨_, _, _, _, rfl, rfl, rfl, rfl⟩ rfl hl.1 rfl (Nat.le_of_ble_eq_true rfl) dL_law_1919) hw rfl rfl (fun _ => (Nat.le_of_ble_eq_true rfl)) (fun _ => (gputs_eq rfl).trans rfl) rfl rfl (fun _ H locs hw => ?_)
  refine lv_aload_n hx hb dL_law_1922 rfl (lv_at hl 2 rfl) ?_
  refine lv_aload_n hx hb dL_law_1923 rfl (lv_at hl 0 rfl) ?_
  refine lv_iload_n hx hb dL_law_1924 rfl (lv_at hl 3 rfl) ?_
  refine lv_iconst (v := 1) hx hb dL_law_1925 (by decide) ?_
  refine lv_iadd hx hb dL_law_1926 ?_
  refine va_sld hx hb hX hbl hbA hw.2.2.1 h1 dL_law_1927 ?_
  obtain ⟨o2, ho2, heq, hI⟩ := hS
  refine g_calli0 (isC := [8]) (gn := fun _ => ([wRO g a0 (a1 0) (a2 0) (a3 0) (a4 0) (a5 0) (a6 0) (a7 0) ro, wEV g a1 o1.2, wEV g a2 kp, wEV g a3 dr, wSH g a4 sh, wTP g a5 tp, wLW g a6 lw, wSE g a7 se, wRM g am (K.map fun _ => aK 0) (T.map fun _ => aT 0) o2.2] ++ (oW g aK K ++ oW g aT T))) (g_runV (isC := [8]) (rest := [.int o1.1]) (As := [.int (xs (x3 + 1).toNatClampNeg)]) X hw (c_X6_seed l (ad := am) (eK := (K.map fun _ => aK 0)) (eT := (T.map fun _ => aT 0)) ho2) rfl kM_X6_seed ki_X6_seed ks_X6_seed km_L_219 ⟨(Nat.le_of_ble_eq_true rfl), (Nat.le_of_ble_eq_true rfl)⟩ (law_c hB (by decide) (by decide)) rfl rfl ⟨_, _, _, _, rfl, rfl, rfl, rfl⟩ rfl hl.1 rfl (Nat.le_of_ble_eq_true rfl) dL_law_1928) hw rfl rfl (fun _ => (Nat.le_of_ble_eq_true rfl)) (fun _ => (gputs_eq rfl).trans rfl) rfl rfl (fun _ H locs hw => ?_)
  refine lv_icmp_eq (tgt := 1985) hx hb dL_law_1931 (by decide) (fun _ => ?_) (fun z => absurd heq z)
  refine W.widen (k := cells + 37) (n := slots + 2859) (by first | omega | exact Nat.add_le_add_left (Nat.le_of_ble_eq_true rfl) _) (by first | omega | exact Nat.add_le_add_left (Nat.le_of_ble_eq_true rfl) _) ?_
  exact next _ _ _ _ _ _ _ _ _ _ _ hI a0 a1 a2 a3 a4 a5 a6 a7 am aK aT _ _ _ hw hl
set_option maxHeartbeats 4000000 in
set_option maxRecDepth 100000 in
theorem law_image (X : gC p s m meth c #[Value.ref b] RL cL_law 4 g (fun q : Nat => s.heap.size ≤ q)) (hX : va_X b L xs s s.heap) (hbl : b < s.heap.size) {I : RO → EV → EV → EV → SH → TP → LW → SE → RM → Option RM → Option RM → Prop} (hS : S_image I) (hB : cells + 37 ≤ 600000 ∧ slots + 2859 ≤ 7302249) {x3 : Int32} (h1 : vp_in (x3 + 1) L) (h2 : vp_in (x3 + 2) L) (h3 : vp_in (x3 + 3) L) (h4 : vp_in (x3 + 4) L) (h5 : vp_in (x3 + 5) L)
    (next : lawNext p l e s m below meth c b g I Q (cells + 37) (slots + 2859) x3)
    (ro : RO) (nw : EV) (kp : EV) (dr : EV) (sh : SH) (tp : TP) (lw : LW) (se : SE) (rm : RM) (K : Option RM) (T : Option RM) (hI : I ro nw kp dr sh tp lw se rm K T) (a0 a1 a2 a3 a4 a5 a6 a7 am aK aT : Nat → Nat) (H : Heap) (locs : List Loc) (ls : Array Slot) (hw : gW g (fun q : Nat => s.heap.size ≤ q) s.heap (lawW g ro nw kp dr sh tp lw se rm K T a0 a1 a2 a3 a4 a5 a6 a7 am aK aT) H locs) (hl : lv_has ls 4 [(0, .ref b), (1, .ref (a0 0)), (2, .ref (am 0)), (3, .int x3)]) : W p l e room_1 s m #[Value.ref b] below meth c H locs cells slots Q (F0 m 1936 ls []) := by
  have hx := X.1.1
  have hb := X.1.2.1
  have hbA : ¬ (fun q : Nat => s.heap.size ≤ q) b := Nat.not_le.mpr hbl
  refine lv_aload_n hx hb dL_law_1936 rfl (lv_at hl 1 rfl) ?_
  obtain ⟨o1, ho1, hS⟩ := hS ro nw kp dr sh tp lw se rm K T hI ()
  refine g_calli0 (isC := [0, 1, 2]) (gn := fun _ => ([wRO g a0 (a1 0) (a2 0) (a3 0) (a4 0) (a5 0) (a6 0) (a7 0) o1.2.1, wEV g a1 nw, wEV g a2 o1.2.2, wEV g a3 dr, wSH g a4 sh, wTP g a5 tp, wLW g a6 lw, wSE g a7 se, wRM g am (K.map fun _ => aK 0) (T.map fun _ => aT 0) rm] ++ (oW g aK K ++ oW g aT T))) (g_runV (isC := [0, 1, 2]) (rest := []) (As := []) X hw (c_X5_image l (ad := a0) (adN := a1) (adK := a2) (aD := (a3 0)) (aS := (a4 0)) (aT := (a5 0)) (aL := (a6 0)) (aE := (a7 0)) ho1) rfl kM_X5_image ki_X5_image ks_X5_image km_L_220 ⟨(Nat.le_of_ble_eq_true rfl), (Nat.le_of_ble_eq_true rfl)⟩ (law_c hB (by decide) (by decide)) rfl rfl ⟨_, _, _, _, rfl, rfl, rfl, rfl⟩ rfl hl.1 rfl (Nat.le_of_ble_eq_true rfl) dL_law_1937) hw rfl rfl (fun _ => (Nat.le_of_ble_eq_true rfl)) (fun _ => (gputs_eq rfl).trans rfl) rfl rfl (fun _ H locs hw => ?_)
  refine lv_aload_n hx hb dL_law_1940 rfl (lv_at hl 2 rfl) ?_
  cases hK : K with
  | none =>
    obtain ⟨o2, ho2, heq, hI2⟩ := hS.1 hK
    subst hK
    cases T with
    | none =>
      have hw : gW g (fun q : Nat => s.heap.size ≤ q) s.heap [wRO g a0 (a1 0) (a2 0) (a3 0) (a4 0) (a5 0) (a6 0) (a7 0) o1.2.1, wEV g a1 nw, wEV g a2 o1.2.2, wEV g a3 dr, wSH g a4 sh, wTP g a5 tp, wLW g a6 lw, wSE g a7 se, wRM g am none none rm] _ _ := hw
      refine g_calli (isC := [8]) (gn := fun u => [wRO g a0 (a1 0) (a2 0) (a3 0) (a4 0) (a5 0) (a6 0) (a7 0) o1.2.1, wEV g a1 nw, wEV g a2 o1.2.2, wEV g a3 dr, wSH g a4 sh, wTP g a5 tp, wLW g a6 lw, wSE g a7 se, wRM g am (some (u 0)) none rm, wRM g u none none o2.2]) (g_runV (isC := [8]) (rest := [.int o1.1]) (As := []) X hw (c_X6_image_n l (ad := am) (eT := none) ho2) rfl kM_X6_image ki_X6_image ks_X6_image km_L_223 ⟨(Nat.le_of_ble_eq_true rfl), (Nat.le_of_ble_eq_true rfl)⟩ (law_c hB (by decide) (by decide)) rfl rfl ⟨_, _, _, _, rfl, rfl, rfl, rfl⟩ rfl hl.1 rfl (Nat.le_of_ble_eq_true rfl) dL_law_1941) hw rfl rfl (fun _ => (Nat.le_of_ble_eq_true rfl)) (fun _ => rfl) (fun u H locs hw => ?_)
      refine lv_icmp_eq (tgt := 1985) hx hb dL_law_1944 (by decide) (fun _ => ?_) (fun z => absurd heq z)
      refine W.widen (k := cells + 37) (n := slots + 2859) (by first | omega | exact Nat.add_le_add_left (Nat.le_of_ble_eq_true rfl) _) (by first | omega | exact Nat.add_le_add_left (Nat.le_of_ble_eq_true rfl) _) ?_
      exact next _ _ _ _ _ _ _ _ _ _ _ hI2 a0 a1 a2 a3 a4 a5 a6 a7 am u aT _ _ _ hw hl
    | some r9 =>
      have hw : gW g (fun q : Nat => s.heap.size ≤ q) s.heap [wRO g a0 (a1 0) (a2 0) (a3 0) (a4 0) (a5 0) (a6 0) (a7 0) o1.2.1, wEV g a1 nw, wEV g a2 o1.2.2, wEV g a3 dr, wSH g a4 sh, wTP g a5 tp, wLW g a6 lw, wSE g a7 se, wRM g am none (some (aT 0)) rm, wRM g aT none none r9] _ _ := hw
      refine g_calli (isC := [8]) (gn := fun u => [wRO g a0 (a1 0) (a2 0) (a3 0) (a4 0) (a5 0) (a6 0) (a7 0) o1.2.1, wEV g a1 nw, wEV g a2 o1.2.2, wEV g a3 dr, wSH g a4 sh, wTP g a5 tp, wLW g a6 lw, wSE g a7 se, wRM g am (some (u 0)) (some (aT 0)) rm, wRM g aT none none r9, wRM g u none none o2.2]) (g_runV (isC := [8]) (rest := [.int o1.1]) (As := []) X hw (c_X6_image_n l (ad := am) (eT := (some (aT 0))) ho2) rfl kM_X6_image ki_X6_image ks_X6_image km_L_223 ⟨(Nat.le_of_ble_eq_true rfl), (Nat.le_of_ble_eq_true rfl)⟩ (law_c hB (by decide) (by decide)) rfl rfl ⟨_, _, _, _, rfl, rfl, rfl, rfl⟩ rfl hl.1 rfl (Nat.le_of_ble_eq_true rfl) dL_law_1941) hw rfl rfl (fun _ => (Nat.le_of_ble_eq_true rfl)) (fun _ => rfl) (fun u H locs hw => ?_)
      have hw := hw.perm (gs' := [wRO g a0 (a1 0) (a2 0) (a3 0) (a4 0) (a5 0) (a6 0) (a7 0) o1.2.1, wEV g a1 nw, wEV g a2 o1.2.2, wEV g a3 dr, wSH g a4 sh, wTP g a5 tp, wLW g a6 lw, wSE g a7 se, wRM g am (some (u 0)) (some (aT 0)) rm, wRM g u none none o2.2, wRM g aT none none r9]) [0, 1, 2, 3, 4, 5, 6, 7, 8, 10, 9] rfl (by decide)
      refine lv_icmp_eq (tgt := 1985) hx hb dL_law_1944 (by decide) (fun _ => ?_) (fun z => absurd heq z)
      refine W.widen (k := cells + 37) (n := slots + 2859) (by first | omega | exact Nat.add_le_add_left (Nat.le_of_ble_eq_true rfl) _) (by first | omega | exact Nat.add_le_add_left (Nat.le_of_ble_eq_true rfl) _) ?_
      exact next _ _ _ _ _ _ _ _ _ _ _ hI2 a0 a1 a2 a3 a4 a5 a6 a7 am u aT _ _ _ hw hl
  | some r =>
    obtain ⟨o2, ho2, heq, hI2⟩ := hS.2 r hK
    subst hK
    cases T with
    | none =>
      have hw : gW g (fun q : Nat => s.heap.size ≤ q) s.heap [wRO g a0 (a1 0) (a2 0) (a3 0) (a4 0) (a5 0) (a6 0) (a7 0) o1.2.1, wEV g a1 nw, wEV g a2 o1.2.2, wEV g a3 dr, wSH g a4 sh, wTP g a5 tp, wLW g a6 lw, wSE g a7 se, wRM g am (some (aK 0)) none rm, wRM g aK none none r] _ _ := hw
      refine g_calli0 (isC := [8, 9]) (gn := fun _ => [wRO g a0 (a1 0) (a2 0) (a3 0) (a4 0) (a5 0) (a6 0) (a7 0) o1.2.1, wEV g a1 nw, wEV g a2 o1.2.2, wEV g a3 dr, wSH g a4 sh, wTP g a5 tp, wLW g a6 lw, wSE g a7 se, wRM g am (some (aK 0)) none rm, wRM g aK none none o2.2]) (g_runV (isC := [8, 9]) (rest := [.int o1.1]) (As := []) X hw (c_X6_image_s l (ad := am) (eT := none) (adK := aK) (eK1 := none) (eT1 := none) ho2) rfl kM_X6_image ki_X6_image ks_X6_image km_L_223 ⟨(Nat.le_of_ble_eq_true rfl), (Nat.le_of_ble_eq_true rfl)⟩ (law_c hB (by decide) (by decide)) rfl rfl ⟨_, _, _, _, rfl, rfl, rfl, rfl⟩ rfl hl.1 rfl (Nat.le_of_ble_eq_true rfl) dL_law_1941) hw rfl rfl (fun _ => (Nat.le_of_ble_eq_true rfl)) (fun _ => rfl) rfl rfl (fun _ H locs hw => ?_)
      refine lv_icmp_eq (tgt := 1985) hx hb dL_law_1944 (by decide) (fun _ => ?_) (fun z => absurd heq z)
      refine W.widen (k := cells + 37) (n := slots + 2859) (by first | omega | exact Nat.add_le_add_left (Nat.le_of_ble_eq_true rfl) _) (by first | omega | exact Nat.add_le_add_left (Nat.le_of_ble_eq_true rfl) _) ?_
      exact next _ _ _ _ _ _ _ _ _ _ _ hI2 a0 a1 a2 a3 a4 a5 a6 a7 am aK aT _ _ _ hw hl
    | some r9 =>
      have hw : gW g (fun q : Nat => s.heap.size ≤ q) s.heap [wRO g a0 (a1 0) (a2 0) (a3 0) (a4 0) (a5 0) (a6 0) (a7 0) o1.2.1, wEV g a1 nw, wEV g a2 o1.2.2, wEV g a3 dr, wSH g a4 sh, wTP g a5 tp, wLW g a6 lw, wSE g a7 se, wRM g am (some (aK 0)) (some (aT 0)) rm, wRM g aK none none r, wRM g aT none none r9] _ _ := hw
      refine g_calli0 (isC := [8, 9]) (gn := fun _ => [wRO g a0 (a1 0) (a2 0) (a3 0) (a4 0) (a5 0) (a6 0) (a7 0) o1.2.1, wEV g a1 nw, wEV g a2 o1.2.2, wEV g a3 dr, wSH g a4 sh, wTP g a5 tp, wLW g a6 lw, wSE g a7 se, wRM g am (some (aK 0)) (some (aT 0)) rm, wRM g aK none none o2.2, wRM g aT none none r9]) (g_runV (isC := [8, 9]) (rest := [.int o1.1]) (As := []) X hw (c_X6_image_s l (ad := am) (eT := (some (aT 0))) (adK := aK) (eK1 := none) (eT1 := none) ho2) rfl kM_X6_image ki_X6_image ks_X6_image km_L_223 ⟨(Nat.le_of_ble_eq_true rfl), (Nat.le_of_ble_eq_true rfl)⟩ (law_c hB (by decide) (by decide)) rfl rfl ⟨_, _, _, _, rfl, rfl, rfl, rfl⟩ rfl hl.1 rfl (Nat.le_of_ble_eq_true rfl) dL_law_1941) hw rfl rfl (fun _ => (Nat.le_of_ble_eq_true rfl)) (fun _ => rfl) rfl rfl (fun _ H locs hw => ?_)
      refine lv_icmp_eq (tgt := 1985) hx hb dL_law_1944 (by decide) (fun _ => ?_) (fun z => absurd heq z)
      refine W.widen (k := cells + 37) (n := slots + 2859) (by first | omega | exact Nat.add_le_add_left (Nat.le_of_ble_eq_true rfl) _) (by first | omega | exact Nat.add_le_add_left (Nat.le_of_ble_eq_true rfl) _) ?_
      exact next _ _ _ _ _ _ _ _ _ _ _ hI2 a0 a1 a2 a3 a4 a5 a6 a7 am aK aT _ _ _ hw hl
set_option maxHeartbeats 4000000 in
set_option maxRecDepth 100000 in
theorem law_back (X : gC p s m meth c #[Value.ref b] RL cL_law 4 g (fun q : Nat => s.heap.size ≤ q)) (hX : va_X b L xs s s.heap) (hbl : b < s.heap.size) {I : RO → EV → EV → EV → SH → TP → LW → SE → RM → Option RM → Option RM → Prop} (hS : S_back I) (hB : cells + 37 ≤ 600000 ∧ slots + 2859 ≤ 7302249) {x3 : Int32} (h1 : vp_in (x3 + 1) L) (h2 : vp_in (x3 + 2) L) (h3 : vp_in (x3 + 3) L) (h4 : vp_in (x3 + 4) L) (h5 : vp_in (x3 + 5) L)
    (next : lawNext p l e s m below meth c b g I Q (cells + 37) (slots + 2859) x3)
    (ro : RO) (nw : EV) (kp : EV) (dr : EV) (sh : SH) (tp : TP) (lw : LW) (se : SE) (rm : RM) (K : Option RM) (T : Option RM) (hI : I ro nw kp dr sh tp lw se rm K T) (a0 a1 a2 a3 a4 a5 a6 a7 am aK aT : Nat → Nat) (H : Heap) (locs : List Loc) (ls : Array Slot) (hw : gW g (fun q : Nat => s.heap.size ≤ q) s.heap (lawW g ro nw kp dr sh tp lw se rm K T a0 a1 a2 a3 a4 a5 a6 a7 am aK aT) H locs) (hl : lv_has ls 4 [(0, .ref b), (1, .ref (a0 0)), (2, .ref (am 0)), (3, .int x3)]) : W p l e room_1 s m #[Value.ref b] below meth c H locs cells slots Q (F0 m 1949 ls []) := by
  have hx := X.1.1
  have hb := X.1.2.1
  have hbA : ¬ (fun q : Nat => s.heap.size ≤ q) b := Nat.not_le.mpr hbl
  refine lv_aload_n hx hb dL_law_1949 rfl (lv_at hl 1 rfl) ?_
  obtain ⟨o1, ho1, hS⟩ := hS ro nw kp dr sh tp lw se rm K T hI ()
  refine g_calli0 (isC := [0, 1, 2, 4]) (gn := fun _ => ([wRO g a0 (a1 0) (a2 0) (a3 0) (a4 0) (a5 0) (a6 0) (a7 0) o1.2.1, wEV g a1 o1.2.2.1, wEV g a2 kp, wEV g a3 dr, wSH g a4 o1.2.2.2, wTP g a5 tp, wLW g a6 lw, wSE g a7 se, wRM g am (K.map fun _ => aK 0) (T.map fun _ => aT 0) rm] ++ (oW g aK K ++ oW g aT T))) (g_runV (isC := [0, 1, 2, 4]) (rest := []) (As := []) X hw (c_X5_back l (ad := a0) (adN := a1) (adK := a2) (adS := a4) (aD := (a3 0)) (aT := (a5 0)) (aL := (a6 0)) (aE := (a7 0)) ho1) rfl kM_X5_back ki_X5_back ks_X5_back km_L_224 ⟨(Nat.le_of_ble_eq_true rfl), (Nat.le_of_ble_eq_true rfl)⟩ (law_c hB (by decide) (by decide)) rfl rfl ⟨_, _, _, _, rfl, rfl, rfl, rfl⟩ rfl hl.1 rfl (Nat.le_of_ble_eq_true rfl) dL_law_1950) hw rfl rfl (fun _ => (Nat.le_of_ble_eq_true rfl)) (fun _ => (gputs_eq rfl).trans rfl) rfl rfl (fun _ H locs hw => ?_)
  refine lv_aload_n hx hb dL_law_1953 rfl (lv_at hl 2 rfl) ?_
  cases hK : K with
  | none =>
    obtain ⟨o2, ho2, heq, hI2⟩ := hS.1 hK
    subst hK
    cases T with
    | none =>
      have hw : gW g (fun q : Nat => s.heap.size ≤ q) s.heap [wRO g a0 (a1 0) (a2 0) (a3 0) (a4 0) (a5 0) (a6 0) (a7 0) o1.2.1, wEV g a1 o1.2.2.1, wEV g a2 kp, wEV g a3 dr, wSH g a4 o1.2.2.2, wTP g a5 tp, wLW g a6 lw, wSE g a7 se, wRM g am none none rm] _ _ := hw
      refine g_calli0 (isC := [8]) (gn := fun _ => [wRO g a0 (a1 0) (a2 0) (a3 0) (a4 0) (a5 0) (a6 0) (a7 0) o1.2.1, wEV g a1 o1.2.2.1, wEV g a2 kp, wEV g a3 dr, wSH g a4 o1.2.2.2, wTP g a5 tp, wLW g a6 lw, wSE g a7 se, wRM g am none none o2.2]) (g_runV (isC := [8]) (rest := [.int o1.1]) (As := []) X hw (c_X6_back_n l (ad := am) (eT := none) ho2) rfl kM_X6_back ki_X6_back ks_X6_back km_L_227 ⟨(Nat.le_of_ble_eq_true rfl), (Nat.le_of_ble_eq_true rfl)⟩ (law_c hB (by decide) (by decide)) rfl rfl ⟨_, _, _, _, rfl, rfl, rfl, rfl⟩ rfl hl.1 rfl (Nat.le_of_ble_eq_true rfl) dL_law_1954) hw rfl rfl (fun _ => (Nat.le_of_ble_eq_true rfl)) (fun _ => rfl) rfl rfl (fun _ H locs hw => ?_)
      refine lv_icmp_eq (tgt := 1985) hx hb dL_law_1957 (by decide) (fun _ => ?_) (fun z => absurd heq z)
      refine W.widen (k := cells + 37) (n := slots + 2859) (by first | omega | exact Nat.add_le_add_left (Nat.le_of_ble_eq_true rfl) _) (by first | omega | exact Nat.add_le_add_left (Nat.le_of_ble_eq_true rfl) _) ?_
      exact next _ _ _ _ _ _ _ _ _ _ _ hI2 a0 a1 a2 a3 a4 a5 a6 a7 am aK aT _ _ _ hw hl
    | some r9 =>
      have hw : gW g (fun q : Nat => s.heap.size ≤ q) s.heap [wRO g a0 (a1 0) (a2 0) (a3 0) (a4 0) (a5 0) (a6 0) (a7 0) o1.2.1, wEV g a1 o1.2.2.1, wEV g a2 kp, wEV g a3 dr, wSH g a4 o1.2.2.2, wTP g a5 tp, wLW g a6 lw, wSE g a7 se, wRM g am none (some (aT 0)) rm, wRM g aT none none r9] _ _ := hw
      refine g_calli0 (isC := [8]) (gn := fun _ => [wRO g a0 (a1 0) (a2 0) (a3 0) (a4 0) (a5 0) (a6 0) (a7 0) o1.2.1, wEV g a1 o1.2.2.1, wEV g a2 kp, wEV g a3 dr, wSH g a4 o1.2.2.2, wTP g a5 tp, wLW g a6 lw, wSE g a7 se, wRM g am none (some (aT 0)) o2.2, wRM g aT none none r9]) (g_runV (isC := [8]) (rest := [.int o1.1]) (As := []) X hw (c_X6_back_n l (ad := am) (eT := (some (aT 0))) ho2) rfl kM_X6_back ki_X6_back ks_X6_back km_L_227 ⟨(Nat.le_of_ble_eq_true rfl), (Nat.le_of_ble_eq_true rfl)⟩ (law_c hB (by decide) (by decide)) rfl rfl ⟨_, _, _, _, rfl, rfl, rfl, rfl⟩ rfl hl.1 rfl (Nat.le_of_ble_eq_true rfl) dL_law_1954) hw rfl rfl (fun _ => (Nat.le_of_ble_eq_true rfl)) (fun _ => rfl) rfl rfl (fun _ H locs hw => ?_)
      refine lv_icmp_eq (tgt := 1985) hx hb dL_law_1957 (by decide) (fun _ => ?_) (fun z => absurd heq z)
      refine W.widen (k := cells + 37) (n := slots + 2859) (by first | omega | exact Nat.add_le_add_left (Nat.le_of_ble_eq_true rfl) _) (by first | omega | exact Nat.add_le_add_left (Nat.le_of_ble_eq_true rfl) _) ?_
      exact next _ _ _ _ _ _ _ _ _ _ _ hI2 a0 a1 a2 a3 a4 a5 a6 a7 am aK aT _ _ _ hw hl
  | some r =>
    obtain ⟨o2, ho2, heq, hI2⟩ := hS.2 r hK
    subst hK
    cases T with
    | none =>
      have hw : gW g (fun q : Nat => s.heap.size ≤ q) s.heap [wRO g a0 (a1 0) (a2 0) (a3 0) (a4 0) (a5 0) (a6 0) (a7 0) o1.2.1, wEV g a1 o1.2.2.1, wEV g a2 kp, wEV g a3 dr, wSH g a4 o1.2.2.2, wTP g a5 tp, wLW g a6 lw, wSE g a7 se, wRM g am (some (aK 0)) none rm, wRM g aK none none r] _ _ := hw
      refine g_calli0 (isC := [8, 9]) (gn := fun _ => [wRO g a0 (a1 0) (a2 0) (a3 0) (a4 0) (a5 0) (a6 0) (a7 0) o1.2.1, wEV g a1 o1.2.2.1, wEV g a2 kp, wEV g a3 dr, wSH g a4 o1.2.2.2, wTP g a5 tp, wLW g a6 lw, wSE g a7 se, wRM g am (some (aK 0)) none o2.2, wRM g aK none none r]) (g_runV (isC := [8, 9]) (rest := [.int o1.1]) (As := []) X hw (c_X6_back_s l (ad := am) (eT := none) (adK := aK) (eK1 := none) (eT1 := none) ho2) rfl kM_X6_back ki_X6_back ks_X6_back km_L_227 ⟨(Nat.le_of_ble_eq_true rfl), (Nat.le_of_ble_eq_true rfl)⟩ (law_c hB (by decide) (by decide)) rfl rfl ⟨_, _, _, _, rfl, rfl, rfl, rfl⟩ rfl hl.1 rfl (Nat.le_of_ble_eq_true rfl) dL_law_1954) hw rfl rfl (fun _ => (Nat.le_of_ble_eq_true rfl)) (fun _ => rfl) rfl rfl (fun _ H locs hw => ?_)
      refine lv_icmp_eq (tgt := 1985) hx hb dL_law_1957 (by decide) (fun _ => ?_) (fun z => absurd heq z)
      refine W.widen (k := cells + 37) (n := slots + 2859) (by first | omega | exact Nat.add_le_add_left (Nat.le_of_ble_eq_true rfl) _) (by first | omega | exact Nat.add_le_add_left (Nat.le_of_ble_eq_true rfl) _) ?_
      exact next _ _ _ _ _ _ _ _ _ _ _ hI2 a0 a1 a2 a3 a4 a5 a6 a7 am aK aT _ _ _ hw hl
    | some r9 =>
      have hw : gW g (fun q : Nat => s.heap.size ≤ q) s.heap [wRO g a0 (a1 0) (a2 0) (a3 0) (a4 0) (a5 0) (a6 0) (a7 0) o1.2.1, wEV g a1 o1.2.2.1, wEV g a2 kp, wEV g a3 dr, wSH g a4 o1.2.2.2, wTP g a5 tp, wLW g a6 lw, wSE g a7 se, wRM g am (some (aK 0)) (some (aT 0)) rm, wRM g aK none none r, wRM g aT none none r9] _ _ := hw
      refine g_calli0 (isC := [8, 9]) (gn := fun _ => [wRO g a0 (a1 0) (a2 0) (a3 0) (a4 0) (a5 0) (a6 0) (a7 0) o1.2.1, wEV g a1 o1.2.2.1, wEV g a2 kp, wEV g a3 dr, wSH g a4 o1.2.2.2, wTP g a5 tp, wLW g a6 lw, wSE g a7 se, wRM g am (some (aK 0)) (some (aT 0)) o2.2, wRM g aK none none r, wRM g aT none none r9]) (g_runV (isC := [8, 9]) (rest := [.int o1.1]) (As := []) X hw (c_X6_back_s l (ad := am) (eT := (some (aT 0))) (adK := aK) (eK1 := none) (eT1 := none) ho2) rfl kM_X6_back ki_X6_back ks_X6_back km_L_227 ⟨(Nat.le_of_ble_eq_true rfl), (Nat.le_of_ble_eq_true rfl)⟩ (law_c hB (by decide) (by decide)) rfl rfl ⟨_, _, _, _, rfl, rfl, rfl, rfl⟩ rfl hl.1 rfl (Nat.le_of_ble_eq_true rfl) dL_law_1954) hw rfl rfl (fun _ => (Nat.le_of_ble_eq_true rfl)) (fun _ => rfl) rfl rfl (fun _ H locs hw => ?_)
      refine lv_icmp_eq (tgt := 1985) hx hb dL_law_1957 (by decide) (fun _ => ?_) (fun z => absurd heq z)
      refine W.widen (k := cells + 37) (n := slots + 2859) (by first | omega | exact Nat.add_le_add_left (Nat.le_of_ble_eq_true rfl) _) (by first | omega | exact Nat.add_le_add_left (Nat.le_of_ble_eq_true rfl) _) ?_
      exact next _ _ _ _ _ _ _ _ _ _ _ hI2 a0 a1 a2 a3 a4 a5 a6 a7 am aK aT _ _ _ hw hl
set_option maxHeartbeats 4000000 in
set_option maxRecDepth 100000 in
theorem law_status (X : gC p s m meth c #[Value.ref b] RL cL_law 4 g (fun q : Nat => s.heap.size ≤ q)) (hX : va_X b L xs s s.heap) (hbl : b < s.heap.size) {I : RO → EV → EV → EV → SH → TP → LW → SE → RM → Option RM → Option RM → Prop} (hS : S_status I) (hB : cells + 37 ≤ 600000 ∧ slots + 2859 ≤ 7302249) {x3 : Int32} (h1 : vp_in (x3 + 1) L) (h2 : vp_in (x3 + 2) L) (h3 : vp_in (x3 + 3) L) (h4 : vp_in (x3 + 4) L) (h5 : vp_in (x3 + 5) L)
    (next : lawNext p l e s m below meth c b g I Q (cells + 37) (slots + 2859) x3)
    (ro : RO) (nw : EV) (kp : EV) (dr : EV) (sh : SH) (tp : TP) (lw : LW) (se : SE) (rm : RM) (K : Option RM) (T : Option RM) (hI : I ro nw kp dr sh tp lw se rm K T) (a0 a1 a2 a3 a4 a5 a6 a7 am aK aT : Nat → Nat) (H : Heap) (locs : List Loc) (ls : Array Slot) (hw : gW g (fun q : Nat => s.heap.size ≤ q) s.heap (lawW g ro nw kp dr sh tp lw se rm K T a0 a1 a2 a3 a4 a5 a6 a7 am aK aT) H locs) (hl : lv_has ls 4 [(0, .ref b), (1, .ref (a0 0)), (2, .ref (am 0)), (3, .int x3)]) : W p l e room_1 s m #[Value.ref b] below meth c H locs cells slots Q (F0 m 1962 ls []) := by
  have hx := X.1.1
  have hb := X.1.2.1
  have hbA : ¬ (fun q : Nat => s.heap.size ≤ q) b := Nat.not_le.mpr hbl
  refine lv_aload_n hx hb dL_law_1962 rfl (lv_at hl 1 rfl) ?_
  refine lv_aload_n hx hb dL_law_1963 rfl (lv_at hl 0 rfl) ?_
  refine lv_iload_n hx hb dL_law_1964 rfl (lv_at hl 3 rfl) ?_
  refine lv_iconst (v := 1) hx hb dL_law_1965 (by decide) ?_
  refine lv_iadd hx hb dL_law_1966 ?_
  refine va_sld hx hb hX hbl hbA hw.2.2.1 h1 dL_law_1967 ?_
  obtain ⟨o1, ho1, hS⟩ := hS ro nw kp dr sh tp lw se rm K T hI (xs (x3 + 1).toNatClampNeg)
  refine g_calli0 (isC := [0, 1, 4, 5]) (gn := fun _ => ([wRO g a0 (a1 0) (a2 0) (a3 0) (a4 0) (a5 0) (a6 0) (a7 0) ro, wEV g a1 nw, wEV g a2 kp, wEV g a3 dr, wSH g a4 sh, wTP g a5 tp, wLW g a6 lw, wSE g a7 se, wRM g am (K.map fun _ => aK 0) (T.map fun _ => aT 0) rm] ++ (oW g aK K ++ oW g aT T))) (g_runV (isC := [0, 1, 4, 5]) (rest := []) (As := [.int (xs (x3 + 1).toNatClampNeg)]) X hw (c_X5_status l (ad := a0) (adN := a1) (adS := a4) (adT := a5) (aK := (a2 0)) (aD := (a3 0)) (aL := (a6 0)) (aE := (a7 0)) ho1) rfl kM_X5_status ki_X5_status ks_X5_status km_L_228 ⟨(Nat.le_of_ble_eq_true rfl), (Nat.le_of_ble_eq_true rfl)⟩ (law_c hB (by decide) (by decide)) rfl rfl ⟨_, _, _, _, rfl, rfl, rfl, rfl⟩ rfl hl.1 rfl (Nat.le_of_ble_eq_true rfl) dL_law_1968) hw rfl rfl (fun _ => (Nat.le_of_ble_eq_true rfl)) (fun _ => (gputs_eq rfl).trans rfl) rfl rfl (fun _ H locs hw => ?_)
  refine lv_aload_n hx hb dL_law_1971 rfl (lv_at hl 2 rfl) ?_
  refine lv_aload_n hx hb dL_law_1972 rfl (lv_at hl 0 rfl) ?_
  refine lv_iload_n hx hb dL_law_1973 rfl (lv_at hl 3 rfl) ?_
  refine lv_iconst (v := 1) hx hb dL_law_1974 (by decide) ?_
  refine lv_iadd hx hb dL_law_1975 ?_
  refine va_sld hx hb hX hbl hbA hw.2.2.1 h1 dL_law_1976 ?_
  obtain ⟨o2, ho2, heq, hI⟩ := hS
  refine g_calli0 (isC := [8]) (gn := fun _ => ([wRO g a0 (a1 0) (a2 0) (a3 0) (a4 0) (a5 0) (a6 0) (a7 0) ro, wEV g a1 nw, wEV g a2 kp, wEV g a3 dr, wSH g a4 sh, wTP g a5 tp, wLW g a6 lw, wSE g a7 se, wRM g am (K.map fun _ => aK 0) (T.map fun _ => aT 0) rm] ++ (oW g aK K ++ oW g aT T))) (g_runV (isC := [8]) (rest := [.int o1]) (As := [.int (xs (x3 + 1).toNatClampNeg)]) X hw (c_X6_status l (ad := am) (eK := (K.map fun _ => aK 0)) (eT := (T.map fun _ => aT 0)) ho2) rfl kM_X6_status ki_X6_status ks_X6_status km_L_231 ⟨(Nat.le_of_ble_eq_true rfl), (Nat.le_of_ble_eq_true rfl)⟩ (law_c hB (by decide) (by decide)) rfl rfl ⟨_, _, _, _, rfl, rfl, rfl, rfl⟩ rfl hl.1 rfl (Nat.le_of_ble_eq_true rfl) dL_law_1977) hw rfl rfl (fun _ => (Nat.le_of_ble_eq_true rfl)) (fun _ => (gputs_eq rfl).trans rfl) rfl rfl (fun _ H locs hw => ?_)
  refine lv_icmp_eq (tgt := 1985) hx hb dL_law_1980 (by decide) (fun _ => ?_) (fun z => absurd heq z)
  refine W.widen (k := cells + 37) (n := slots + 2859) (by first | omega | exact Nat.add_le_add_left (Nat.le_of_ble_eq_true rfl) _) (by first | omega | exact Nat.add_le_add_left (Nat.le_of_ble_eq_true rfl) _) ?_
  exact next _ _ _ _ _ _ _ _ _ _ _ hI a0 a1 a2 a3 a4 a5 a6 a7 am aK aT _ _ _ hw hl
end LAW
