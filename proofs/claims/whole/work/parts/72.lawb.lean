section LAW
variable {p : Program} {l : Launch} {e : Env} {s : State} {m : MethodId} {below : List Frame} {meth : Method} {c : Code} {b L : Nat} {xs : Nat → Int32} {g : gG} {Q : State → Prop} {cells slots : Nat}
set_option maxHeartbeats 4000000 in
set_option maxRecDepth 100000 in
theorem law_wipe (X : gC p s m meth c #[Value.ref b] RL cL_law 4 g (fun q : Nat => s.heap.size ≤ q)) (hX : va_X b L xs s s.heap) (hbl : b < s.heap.size) {I : RO → EV → EV → EV → SH → TP → LW → SE → RM → Option RM → Option RM → Prop} (hS : S_wipe I) (hB : cells + 37 ≤ 600000 ∧ slots + 2859 ≤ 7302249) {x3 : Int32} (h1 : vp_in (x3 + 1) L) (h2 : vp_in (x3 + 2) L) (h3 : vp_in (x3 + 3) L) (h4 : vp_in (x3 + 4) L) (h5 : vp_in (x3 + 5) L)
    (next : lawNext p l e s m below meth c b g I Q (cells + 37) (slots + 2859) x3)
    (ro : RO) (nw : EV) (kp : EV) (dr : EV) (sh : SH) (tp : TP) (lw : LW) (se : SE) (rm : RM) (K : Option RM) (T : Option RM) (hI : I ro nw kp dr sh tp lw se rm K T) (a0 a1 a2 a3 a4 a5 a6 a7 am aK aT : Nat → Nat) (H : Heap) (locs : List Loc) (ls : Array Slot) (hw : gW g (fun q : Nat => s.heap.size ≤ q) s.heap (lawW g ro nw kp dr sh tp lw se rm K T a0 a1 a2 a3 a4 a5 a6 a7 am aK aT) H locs) (hl : lv_has ls 4 [(0, .ref b), (1, .ref (a0 0)), (2, .ref (am 0)), (3, .int x3)]) : W p l e room_1 s m #[Value.ref b] below meth c H locs cells slots Q (F0 m 766 ls []) := by
  have hx := X.1.1
  have hb := X.1.2.1
  have hbA : ¬ (fun q : Nat => s.heap.size ≤ q) b := Nat.not_le.mpr hbl
  refine lv_aload_n hx hb dL_law_766 rfl (lv_at hl 1 rfl) ?_
  obtain ⟨o1, ho1, hS⟩ := hS ro nw kp dr sh tp lw se rm K T hI ()
  refine g_calli0 (isC := [0, 5]) (gn := fun _ => ([wRO g a0 (a1 0) (a2 0) (a3 0) (a4 0) (a5 0) (a6 0) (a7 0) ro, wEV g a1 nw, wEV g a2 kp, wEV g a3 dr, wSH g a4 sh, wTP g a5 o1.2, wLW g a6 lw, wSE g a7 se, wRM g am (K.map fun _ => aK 0) (T.map fun _ => aT 0) rm] ++ (oW g aK K ++ oW g aT T))) (g_runV (isC := [0, 5]) (rest := []) (As := []) X hw (c_X5_wipe l (ad := a0) (adT := a5) (aN := (a1 0)) (aK := (a2 0)) (aD := (a3 0)) (aS := (a4 0)) (aL := (a6 0)) (aE := (a7 0)) ho1) rfl kM_X5_wipe ki_X5_wipe ks_X5_wipe km_L_74 ⟨(Nat.le_of_ble_eq_true rfl), (Nat.le_of_ble_eq_true rfl)⟩ (law_c hB (by decide) (by decide)) rfl rfl ⟨_, _, _, _, rfl, rfl, rfl, rfl⟩ rfl hl.1 rfl (Nat.le_of_ble_eq_true rfl) dL_law_767) hw rfl rfl (fun _ => (Nat.le_of_ble_eq_true rfl)) (fun _ => (gputs_eq rfl).trans rfl) rfl rfl (fun _ H locs hw => ?_)
  refine lv_aload_n hx hb dL_law_770 rfl (lv_at hl 2 rfl) ?_
  obtain ⟨o2, ho2, heq, hI⟩ := hS
  refine g_calli0 (isC := [8]) (gn := fun _ => ([wRO g a0 (a1 0) (a2 0) (a3 0) (a4 0) (a5 0) (a6 0) (a7 0) ro, wEV g a1 nw, wEV g a2 kp, wEV g a3 dr, wSH g a4 sh, wTP g a5 o1.2, wLW g a6 lw, wSE g a7 se, wRM g am (K.map fun _ => aK 0) (T.map fun _ => aT 0) o2.2] ++ (oW g aK K ++ oW g aT T))) (g_runV (isC := [8]) (rest := [.int o1.1]) (As := []) X hw (c_X6_wipe l (ad := am) (eK := (K.map fun _ => aK 0)) (eT := (T.map fun _ => aT 0)) ho2) rfl kM_X6_wipe ki_X6_wipe ks_X6_wipe km_L_78 ⟨(Nat.le_of_ble_eq_true rfl), (Nat.le_of_ble_eq_true rfl)⟩ (law_c hB (by decide) (by decide)) rfl rfl ⟨_, _, _, _, rfl, rfl, rfl, rfl⟩ rfl hl.1 rfl (Nat.le_of_ble_eq_true rfl) dL_law_771) hw rfl rfl (fun _ => (Nat.le_of_ble_eq_true rfl)) (fun _ => (gputs_eq rfl).trans rfl) rfl rfl (fun _ H locs hw => ?_)
  refine lv_icmp_eq (tgt := 1985) hx hb dL_law_774 (by decide) (fun _ => ?_) (fun z => absurd heq z)
  refine W.widen (k := cells + 37) (n := slots + 2859) (by first | omega | exact Nat.add_le_add_left (Nat.le_of_ble_eq_true rfl) _) (by first | omega | exact Nat.add_le_add_left (Nat.le_of_ble_eq_true rfl) _) ?_
  exact next _ _ _ _ _ _ _ _ _ _ _ hI a0 a1 a2 a3 a4 a5 a6 a7 am aK aT _ _ _ hw hl
set_option maxHeartbeats 4000000 in
set_option maxRecDepth 100000 in
theorem law_bars (X : gC p s m meth c #[Value.ref b] RL cL_law 4 g (fun q : Nat => s.heap.size ≤ q)) (hX : va_X b L xs s s.heap) (hbl : b < s.heap.size) {I : RO → EV → EV → EV → SH → TP → LW → SE → RM → Option RM → Option RM → Prop} (hS : S_bars I) (hB : cells + 37 ≤ 600000 ∧ slots + 2859 ≤ 7302249) {x3 : Int32} (h1 : vp_in (x3 + 1) L) (h2 : vp_in (x3 + 2) L) (h3 : vp_in (x3 + 3) L) (h4 : vp_in (x3 + 4) L) (h5 : vp_in (x3 + 5) L)
    (next : lawNext p l e s m below meth c b g I Q (cells + 37) (slots + 2859) x3)
    (ro : RO) (nw : EV) (kp : EV) (dr : EV) (sh : SH) (tp : TP) (lw : LW) (se : SE) (rm : RM) (K : Option RM) (T : Option RM) (hI : I ro nw kp dr sh tp lw se rm K T) (a0 a1 a2 a3 a4 a5 a6 a7 am aK aT : Nat → Nat) (H : Heap) (locs : List Loc) (ls : Array Slot) (hw : gW g (fun q : Nat => s.heap.size ≤ q) s.heap (lawW g ro nw kp dr sh tp lw se rm K T a0 a1 a2 a3 a4 a5 a6 a7 am aK aT) H locs) (hl : lv_has ls 4 [(0, .ref b), (1, .ref (a0 0)), (2, .ref (am 0)), (3, .int x3)]) : W p l e room_1 s m #[Value.ref b] below meth c H locs cells slots Q (F0 m 779 ls []) := by
  have hx := X.1.1
  have hb := X.1.2.1
  have hbA : ¬ (fun q : Nat => s.heap.size ≤ q) b := Nat.not_le.mpr hbl
  refine lv_aload_n hx hb dL_law_779 rfl (lv_at hl 1 rfl) ?_
  obtain ⟨o1, ho1, hS⟩ := hS ro nw kp dr sh tp lw se rm K T hI ()
  refine g_calli0 (isC := [0, 1, 3, 5, 6]) (gn := fun _ => ([wRO g a0 (a1 0) (a2 0) (a3 0) (a4 0) (a5 0) (a6 0) (a7 0) o1.2.1, wEV g a1 o1.2.2.1, wEV g a2 kp, wEV g a3 o1.2.2.2.1, wSH g a4 sh, wTP g a5 o1.2.2.2.2.1, wLW g a6 o1.2.2.2.2.2, wSE g a7 se, wRM g am (K.map fun _ => aK 0) (T.map fun _ => aT 0) rm] ++ (oW g aK K ++ oW g aT T))) (g_runV (isC := [0, 1, 3, 5, 6]) (rest := []) (As := []) X hw (c_X5_bars l (ad := a0) (adN := a1) (adD := a3) (adT := a5) (adL := a6) (aK := (a2 0)) (aS := (a4 0)) (aE := (a7 0)) ho1) rfl kM_X5_bars ki_X5_bars ks_X5_bars km_L_79 ⟨(Nat.le_of_ble_eq_true rfl), (Nat.le_of_ble_eq_true rfl)⟩ (law_c hB (by decide) (by decide)) rfl rfl ⟨_, _, _, _, rfl, rfl, rfl, rfl⟩ rfl hl.1 rfl (Nat.le_of_ble_eq_true rfl) dL_law_780) hw rfl rfl (fun _ => (Nat.le_of_ble_eq_true rfl)) (fun _ => (gputs_eq rfl).trans rfl) rfl rfl (fun _ H locs hw => ?_)
  refine lv_aload_n hx hb dL_law_783 rfl (lv_at hl 2 rfl) ?_
  cases hT : T with
  | none =>
    obtain ⟨o2, ho2, heq, hI2⟩ := hS.1 hT
    subst hT
    cases K with
    | none =>
      have hw : gW g (fun q : Nat => s.heap.size ≤ q) s.heap [wRO g a0 (a1 0) (a2 0) (a3 0) (a4 0) (a5 0) (a6 0) (a7 0) o1.2.1, wEV g a1 o1.2.2.1, wEV g a2 kp, wEV g a3 o1.2.2.2.1, wSH g a4 sh, wTP g a5 o1.2.2.2.2.1, wLW g a6 o1.2.2.2.2.2, wSE g a7 se, wRM g am none none rm] _ _ := hw
      refine g_calli (isC := [8]) (gn := fun u => gputs [wRO g a0 (a1 0) (a2 0) (a3 0) (a4 0) (a5 0) (a6 0) (a7 0) o1.2.1, wEV g a1 o1.2.2.1, wEV g a2 kp, wEV g a3 o1.2.2.2.1, wSH g a4 sh, wTP g a5 o1.2.2.2.2.1, wLW g a6 o1.2.2.2.2.2, wSE g a7 se, wRM g am none none rm] [8] (oT g am none o2.2.1 u o2.2.2)) (g_runV (isC := [8]) (rest := [.int o1.1]) (As := []) X hw (c_X6_bars_n l (ad := am) (eK := none) ho2) rfl kM_X6_bars ki_X6_bars ks_X6_bars km_L_82 ⟨(Nat.le_of_ble_eq_true rfl), (Nat.le_of_ble_eq_true rfl)⟩ (law_c hB (by decide) (by decide)) rfl rfl ⟨_, _, _, _, rfl, rfl, rfl, rfl⟩ rfl hl.1 rfl (Nat.le_of_ble_eq_true rfl) dL_law_784) hw rfl rfl (fun u => by cases o2.2.2 <;> exact Nat.le_of_ble_eq_true rfl) (fun _ => rfl) (fun u H locs hw => ?_)
      cases hn : o2.2.2 with
      | none =>
        rw [hn] at hw hI2
        have hw : gW g (fun q : Nat => s.heap.size ≤ q) s.heap [wRO g a0 (a1 0) (a2 0) (a3 0) (a4 0) (a5 0) (a6 0) (a7 0) o1.2.1, wEV g a1 o1.2.2.1, wEV g a2 kp, wEV g a3 o1.2.2.2.1, wSH g a4 sh, wTP g a5 o1.2.2.2.2.1, wLW g a6 o1.2.2.2.2.2, wSE g a7 se, wRM g am none none o2.2.1] _ _ := hw
        refine lv_icmp_eq (tgt := 1985) hx hb dL_law_787 (by decide) (fun _ => ?_) (fun z => absurd heq z)
        refine W.widen (k := cells + 37) (n := slots + 2859) (by first | omega | exact Nat.add_le_add_left (Nat.le_of_ble_eq_true rfl) _) (by first | omega | exact Nat.add_le_add_left (Nat.le_of_ble_eq_true rfl) _) ?_
        exact next _ _ _ _ _ _ _ _ _ _ _ hI2 a0 a1 a2 a3 a4 a5 a6 a7 am aK aT _ _ _ hw hl
      | some r8 =>
        rw [hn] at hw hI2
        have hw : gW g (fun q : Nat => s.heap.size ≤ q) s.heap [wRO g a0 (a1 0) (a2 0) (a3 0) (a4 0) (a5 0) (a6 0) (a7 0) o1.2.1, wEV g a1 o1.2.2.1, wEV g a2 kp, wEV g a3 o1.2.2.2.1, wSH g a4 sh, wTP g a5 o1.2.2.2.2.1, wLW g a6 o1.2.2.2.2.2, wSE g a7 se, wRM g am none (some (u 0)) o2.2.1, wRM g u none none r8] _ _ := hw
        refine lv_icmp_eq (tgt := 1985) hx hb dL_law_787 (by decide) (fun _ => ?_) (fun z => absurd heq z)
        refine W.widen (k := cells + 37) (n := slots + 2859) (by first | omega | exact Nat.add_le_add_left (Nat.le_of_ble_eq_true rfl) _) (by first | omega | exact Nat.add_le_add_left (Nat.le_of_ble_eq_true rfl) _) ?_
        exact next _ _ _ _ _ _ _ _ _ _ _ hI2 a0 a1 a2 a3 a4 a5 a6 a7 am aK u _ _ _ hw hl
    | some r9 =>
      have hw : gW g (fun q : Nat => s.heap.size ≤ q) s.heap [wRO g a0 (a1 0) (a2 0) (a3 0) (a4 0) (a5 0) (a6 0) (a7 0) o1.2.1, wEV g a1 o1.2.2.1, wEV g a2 kp, wEV g a3 o1.2.2.2.1, wSH g a4 sh, wTP g a5 o1.2.2.2.2.1, wLW g a6 o1.2.2.2.2.2, wSE g a7 se, wRM g am (some (aK 0)) none rm, wRM g aK none none r9] _ _ := hw
      refine g_calli (isC := [8]) (gn := fun u => gputs [wRO g a0 (a1 0) (a2 0) (a3 0) (a4 0) (a5 0) (a6 0) (a7 0) o1.2.1, wEV g a1 o1.2.2.1, wEV g a2 kp, wEV g a3 o1.2.2.2.1, wSH g a4 sh, wTP g a5 o1.2.2.2.2.1, wLW g a6 o1.2.2.2.2.2, wSE g a7 se, wRM g am (some (aK 0)) none rm, wRM g aK none none r9] [8] (oT g am (some (aK 0)) o2.2.1 u o2.2.2)) (g_runV (isC := [8]) (rest := [.int o1.1]) (As := []) X hw (c_X6_bars_n l (ad := am) (eK := (some (aK 0))) ho2) rfl kM_X6_bars ki_X6_bars ks_X6_bars km_L_82 ⟨(Nat.le_of_ble_eq_true rfl), (Nat.le_of_ble_eq_true rfl)⟩ (law_c hB (by decide) (by decide)) rfl rfl ⟨_, _, _, _, rfl, rfl, rfl, rfl⟩ rfl hl.1 rfl (Nat.le_of_ble_eq_true rfl) dL_law_784) hw rfl rfl (fun u => by cases o2.2.2 <;> exact Nat.le_of_ble_eq_true rfl) (fun _ => rfl) (fun u H locs hw => ?_)
      cases hn : o2.2.2 with
      | none =>
        rw [hn] at hw hI2
        have hw : gW g (fun q : Nat => s.heap.size ≤ q) s.heap [wRO g a0 (a1 0) (a2 0) (a3 0) (a4 0) (a5 0) (a6 0) (a7 0) o1.2.1, wEV g a1 o1.2.2.1, wEV g a2 kp, wEV g a3 o1.2.2.2.1, wSH g a4 sh, wTP g a5 o1.2.2.2.2.1, wLW g a6 o1.2.2.2.2.2, wSE g a7 se, wRM g am (some (aK 0)) none o2.2.1, wRM g aK none none r9] _ _ := hw
        refine lv_icmp_eq (tgt := 1985) hx hb dL_law_787 (by decide) (fun _ => ?_) (fun z => absurd heq z)
        refine W.widen (k := cells + 37) (n := slots + 2859) (by first | omega | exact Nat.add_le_add_left (Nat.le_of_ble_eq_true rfl) _) (by first | omega | exact Nat.add_le_add_left (Nat.le_of_ble_eq_true rfl) _) ?_
        exact next _ _ _ _ _ _ _ _ _ _ _ hI2 a0 a1 a2 a3 a4 a5 a6 a7 am aK aT _ _ _ hw hl
      | some r8 =>
        rw [hn] at hw hI2
        have hw : gW g (fun q : Nat => s.heap.size ≤ q) s.heap [wRO g a0 (a1 0) (a2 0) (a3 0) (a4 0) (a5 0) (a6 0) (a7 0) o1.2.1, wEV g a1 o1.2.2.1, wEV g a2 kp, wEV g a3 o1.2.2.2.1, wSH g a4 sh, wTP g a5 o1.2.2.2.2.1, wLW g a6 o1.2.2.2.2.2, wSE g a7 se, wRM g am (some (aK 0)) (some (u 0)) o2.2.1, wRM g aK none none r9, wRM g u none none r8] _ _ := hw
        refine lv_icmp_eq (tgt := 1985) hx hb dL_law_787 (by decide) (fun _ => ?_) (fun z => absurd heq z)
        refine W.widen (k := cells + 37) (n := slots + 2859) (by first | omega | exact Nat.add_le_add_left (Nat.le_of_ble_eq_true rfl) _) (by first | omega | exact Nat.add_le_add_left (Nat.le_of_ble_eq_true rfl) _) ?_
        exact next _ _ _ _ _ _ _ _ _ _ _ hI2 a0 a1 a2 a3 a4 a5 a6 a7 am aK u _ _ _ hw hl
  | some r =>
    obtain ⟨o2, ho2, heq, hI2⟩ := hS.2 r hT
    subst hT
    cases K with
    | none =>
      have hw : gW g (fun q : Nat => s.heap.size ≤ q) s.heap [wRO g a0 (a1 0) (a2 0) (a3 0) (a4 0) (a5 0) (a6 0) (a7 0) o1.2.1, wEV g a1 o1.2.2.1, wEV g a2 kp, wEV g a3 o1.2.2.2.1, wSH g a4 sh, wTP g a5 o1.2.2.2.2.1, wLW g a6 o1.2.2.2.2.2, wSE g a7 se, wRM g am none (some (aT 0)) rm, wRM g aT none none r] _ _ := hw
      refine g_calli0 (isC := [8, 9]) (gn := fun _ => [wRO g a0 (a1 0) (a2 0) (a3 0) (a4 0) (a5 0) (a6 0) (a7 0) o1.2.1, wEV g a1 o1.2.2.1, wEV g a2 kp, wEV g a3 o1.2.2.2.1, wSH g a4 sh, wTP g a5 o1.2.2.2.2.1, wLW g a6 o1.2.2.2.2.2, wSE g a7 se, wRM g am none (some (aT 0)) o2.2.1, wRM g aT none none o2.2.2]) (g_runV (isC := [8, 9]) (rest := [.int o1.1]) (As := []) X hw (c_X6_bars_s l (ad := am) (eK := none) (adT := aT) (eK1 := none) (eT1 := none) ho2) rfl kM_X6_bars ki_X6_bars ks_X6_bars km_L_82 ⟨(Nat.le_of_ble_eq_true rfl), (Nat.le_of_ble_eq_true rfl)⟩ (law_c hB (by decide) (by decide)) rfl rfl ⟨_, _, _, _, rfl, rfl, rfl, rfl⟩ rfl hl.1 rfl (Nat.le_of_ble_eq_true rfl) dL_law_784) hw rfl rfl (fun _ => (Nat.le_of_ble_eq_true rfl)) (fun _ => rfl) rfl rfl (fun _ H locs hw => ?_)
      refine lv_icmp_eq (tgt := 1985) hx hb dL_law_787 (by decide) (fun _ => ?_) (fun z => absurd heq z)
      refine W.widen (k := cells + 37) (n := slots + 2859) (by first | omega | exact Nat.add_le_add_left (Nat.le_of_ble_eq_true rfl) _) (by first | omega | exact Nat.add_le_add_left (Nat.le_of_ble_eq_true rfl) _) ?_
      exact next _ _ _ _ _ _ _ _ _ _ _ hI2 a0 a1 a2 a3 a4 a5 a6 a7 am aK aT _ _ _ hw hl
    | some r9 =>
      have hw : gW g (fun q : Nat => s.heap.size ≤ q) s.heap [wRO g a0 (a1 0) (a2 0) (a3 0) (a4 0) (a5 0) (a6 0) (a7 0) o1.2.1, wEV g a1 o1.2.2.1, wEV g a2 kp, wEV g a3 o1.2.2.2.1, wSH g a4 sh, wTP g a5 o1.2.2.2.2.1, wLW g a6 o1.2.2.2.2.2, wSE g a7 se, wRM g am (some (aK 0)) (some (aT 0)) rm, wRM g aK none none r9, wRM g aT none none r] _ _ := hw
      refine g_calli0 (isC := [8, 10]) (gn := fun _ => [wRO g a0 (a1 0) (a2 0) (a3 0) (a4 0) (a5 0) (a6 0) (a7 0) o1.2.1, wEV g a1 o1.2.2.1, wEV g a2 kp, wEV g a3 o1.2.2.2.1, wSH g a4 sh, wTP g a5 o1.2.2.2.2.1, wLW g a6 o1.2.2.2.2.2, wSE g a7 se, wRM g am (some (aK 0)) (some (aT 0)) o2.2.1, wRM g aK none none r9, wRM g aT none none o2.2.2]) (g_runV (isC := [8, 10]) (rest := [.int o1.1]) (As := []) X hw (c_X6_bars_s l (ad := am) (eK := (some (aK 0))) (adT := aT) (eK1 := none) (eT1 := none) ho2) rfl kM_X6_bars ki_X6_bars ks_X6_bars km_L_82 ⟨(Nat.le_of_ble_eq_true rfl), (Nat.le_of_ble_eq_true rfl)⟩ (law_c hB (by decide) (by decide)) rfl rfl ⟨_, _, _, _, rfl, rfl, rfl, rfl⟩ rfl hl.1 rfl (Nat.le_of_ble_eq_true rfl) dL_law_784) hw rfl rfl (fun _ => (Nat.le_of_ble_eq_true rfl)) (fun _ => rfl) rfl rfl (fun _ H locs hw => ?_)
      refine lv_icmp_eq (tgt := 1985) hx hb dL_law_787 (by decide) (fun _ => ?_) (fun z => absurd heq z)
      refine W.widen (k := cells + 37) (n := slots + 2859) (by first | omega | exact Nat.add_le_add_left (Nat.le_of_ble_eq_true rfl) _) (by first | omega | exact Nat.add_le_add_left (Nat.le_of_ble_eq_true rfl) _) ?_
      exact next _ _ _ _ _ _ _ _ _ _ _ hI2 a0 a1 a2 a3 a4 a5 a6 a7 am aK aT _ _ _ hw hl
set_option maxHeartbeats 4000000 in
set_option maxRecDepth 100000 in
theorem law_barOf (X : gC p s m meth c #[Value.ref b] RL cL_law 4 g (fun q : Nat => s.heap.size ≤ q)) (hX : va_X b L xs s s.heap) (hbl : b < s.heap.size) {I : RO → EV → EV → EV → SH → TP → LW → SE → RM → Option RM → Option RM → Prop} (hS : S_barOf I) (hB : cells + 37 ≤ 600000 ∧ slots + 2859 ≤ 7302249) {x3 : Int32} (h1 : vp_in (x3 + 1) L) (h2 : vp_in (x3 + 2) L) (h3 : vp_in (x3 + 3) L) (h4 : vp_in (x3 + 4) L) (h5 : vp_in (x3 + 5) L)
    (next : lawNext p l e s m below meth c b g I Q (cells + 37) (slots + 2859) x3)
    (ro : RO) (nw : EV) (kp : EV) (dr : EV) (sh : SH) (tp : TP) (lw : LW) (se : SE) (rm : RM) (K : Option RM) (T : Option RM) (hI : I ro nw kp dr sh tp lw se rm K T) (a0 a1 a2 a3 a4 a5 a6 a7 am aK aT : Nat → Nat) (H : Heap) (locs : List Loc) (ls : Array Slot) (hw : gW g (fun q : Nat => s.heap.size ≤ q) s.heap (lawW g ro nw kp dr sh tp lw se rm K T a0 a1 a2 a3 a4 a5 a6 a7 am aK aT) H locs) (hl : lv_has ls 4 [(0, .ref b), (1, .ref (a0 0)), (2, .ref (am 0)), (3, .int x3)]) : W p l e room_1 s m #[Value.ref b] below meth c H locs cells slots Q (F0 m 792 ls []) := by
  have hx := X.1.1
  have hb := X.1.2.1
  have hbA : ¬ (fun q : Nat => s.heap.size ≤ q) b := Nat.not_le.mpr hbl
  refine lv_aload_n hx hb dL_law_792 rfl (lv_at hl 1 rfl) ?_
  refine lv_aload_n hx hb dL_law_793 rfl (lv_at hl 0 rfl) ?_
  refine lv_iload_n hx hb dL_law_794 rfl (lv_at hl 3 rfl) ?_
  refine lv_iconst (v := 1) hx hb dL_law_795 (by decide) ?_
  refine lv_iadd hx hb dL_law_796 ?_
  refine va_sld hx hb hX hbl hbA hw.2.2.1 h1 dL_law_797 ?_
  refine lv_aload_n hx hb dL_law_798 rfl (lv_at hl 0 rfl) ?_
  refine lv_iload_n hx hb dL_law_799 rfl (lv_at hl 3 rfl) ?_
  refine lv_iconst (v := 2) hx hb dL_law_800 (by decide) ?_
  refine lv_iadd hx hb dL_law_801 ?_
  refine va_sld hx hb hX hbl hbA hw.2.2.1 h2 dL_law_802 ?_
  obtain ⟨o1, ho1, hS⟩ := hS ro nw kp dr sh tp lw se rm K T hI (xs (x3 + 1).toNatClampNeg) (xs (x3 + 2).toNatClampNeg)
  refine g_calli0 (isC := [0, 1]) (gn := fun _ => ([wRO g a0 (a1 0) (a2 0) (a3 0) (a4 0) (a5 0) (a6 0) (a7 0) o1.2, wEV g a1 nw, wEV g a2 kp, wEV g a3 dr, wSH g a4 sh, wTP g a5 tp, wLW g a6 lw, wSE g a7 se, wRM g am (K.map fun _ => aK 0) (T.map fun _ => aT 0) rm] ++ (oW g aK K ++ oW g aT T))) (g_runV (isC := [0, 1]) (rest := []) (As := [.int (xs (x3 + 1).toNatClampNeg), .int (xs (x3 + 2).toNatClampNeg)]) X hw (c_X5_barOf l (ad := a0) (adN := a1) (aK := (a2 0)) (aD := (a3 0)) (aS := (a4 0)) (aT := (a5 0)) (aL := (a6 0)) (aE := (a7 0)) ho1) rfl kM_X5_barOf ki_X5_barOf ks_X5_barOf km_L_83 ⟨(Nat.le_of_ble_eq_true rfl), (Nat.le_of_ble_eq_true rfl)⟩ (law_c hB (by decide) (by decide)) rfl rfl ⟨_, _, _, _, rfl, rfl, rfl, rfl⟩ rfl hl.1 rfl (Nat.le_of_ble_eq_true rfl) dL_law_803) hw rfl rfl (fun _ => (Nat.le_of_ble_eq_true rfl)) (fun _ => (gputs_eq rfl).trans rfl) rfl rfl (fun _ H locs hw => ?_)
  refine lv_aload_n hx hb dL_law_806 rfl (lv_at hl 2 rfl) ?_
  refine lv_aload_n hx hb dL_law_807 rfl (lv_at hl 0 rfl) ?_
  refine lv_iload_n hx hb dL_law_808 rfl (lv_at hl 3 rfl) ?_
  refine lv_iconst (v := 1) hx hb dL_law_809 (by decide) ?_
  refine lv_iadd hx hb dL_law_810 ?_
  refine va_sld hx hb hX hbl hbA hw.2.2.1 h1 dL_law_811 ?_
  refine lv_aload_n hx hb dL_law_812 rfl (lv_at hl 0 rfl) ?_
  refine lv_iload_n hx hb dL_law_813 rfl (lv_at hl 3 rfl) ?_
  refine lv_iconst (v := 2) hx hb dL_law_814 (by decide) ?_
  refine lv_iadd hx hb dL_law_815 ?_
  refine va_sld hx hb hX hbl hbA hw.2.2.1 h2 dL_law_816 ?_
  obtain ⟨o2, ho2, heq, hI⟩ := hS
  refine g_calli0 (isC := [8]) (gn := fun _ => ([wRO g a0 (a1 0) (a2 0) (a3 0) (a4 0) (a5 0) (a6 0) (a7 0) o1.2, wEV g a1 nw, wEV g a2 kp, wEV g a3 dr, wSH g a4 sh, wTP g a5 tp, wLW g a6 lw, wSE g a7 se, wRM g am (K.map fun _ => aK 0) (T.map fun _ => aT 0) o2.2] ++ (oW g aK K ++ oW g aT T))) (g_runV (isC := [8]) (rest := [.int o1.1]) (As := [.int (xs (x3 + 1).toNatClampNeg), .int (xs (x3 + 2).toNatClampNeg)]) X hw (c_X6_barOf l (ad := am) (eK := (K.map fun _ => aK 0)) (eT := (T.map fun _ => aT 0)) ho2) rfl kM_X6_barOf ki_X6_barOf ks_X6_barOf km_L_86 ⟨(Nat.le_of_ble_eq_true rfl), (Nat.le_of_ble_eq_true rfl)⟩ (law_c hB (by decide) (by decide)) rfl rfl ⟨_, _, _, _, rfl, rfl, rfl, rfl⟩ rfl hl.1 rfl (Nat.le_of_ble_eq_true rfl) dL_law_817) hw rfl rfl (fun _ => (Nat.le_of_ble_eq_true rfl)) (fun _ => (gputs_eq rfl).trans rfl) rfl rfl (fun _ H locs hw => ?_)
  refine lv_icmp_eq (tgt := 1985) hx hb dL_law_820 (by decide) (fun _ => ?_) (fun z => absurd heq z)
  refine W.widen (k := cells + 37) (n := slots + 2859) (by first | omega | exact Nat.add_le_add_left (Nat.le_of_ble_eq_true rfl) _) (by first | omega | exact Nat.add_le_add_left (Nat.le_of_ble_eq_true rfl) _) ?_
  exact next _ _ _ _ _ _ _ _ _ _ _ hI a0 a1 a2 a3 a4 a5 a6 a7 am aK aT _ _ _ hw hl
set_option maxHeartbeats 4000000 in
set_option maxRecDepth 100000 in
theorem law_may (X : gC p s m meth c #[Value.ref b] RL cL_law 4 g (fun q : Nat => s.heap.size ≤ q)) (hX : va_X b L xs s s.heap) (hbl : b < s.heap.size) {I : RO → EV → EV → EV → SH → TP → LW → SE → RM → Option RM → Option RM → Prop} (hS : S_may I) (hB : cells + 37 ≤ 600000 ∧ slots + 2859 ≤ 7302249) {x3 : Int32} (h1 : vp_in (x3 + 1) L) (h2 : vp_in (x3 + 2) L) (h3 : vp_in (x3 + 3) L) (h4 : vp_in (x3 + 4) L) (h5 : vp_in (x3 + 5) L)
    (next : lawNext p l e s m below meth c b g I Q (cells + 37) (slots + 2859) x3)
    (ro : RO) (nw : EV) (kp : EV) (dr : EV) (sh : SH) (tp : TP) (lw : LW) (se : SE) (rm : RM) (K : Option RM) (T : Option RM) (hI : I ro nw kp dr sh tp lw se rm K T) (a0 a1 a2 a3 a4 a5 a6 a7 am aK aT : Nat → Nat) (H : Heap) (locs : List Loc) (ls : Array Slot) (hw : gW g (fun q : Nat => s.heap.size ≤ q) s.heap (lawW g ro nw kp dr sh tp lw se rm K T a0 a1 a2 a3 a4 a5 a6 a7 am aK aT) H locs) (hl : lv_has ls 4 [(0, .ref b), (1, .ref (a0 0)), (2, .ref (am 0)), (3, .int x3)]) : W p l e room_1 s m #[Value.ref b] below meth c H locs cells slots Q (F0 m 825 ls []) := by
  have hx := X.1.1
  have hb := X.1.2.1
  have hbA : ¬ (fun q : Nat => s.heap.size ≤ q) b := Nat.not_le.mpr hbl
  refine lv_aload_n hx hb dL_law_825 rfl (lv_at hl 1 rfl) ?_
  refine lv_aload_n hx hb dL_law_826 rfl (lv_at hl 0 rfl) ?_
  refine lv_iload_n hx hb dL_law_827 rfl (lv_at hl 3 rfl) ?_
  refine lv_iconst (v := 1) hx hb dL_law_828 (by decide) ?_
  refine lv_iadd hx hb dL_law_829 ?_
  refine va_sld hx hb hX hbl hbA hw.2.2.1 h1 dL_law_830 ?_
  refine lv_aload_n hx hb dL_law_831 rfl (lv_at hl 0 rfl) ?_
  refine lv_iload_n hx hb dL_law_832 rfl (lv_at hl 3 rfl) ?_
  refine lv_iconst (v := 2) hx hb dL_law_833 (by decide) ?_
  refine lv_iadd hx hb dL_law_834 ?_
  refine va_sld hx hb hX hbl hbA hw.2.2.1 h2 dL_law_835 ?_
  obtain ⟨o1, ho1, hS⟩ := hS ro nw kp dr sh tp lw se rm K T hI (xs (x3 + 1).toNatClampNeg) (xs (x3 + 2).toNatClampNeg)
  refine g_calli0 (isC := [0, 1, 6]) (gn := fun _ => ([wRO g a0 (a1 0) (a2 0) (a3 0) (a4 0) (a5 0) (a6 0) (a7 0) o1.2.1, wEV g a1 nw, wEV g a2 kp, wEV g a3 dr, wSH g a4 sh, wTP g a5 tp, wLW g a6 o1.2.2, wSE g a7 se, wRM g am (K.map fun _ => aK 0) (T.map fun _ => aT 0) rm] ++ (oW g aK K ++ oW g aT T))) (g_runV (isC := [0, 1, 6]) (rest := []) (As := [.int (xs (x3 + 1).toNatClampNeg), .int (xs (x3 + 2).toNatClampNeg)]) X hw (c_X5_may l (ad := a0) (adN := a1) (adL := a6) (aK := (a2 0)) (aD := (a3 0)) (aS := (a4 0)) (aT := (a5 0)) (aE := (a7 0)) ho1) rfl kM_X5_may ki_X5_may ks_X5_may km_L_87 ⟨(Nat.le_of_ble_eq_true rfl), (Nat.le_of_ble_eq_true rfl)⟩ (law_c hB (by decide) (by decide)) rfl rfl ⟨_, _, _, _, rfl, rfl, rfl, rfl⟩ rfl hl.1 rfl (Nat.le_of_ble_eq_true rfl) dL_law_836) hw rfl rfl (fun _ => (Nat.le_of_ble_eq_true rfl)) (fun _ => (gputs_eq rfl).trans rfl) rfl rfl (fun _ H locs hw => ?_)
  refine lv_aload_n hx hb dL_law_839 rfl (lv_at hl 2 rfl) ?_
  refine lv_aload_n hx hb dL_law_840 rfl (lv_at hl 0 rfl) ?_
  refine lv_iload_n hx hb dL_law_841 rfl (lv_at hl 3 rfl) ?_
  refine lv_iconst (v := 1) hx hb dL_law_842 (by decide) ?_
  refine lv_iadd hx hb dL_law_843 ?_
  refine va_sld hx hb hX hbl hbA hw.2.2.1 h1 dL_law_844 ?_
  refine lv_aload_n hx hb dL_law_845 rfl (lv_at hl 0 rfl) ?_
  refine lv_iload_n hx hb dL_law_846 rfl (lv_at hl 3 rfl) ?_
  refine lv_iconst (v := 2) hx hb dL_law_847 (by decide) ?_
  refine lv_iadd hx hb dL_law_848 ?_
  refine va_sld hx hb hX hbl hbA hw.2.2.1 h2 dL_law_849 ?_
  obtain ⟨o2, ho2, heq, hI⟩ := hS
  refine g_calli0 (isC := [8]) (gn := fun _ => ([wRO g a0 (a1 0) (a2 0) (a3 0) (a4 0) (a5 0) (a6 0) (a7 0) o1.2.1, wEV g a1 nw, wEV g a2 kp, wEV g a3 dr, wSH g a4 sh, wTP g a5 tp, wLW g a6 o1.2.2, wSE g a7 se, wRM g am (K.map fun _ => aK 0) (T.map fun _ => aT 0) o2.2] ++ (oW g aK K ++ oW g aT T))) (g_runV (isC := [8]) (rest := [.int o1.1]) (As := [.int (xs (x3 + 1).toNatClampNeg), .int (xs (x3 + 2).toNatClampNeg)]) X hw (c_X6_may l (ad := am) (eK := (K.map fun _ => aK 0)) (eT := (T.map fun _ => aT 0)) ho2) rfl kM_X6_may ki_X6_may ks_X6_may km_L_90 ⟨(Nat.le_of_ble_eq_true rfl), (Nat.le_of_ble_eq_true rfl)⟩ (law_c hB (by decide) (by decide)) rfl rfl ⟨_, _, _, _, rfl, rfl, rfl, rfl⟩ rfl hl.1 rfl (Nat.le_of_ble_eq_true rfl) dL_law_850) hw rfl rfl (fun _ => (Nat.le_of_ble_eq_true rfl)) (fun _ => (gputs_eq rfl).trans rfl) rfl rfl (fun _ H locs hw => ?_)
  refine lv_icmp_eq (tgt := 1985) hx hb dL_law_853 (by decide) (fun _ => ?_) (fun z => absurd heq z)
  refine W.widen (k := cells + 37) (n := slots + 2859) (by first | omega | exact Nat.add_le_add_left (Nat.le_of_ble_eq_true rfl) _) (by first | omega | exact Nat.add_le_add_left (Nat.le_of_ble_eq_true rfl) _) ?_
  exact next _ _ _ _ _ _ _ _ _ _ _ hI a0 a1 a2 a3 a4 a5 a6 a7 am aK aT _ _ _ hw hl
set_option maxHeartbeats 4000000 in
set_option maxRecDepth 100000 in
theorem law_moves (X : gC p s m meth c #[Value.ref b] RL cL_law 4 g (fun q : Nat => s.heap.size ≤ q)) (hX : va_X b L xs s s.heap) (hbl : b < s.heap.size) {I : RO → EV → EV → EV → SH → TP → LW → SE → RM → Option RM → Option RM → Prop} (hS : S_moves I) (hB : cells + 37 ≤ 600000 ∧ slots + 2859 ≤ 7302249) {x3 : Int32} (h1 : vp_in (x3 + 1) L) (h2 : vp_in (x3 + 2) L) (h3 : vp_in (x3 + 3) L) (h4 : vp_in (x3 + 4) L) (h5 : vp_in (x3 + 5) L)
    (next : lawNext p l e s m below meth c b g I Q (cells + 37) (slots + 2859) x3)
    (ro : RO) (nw : EV) (kp : EV) (dr : EV) (sh : SH) (tp : TP) (lw : LW) (se : SE) (rm : RM) (K : Option RM) (T : Option RM) (hI : I ro nw kp dr sh tp lw se rm K T) (a0 a1 a2 a3 a4 a5 a6 a7 am aK aT : Nat → Nat) (H : Heap) (locs : List Loc) (ls : Array Slot) (hw : gW g (fun q : Nat => s.heap.size ≤ q) s.heap (lawW g ro nw kp dr sh tp lw se rm K T a0 a1 a2 a3 a4 a5 a6 a7 am aK aT) H locs) (hl : lv_has ls 4 [(0, .ref b), (1, .ref (a0 0)), (2, .ref (am 0)), (3, .int x3)]) : W p l e room_1 s m #[Value.ref b] below meth c H locs cells slots Q (F0 m 858 ls []) := by
  have hx := X.1.1
  have hb := X.1.2.1
  have hbA : ¬ (fun q : Nat => s.heap.size ≤ q) b := Nat.not_le.mpr hbl
  refine lv_aload_n hx hb dL_law_858 rfl (lv_at hl 1 rfl) ?_
  refine lv_aload_n hx hb dL_law_859 rfl (lv_at hl 0 rfl) ?_
  refine lv_iload_n hx hb dL_law_860 rfl (lv_at hl 3 rfl) ?_
  refine lv_iconst (v := 1) hx hb dL_law_861 (by decide) ?_
  refine lv_iadd hx hb dL_law_862 ?_
  refine va_sld hx hb hX hbl hbA hw.2.2.1 h1 dL_law_863 ?_
  obtain ⟨o1, ho1, hS⟩ := hS ro nw kp dr sh tp lw se rm K T hI (xs (x3 + 1).toNatClampNeg)
  refine g_calli0 (isC := [0, 1, 6]) (gn := fun _ => ([wRO g a0 (a1 0) (a2 0) (a3 0) (a4 0) (a5 0) (a6 0) (a7 0) o1.2.1, wEV g a1 nw, wEV g a2 kp, wEV g a3 dr, wSH g a4 sh, wTP g a5 tp, wLW g a6 o1.2.2, wSE g a7 se, wRM g am (K.map fun _ => aK 0) (T.map fun _ => aT 0) rm] ++ (oW g aK K ++ oW g aT T))) (g_runV (isC := [0, 1, 6]) (rest := []) (As := [.int (xs (x3 + 1).toNatClampNeg)]) X hw (c_X5_moves l (ad := a0) (adN := a1) (adL := a6) (aK := (a2 0)) (aD := (a3 0)) (aS := (a4 0)) (aT := (a5 0)) (aE := (a7 0)) ho1) rfl kM_X5_moves ki_X5_moves ks_X5_moves km_L_91 ⟨(Nat.le_of_ble_eq_true rfl), (Nat.le_of_ble_eq_true rfl)⟩ (law_c hB (by decide) (by decide)) rfl rfl ⟨_, _, _, _, rfl, rfl, rfl, rfl⟩ rfl hl.1 rfl (Nat.le_of_ble_eq_true rfl) dL_law_864) hw rfl rfl (fun _ => (Nat.le_of_ble_eq_true rfl)) (fun _ => (gputs_eq rfl).trans rfl) rfl rfl (fun _ H locs hw => ?_)
  refine lv_aload_n hx hb dL_law_867 rfl (lv_at hl 2 rfl) ?_
  refine lv_aload_n hx hb dL_law_868 rfl (lv_at hl 0 rfl) ?_
  refine lv_iload_n hx hb dL_law_869 rfl (lv_at hl 3 rfl) ?_
  refine lv_iconst (v := 1) hx hb dL_law_870 (by decide) ?_
  refine lv_iadd hx hb dL_law_871 ?_
  refine va_sld hx hb hX hbl hbA hw.2.2.1 h1 dL_law_872 ?_
  obtain ⟨o2, ho2, heq, hI⟩ := hS
  refine g_calli0 (isC := [8]) (gn := fun _ => ([wRO g a0 (a1 0) (a2 0) (a3 0) (a4 0) (a5 0) (a6 0) (a7 0) o1.2.1, wEV g a1 nw, wEV g a2 kp, wEV g a3 dr, wSH g a4 sh, wTP g a5 tp, wLW g a6 o1.2.2, wSE g a7 se, wRM g am (K.map fun _ => aK 0) (T.map fun _ => aT 0) o2.2] ++ (oW g aK K ++ oW g aT T))) (g_runV (isC := [8]) (rest := [.int o1.1]) (As := [.int (xs (x3 + 1).toNatClampNeg)]) X hw (c_X6_moves l (ad := am) (eK := (K.map fun _ => aK 0)) (eT := (T.map fun _ => aT 0)) ho2) rfl kM_X6_moves ki_X6_moves ks_X6_moves km_L_94 ⟨(Nat.le_of_ble_eq_true rfl), (Nat.le_of_ble_eq_true rfl)⟩ (law_c hB (by decide) (by decide)) rfl rfl ⟨_, _, _, _, rfl, rfl, rfl, rfl⟩ rfl hl.1 rfl (Nat.le_of_ble_eq_true rfl) dL_law_873) hw rfl rfl (fun _ => (Nat.le_of_ble_eq_true rfl)) (fun _ => (gputs_eq rfl).trans rfl) rfl rfl (fun _ H locs hw => ?_)
  refine lv_icmp_eq (tgt := 1985) hx hb dL_law_876 (by decide) (fun _ => ?_) (fun z => absurd heq z)
  refine W.widen (k := cells + 37) (n := slots + 2859) (by first | omega | exact Nat.add_le_add_left (Nat.le_of_ble_eq_true rfl) _) (by first | omega | exact Nat.add_le_add_left (Nat.le_of_ble_eq_true rfl) _) ?_
  exact next _ _ _ _ _ _ _ _ _ _ _ hI a0 a1 a2 a3 a4 a5 a6 a7 am aK aT _ _ _ hw hl
set_option maxHeartbeats 4000000 in
set_option maxRecDepth 100000 in
theorem law_move (X : gC p s m meth c #[Value.ref b] RL cL_law 4 g (fun q : Nat => s.heap.size ≤ q)) (hX : va_X b L xs s s.heap) (hbl : b < s.heap.size) {I : RO → EV → EV → EV → SH → TP → LW → SE → RM → Option RM → Option RM → Prop} (hS : S_move I) (hB : cells + 37 ≤ 600000 ∧ slots + 2859 ≤ 7302249) {x3 : Int32} (h1 : vp_in (x3 + 1) L) (h2 : vp_in (x3 + 2) L) (h3 : vp_in (x3 + 3) L) (h4 : vp_in (x3 + 4) L) (h5 : vp_in (x3 + 5) L)
    (next : lawNext p l e s m below meth c b g I Q (cells + 37) (slots + 2859) x3)
    (ro : RO) (nw : EV) (kp : EV) (dr : EV) (sh : SH) (tp : TP) (lw : LW) (se : SE) (rm : RM) (K : Option RM) (T : Option RM) (hI : I ro nw kp dr sh tp lw se rm K T) (a0 a1 a2 a3 a4 a5 a6 a7 am aK aT : Nat → Nat) (H : Heap) (locs : List Loc) (ls : Array Slot) (hw : gW g (fun q : Nat => s.heap.size ≤ q) s.heap (lawW g ro nw kp dr sh tp lw se rm K T a0 a1 a2 a3 a4 a5 a6 a7 am aK aT) H locs) (hl : lv_has ls 4 [(0, .ref b), (1, .ref (a0 0)), (2, .ref (am 0)), (3, .int x3)]) : W p l e room_1 s m #[Value.ref b] below meth c H locs cells slots Q (F0 m 881 ls []) := by
  have hx := X.1.1
  have hb := X.1.2.1
  have hbA : ¬ (fun q : Nat => s.heap.size ≤ q) b := Nat.not_le.mpr hbl
  refine lv_aload_n hx hb dL_law_881 rfl (lv_at hl 1 rfl) ?_
  refine lv_aload_n hx hb dL_law_882 rfl (lv_at hl 0 rfl) ?_
  refine lv_iload_n hx hb dL_law_883 rfl (lv_at hl 3 rfl) ?_
  refine lv_iconst (v := 1) hx hb dL_law_884 (by decide) ?_
  refine lv_iadd hx hb dL_law_885 ?_
  refine va_sld hx hb hX hbl hbA hw.2.2.1 h1 dL_law_886 ?_
  refine lv_aload_n hx hb dL_law_887 rfl (lv_at hl 0 rfl) ?_
  refine lv_iload_n hx hb dL_law_888 rfl (lv_at hl 3 rfl) ?_
  refine lv_iconst (v := 2) hx hb dL_law_889 (by decide) ?_
  refine lv_iadd hx hb dL_law_890 ?_
  refine va_sld hx hb hX hbl hbA hw.2.2.1 h2 dL_law_891 ?_
  obtain ⟨o1, ho1, hS⟩ := hS ro nw kp dr sh tp lw se rm K T hI (xs (x3 + 1).toNatClampNeg) (xs (x3 + 2).toNatClampNeg)
  refine g_calli0 (isC := [0, 1, 6]) (gn := fun _ => ([wRO g a0 (a1 0) (a2 0) (a3 0) (a4 0) (a5 0) (a6 0) (a7 0) o1.2.1, wEV g a1 o1.2.2.1, wEV g a2 kp, wEV g a3 dr, wSH g a4 sh, wTP g a5 tp, wLW g a6 o1.2.2.2, wSE g a7 se, wRM g am (K.map fun _ => aK 0) (T.map fun _ => aT 0) rm] ++ (oW g aK K ++ oW g aT T))) (g_runV (isC := [0, 1, 6]) (rest := []) (As := [.int (xs (x3 + 1).toNatClampNeg), .int (xs (x3 + 2).toNatClampNeg)]) X hw (c_X5_move l (ad := a0) (adN := a1) (adL := a6) (aK := (a2 0)) (aD := (a3 0)) (aS := (a4 0)) (aT := (a5 0)) (aE := (a7 0)) ho1) rfl kM_X5_move ki_X5_move ks_X5_move km_L_95 ⟨(Nat.le_of_ble_eq_true rfl), (Nat.le_of_ble_eq_true rfl)⟩ (law_c hB (by decide) (by decide)) rfl rfl ⟨_, _, _, _, rfl, rfl, rfl, rfl⟩ rfl hl.1 rfl (Nat.le_of_ble_eq_true rfl) dL_law_892) hw rfl rfl (fun _ => (Nat.le_of_ble_eq_true rfl)) (fun _ => (gputs_eq rfl).trans rfl) rfl rfl (fun _ H locs hw => ?_)
  refine lv_aload_n hx hb dL_law_895 rfl (lv_at hl 2 rfl) ?_
  refine lv_aload_n hx hb dL_law_896 rfl (lv_at hl 0 rfl) ?_
  refine lv_iload_n hx hb dL_law_897 rfl (lv_at hl 3 rfl) ?_
  refine lv_iconst (v := 1) hx hb dL_law_898 (by decide) ?_
  refine lv_iadd hx hb dL_law_899 ?_
  refine va_sld hx hb hX hbl hbA hw.2.2.1 h1 dL_law_900 ?_
  refine lv_aload_n hx hb dL_law_901 rfl (lv_at hl 0 rfl) ?_
  refine lv_iload_n hx hb dL_law_902 rfl (lv_at hl 3 rfl) ?_
  refine lv_iconst (v := 2) hx hb dL_law_903 (by decide) ?_
  refine lv_iadd hx hb dL_law_904 ?_
  refine va_sld hx hb hX hbl hbA hw.2.2.1 h2 dL_law_905 ?_
  obtain ⟨o2, ho2, heq, hI⟩ := hS
  refine g_calli0 (isC := [8]) (gn := fun _ => ([wRO g a0 (a1 0) (a2 0) (a3 0) (a4 0) (a5 0) (a6 0) (a7 0) o1.2.1, wEV g a1 o1.2.2.1, wEV g a2 kp, wEV g a3 dr, wSH g a4 sh, wTP g a5 tp, wLW g a6 o1.2.2.2, wSE g a7 se, wRM g am (K.map fun _ => aK 0) (T.map fun _ => aT 0) o2.2] ++ (oW g aK K ++ oW g aT T))) (g_runV (isC := [8]) (rest := [.int o1.1]) (As := [.int (xs (x3 + 1).toNatClampNeg), .int (xs (x3 + 2).toNatClampNeg)]) X hw (c_X6_move l (ad := am) (eK := (K.map fun _ => aK 0)) (eT := (T.map fun _ => aT 0)) ho2) rfl kM_X6_move ki_X6_move ks_X6_move km_L_98 ⟨(Nat.le_of_ble_eq_true rfl), (Nat.le_of_ble_eq_true rfl)⟩ (law_c hB (by decide) (by decide)) rfl rfl ⟨_, _, _, _, rfl, rfl, rfl, rfl⟩ rfl hl.1 rfl (Nat.le_of_ble_eq_true rfl) dL_law_906) hw rfl rfl (fun _ => (Nat.le_of_ble_eq_true rfl)) (fun _ => (gputs_eq rfl).trans rfl) rfl rfl (fun _ H locs hw => ?_)
  refine lv_icmp_eq (tgt := 1985) hx hb dL_law_909 (by decide) (fun _ => ?_) (fun z => absurd heq z)
  refine W.widen (k := cells + 37) (n := slots + 2859) (by first | omega | exact Nat.add_le_add_left (Nat.le_of_ble_eq_true rfl) _) (by first | omega | exact Nat.add_le_add_left (Nat.le_of_ble_eq_true rfl) _) ?_
  exact next _ _ _ _ _ _ _ _ _ _ _ hI a0 a1 a2 a3 a4 a5 a6 a7 am aK aT _ _ _ hw hl
set_option maxHeartbeats 4000000 in
set_option maxRecDepth 100000 in
theorem law_fewest (X : gC p s m meth c #[Value.ref b] RL cL_law 4 g (fun q : Nat => s.heap.size ≤ q)) (hX : va_X b L xs s s.heap) (hbl : b < s.heap.size) {I : RO → EV → EV → EV → SH → TP → LW → SE → RM → Option RM → Option RM → Prop} (hS : S_fewest I) (hB : cells + 37 ≤ 600000 ∧ slots + 2859 ≤ 7302249) {x3 : Int32} (h1 : vp_in (x3 + 1) L) (h2 : vp_in (x3 + 2) L) (h3 : vp_in (x3 + 3) L) (h4 : vp_in (x3 + 4) L) (h5 : vp_in (x3 + 5) L)
    (next : lawNext p l e s m below meth c b g I Q (cells + 37) (slots + 2859) x3)
    (ro : RO) (nw : EV) (kp : EV) (dr : EV) (sh : SH) (tp : TP) (lw : LW) (se : SE) (rm : RM) (K : Option RM) (T : Option RM) (hI : I ro nw kp dr sh tp lw se rm K T) (a0 a1 a2 a3 a4 a5 a6 a7 am aK aT : Nat → Nat) (H : Heap) (locs : List Loc) (ls : Array Slot) (hw : gW g (fun q : Nat => s.heap.size ≤ q) s.heap (lawW g ro nw kp dr sh tp lw se rm K T a0 a1 a2 a3 a4 a5 a6 a7 am aK aT) H locs) (hl : lv_has ls 4 [(0, .ref b), (1, .ref (a0 0)), (2, .ref (am 0)), (3, .int x3)]) : W p l e room_1 s m #[Value.ref b] below meth c H locs cells slots Q (F0 m 914 ls []) := by
  have hx := X.1.1
  have hb := X.1.2.1
  have hbA : ¬ (fun q : Nat => s.heap.size ≤ q) b := Nat.not_le.mpr hbl
  refine lv_aload_n hx hb dL_law_914 rfl (lv_at hl 1 rfl) ?_
  refine lv_aload_n hx hb dL_law_915 rfl (lv_at hl 0 rfl) ?_
  refine lv_iload_n hx hb dL_law_916 rfl (lv_at hl 3 rfl) ?_
  refine lv_iconst (v := 1) hx hb dL_law_917 (by decide) ?_
  refine lv_iadd hx hb dL_law_918 ?_
  refine va_sld hx hb hX hbl hbA hw.2.2.1 h1 dL_law_919 ?_
  refine lv_aload_n hx hb dL_law_920 rfl (lv_at hl 0 rfl) ?_
  refine lv_iload_n hx hb dL_law_921 rfl (lv_at hl 3 rfl) ?_
  refine lv_iconst (v := 2) hx hb dL_law_922 (by decide) ?_
  refine lv_iadd hx hb dL_law_923 ?_
  refine va_sld hx hb hX hbl hbA hw.2.2.1 h2 dL_law_924 ?_
  obtain ⟨o1, ho1, hS⟩ := hS ro nw kp dr sh tp lw se rm K T hI (xs (x3 + 1).toNatClampNeg) (xs (x3 + 2).toNatClampNeg)
  refine g_calli0 (isC := [0, 1, 6, 7]) (gn := fun _ => ([wRO g a0 (a1 0) (a2 0) (a3 0) (a4 0) (a5 0) (a6 0) (a7 0) o1.2.1, wEV g a1 nw, wEV g a2 kp, wEV g a3 dr, wSH g a4 sh, wTP g a5 tp, wLW g a6 o1.2.2.1, wSE g a7 o1.2.2.2, wRM g am (K.map fun _ => aK 0) (T.map fun _ => aT 0) rm] ++ (oW g aK K ++ oW g aT T))) (g_runV (isC := [0, 1, 6, 7]) (rest := []) (As := [.int (xs (x3 + 1).toNatClampNeg), .int (xs (x3 + 2).toNatClampNeg)]) X hw (c_X5_fewest l (ad := a0) (adN := a1) (adL := a6) (adE := a7) (aK := (a2 0)) (aD := (a3 0)) (aS := (a4 0)) (aT := (a5 0)) ho1) rfl kM_X5_fewest ki_X5_fewest ks_X5_fewest km_L_99 ⟨(Nat.le_of_ble_eq_true rfl), (Nat.le_of_ble_eq_true rfl)⟩ (law_c hB (by decide) (by decide)) rfl rfl ⟨_, _, _, _, rfl, rfl, rfl, rfl⟩ rfl hl.1 rfl (Nat.le_of_ble_eq_true rfl) dL_law_925) hw rfl rfl (fun _ => (Nat.le_of_ble_eq_true rfl)) (fun _ => (gputs_eq rfl).trans rfl) rfl rfl (fun _ H locs hw => ?_)
  refine lv_aload_n hx hb dL_law_928 rfl (lv_at hl 2 rfl) ?_
  refine lv_aload_n hx hb dL_law_929 rfl (lv_at hl 0 rfl) ?_
  refine lv_iload_n hx hb dL_law_930 rfl (lv_at hl 3 rfl) ?_
  refine lv_iconst (v := 1) hx hb dL_law_931 (by decide) ?_
  refine lv_iadd hx hb dL_law_932 ?_
  refine va_sld hx hb hX hbl hbA hw.2.2.1 h1 dL_law_933 ?_
  refine lv_aload_n hx hb dL_law_934 rfl (lv_at hl 0 rfl) ?_
  refine lv_iload_n hx hb dL_law_935 rfl (lv_at hl 3 rfl) ?_
  refine lv_iconst (v := 2) hx hb dL_law_936 (by decide) ?_
  refine lv_iadd hx hb dL_law_937 ?_
  refine va_sld hx hb hX hbl hbA hw.2.2.1 h2 dL_law_938 ?_
  obtain ⟨o2, ho2, heq, hI⟩ := hS
  refine g_calli0 (isC := [8]) (gn := fun _ => ([wRO g a0 (a1 0) (a2 0) (a3 0) (a4 0) (a5 0) (a6 0) (a7 0) o1.2.1, wEV g a1 nw, wEV g a2 kp, wEV g a3 dr, wSH g a4 sh, wTP g a5 tp, wLW g a6 o1.2.2.1, wSE g a7 o1.2.2.2, wRM g am (K.map fun _ => aK 0) (T.map fun _ => aT 0) o2.2] ++ (oW g aK K ++ oW g aT T))) (g_runV (isC := [8]) (rest := [.int o1.1]) (As := [.int (xs (x3 + 1).toNatClampNeg), .int (xs (x3 + 2).toNatClampNeg)]) X hw (c_X6_fewest l (ad := am) (eK := (K.map fun _ => aK 0)) (eT := (T.map fun _ => aT 0)) ho2) rfl kM_X6_fewest ki_X6_fewest ks_X6_fewest km_L_102 ⟨(Nat.le_of_ble_eq_true rfl), (Nat.le_of_ble_eq_true rfl)⟩ (law_c hB (by decide) (by decide)) rfl rfl ⟨_, _, _, _, rfl, rfl, rfl, rfl⟩ rfl hl.1 rfl (Nat.le_of_ble_eq_true rfl) dL_law_939) hw rfl rfl (fun _ => (Nat.le_of_ble_eq_true rfl)) (fun _ => (gputs_eq rfl).trans rfl) rfl rfl (fun _ H locs hw => ?_)
  refine lv_icmp_eq (tgt := 1985) hx hb dL_law_942 (by decide) (fun _ => ?_) (fun z => absurd heq z)
  refine W.widen (k := cells + 37) (n := slots + 2859) (by first | omega | exact Nat.add_le_add_left (Nat.le_of_ble_eq_true rfl) _) (by first | omega | exact Nat.add_le_add_left (Nat.le_of_ble_eq_true rfl) _) ?_
  exact next _ _ _ _ _ _ _ _ _ _ _ hI a0 a1 a2 a3 a4 a5 a6 a7 am aK aT _ _ _ hw hl
set_option maxHeartbeats 4000000 in
set_option maxRecDepth 100000 in
theorem law_way (X : gC p s m meth c #[Value.ref b] RL cL_law 4 g (fun q : Nat => s.heap.size ≤ q)) (hX : va_X b L xs s s.heap) (hbl : b < s.heap.size) {I : RO → EV → EV → EV → SH → TP → LW → SE → RM → Option RM → Option RM → Prop} (hS : S_way I) (hB : cells + 37 ≤ 600000 ∧ slots + 2859 ≤ 7302249) {x3 : Int32} (h1 : vp_in (x3 + 1) L) (h2 : vp_in (x3 + 2) L) (h3 : vp_in (x3 + 3) L) (h4 : vp_in (x3 + 4) L) (h5 : vp_in (x3 + 5) L)
    (next : lawNext p l e s m below meth c b g I Q (cells + 37) (slots + 2859) x3)
    (ro : RO) (nw : EV) (kp : EV) (dr : EV) (sh : SH) (tp : TP) (lw : LW) (se : SE) (rm : RM) (K : Option RM) (T : Option RM) (hI : I ro nw kp dr sh tp lw se rm K T) (a0 a1 a2 a3 a4 a5 a6 a7 am aK aT : Nat → Nat) (H : Heap) (locs : List Loc) (ls : Array Slot) (hw : gW g (fun q : Nat => s.heap.size ≤ q) s.heap (lawW g ro nw kp dr sh tp lw se rm K T a0 a1 a2 a3 a4 a5 a6 a7 am aK aT) H locs) (hl : lv_has ls 4 [(0, .ref b), (1, .ref (a0 0)), (2, .ref (am 0)), (3, .int x3)]) : W p l e room_1 s m #[Value.ref b] below meth c H locs cells slots Q (F0 m 947 ls []) := by
  have hx := X.1.1
  have hb := X.1.2.1
  have hbA : ¬ (fun q : Nat => s.heap.size ≤ q) b := Nat.not_le.mpr hbl
  refine lv_aload_n hx hb dL_law_947 rfl (lv_at hl 1 rfl) ?_
  refine lv_aload_n hx hb dL_law_948 rfl (lv_at hl 0 rfl) ?_
  refine lv_iload_n hx hb dL_law_949 rfl (lv_at hl 3 rfl) ?_
  refine lv_iconst (v := 1) hx hb dL_law_950 (by decide) ?_
  refine lv_iadd hx hb dL_law_951 ?_
  refine va_sld hx hb hX hbl hbA hw.2.2.1 h1 dL_law_952 ?_
  refine lv_aload_n hx hb dL_law_953 rfl (lv_at hl 0 rfl) ?_
  refine lv_iload_n hx hb dL_law_954 rfl (lv_at hl 3 rfl) ?_
  refine lv_iconst (v := 2) hx hb dL_law_955 (by decide) ?_
  refine lv_iadd hx hb dL_law_956 ?_
  refine va_sld hx hb hX hbl hbA hw.2.2.1 h2 dL_law_957 ?_
  refine lv_aload_n hx hb dL_law_958 rfl (lv_at hl 0 rfl) ?_
  refine lv_iload_n hx hb dL_law_959 rfl (lv_at hl 3 rfl) ?_
  refine lv_iconst (v := 3) hx hb dL_law_960 (by decide) ?_
  refine lv_iadd hx hb dL_law_961 ?_
  refine va_sld hx hb hX hbl hbA hw.2.2.1 h3 dL_law_962 ?_
  obtain ⟨o1, ho1, hS⟩ := hS ro nw kp dr sh tp lw se rm K T hI (xs (x3 + 1).toNatClampNeg) (xs (x3 + 2).toNatClampNeg) (xs (x3 + 3).toNatClampNeg)
  refine g_calli0 (isC := [0, 1, 6, 7]) (gn := fun _ => ([wRO g a0 (a1 0) (a2 0) (a3 0) (a4 0) (a5 0) (a6 0) (a7 0) o1.2.1, wEV g a1 nw, wEV g a2 kp, wEV g a3 dr, wSH g a4 sh, wTP g a5 tp, wLW g a6 o1.2.2.1, wSE g a7 o1.2.2.2, wRM g am (K.map fun _ => aK 0) (T.map fun _ => aT 0) rm] ++ (oW g aK K ++ oW g aT T))) (g_runV (isC := [0, 1, 6, 7]) (rest := []) (As := [.int (xs (x3 + 1).toNatClampNeg), .int (xs (x3 + 2).toNatClampNeg), .int (xs (x3 + 3).toNatClampNeg)]) X hw (c_X5_way l (ad := a0) (adN := a1) (adL := a6) (adE := a7) (aK := (a2 0)) (aD := (a3 0)) (aS := (a4 0)) (aT := (a5 0)) ho1) rfl kM_X5_way ki_X5_way ks_X5_way km_L_103 ⟨(Nat.le_of_ble_eq_true rfl), (Nat.le_of_ble_eq_true rfl)⟩ (law_c hB (by decide) (by decide)) rfl rfl ⟨_, _, _, _, rfl, rfl, rfl, rfl⟩ rfl hl.1 rfl (Nat.le_of_ble_eq_true rfl) dL_law_963) hw rfl rfl (fun _ => (Nat.le_of_ble_eq_true rfl)) (fun _ => (gputs_eq rfl).trans rfl) rfl rfl (fun _ H locs hw => ?_)
  refine lv_aload_n hx hb dL_law_966 rfl (lv_at hl 2 rfl) ?_
  refine lv_aload_n hx hb dL_law_967 rfl (lv_at hl 0 rfl) ?_
  refine lv_iload_n hx hb dL_law_968 rfl (lv_at hl 3 rfl) ?_
  refine lv_iconst (v := 1) hx hb dL_law_969 (by decide) ?_
  refine lv_iadd hx hb dL_law_970 ?_
  refine va_sld hx hb hX hbl hbA hw.2.2.1 h1 dL_law_971 ?_
  refine lv_aload_n hx hb dL_law_972 rfl (lv_at hl 0 rfl) ?_
  refine lv_iload_n hx hb dL_law_973 rfl (lv_at hl 3 rfl) ?_
  refine lv_iconst (v := 2) hx hb dL_law_974 (by decide) ?_
  refine lv_iadd hx hb dL_law_975 ?_
  refine va_sld hx hb hX hbl hbA hw.2.2.1 h2 dL_law_976 ?_
  refine lv_aload_n hx hb dL_law_977 rfl (lv_at hl 0 rfl) ?_
  refine lv_iload_n hx hb dL_law_978 rfl (lv_at hl 3 rfl) ?_
  refine lv_iconst (v := 3) hx hb dL_law_979 (by decide) ?_
  refine lv_iadd hx hb dL_law_980 ?_
  refine va_sld hx hb hX hbl hbA hw.2.2.1 h3 dL_law_981 ?_
  obtain ⟨o2, ho2, heq, hI⟩ := hS
  refine g_calli0 (isC := [8]) (gn := fun _ => ([wRO g a0 (a1 0) (a2 0) (a3 0) (a4 0) (a5 0) (a6 0) (a7 0) o1.2.1, wEV g a1 nw, wEV g a2 kp, wEV g a3 dr, wSH g a4 sh, wTP g a5 tp, wLW g a6 o1.2.2.1, wSE g a7 o1.2.2.2, wRM g am (K.map fun _ => aK 0) (T.map fun _ => aT 0) o2.2] ++ (oW g aK K ++ oW g aT T))) (g_runV (isC := [8]) (rest := [.int o1.1]) (As := [.int (xs (x3 + 1).toNatClampNeg), .int (xs (x3 + 2).toNatClampNeg), .int (xs (x3 + 3).toNatClampNeg)]) X hw (c_X6_way l (ad := am) (eK := (K.map fun _ => aK 0)) (eT := (T.map fun _ => aT 0)) ho2) rfl kM_X6_way ki_X6_way ks_X6_way km_L_106 ⟨(Nat.le_of_ble_eq_true rfl), (Nat.le_of_ble_eq_true rfl)⟩ (law_c hB (by decide) (by decide)) rfl rfl ⟨_, _, _, _, rfl, rfl, rfl, rfl⟩ rfl hl.1 rfl (Nat.le_of_ble_eq_true rfl) dL_law_982) hw rfl rfl (fun _ => (Nat.le_of_ble_eq_true rfl)) (fun _ => (gputs_eq rfl).trans rfl) rfl rfl (fun _ H locs hw => ?_)
  refine lv_icmp_eq (tgt := 1985) hx hb dL_law_985 (by decide) (fun _ => ?_) (fun z => absurd heq z)
  refine W.widen (k := cells + 37) (n := slots + 2859) (by first | omega | exact Nat.add_le_add_left (Nat.le_of_ble_eq_true rfl) _) (by first | omega | exact Nat.add_le_add_left (Nat.le_of_ble_eq_true rfl) _) ?_
  exact next _ _ _ _ _ _ _ _ _ _ _ hI a0 a1 a2 a3 a4 a5 a6 a7 am aK aT _ _ _ hw hl
set_option maxHeartbeats 4000000 in
set_option maxRecDepth 100000 in
theorem law_between (X : gC p s m meth c #[Value.ref b] RL cL_law 4 g (fun q : Nat => s.heap.size ≤ q)) (hX : va_X b L xs s s.heap) (hbl : b < s.heap.size) {I : RO → EV → EV → EV → SH → TP → LW → SE → RM → Option RM → Option RM → Prop} (hS : S_between I) (hB : cells + 37 ≤ 600000 ∧ slots + 2859 ≤ 7302249) {x3 : Int32} (h1 : vp_in (x3 + 1) L) (h2 : vp_in (x3 + 2) L) (h3 : vp_in (x3 + 3) L) (h4 : vp_in (x3 + 4) L) (h5 : vp_in (x3 + 5) L)
    (next : lawNext p l e s m below meth c b g I Q (cells + 37) (slots + 2859) x3)
    (ro : RO) (nw : EV) (kp : EV) (dr : EV) (sh : SH) (tp : TP) (lw : LW) (se : SE) (rm : RM) (K : Option RM) (T : Option RM) (hI : I ro nw kp dr sh tp lw se rm K T) (a0 a1 a2 a3 a4 a5 a6 a7 am aK aT : Nat → Nat) (H : Heap) (locs : List Loc) (ls : Array Slot) (hw : gW g (fun q : Nat => s.heap.size ≤ q) s.heap (lawW g ro nw kp dr sh tp lw se rm K T a0 a1 a2 a3 a4 a5 a6 a7 am aK aT) H locs) (hl : lv_has ls 4 [(0, .ref b), (1, .ref (a0 0)), (2, .ref (am 0)), (3, .int x3)]) : W p l e room_1 s m #[Value.ref b] below meth c H locs cells slots Q (F0 m 990 ls []) := by
  have hx := X.1.1
  have hb := X.1.2.1
  have hbA : ¬ (fun q : Nat => s.heap.size ≤ q) b := Nat.not_le.mpr hbl
  refine lv_aload_n hx hb dL_law_990 rfl (lv_at hl 1 rfl) ?_
  refine lv_aload_n hx hb dL_law_991 rfl (lv_at hl 0 rfl) ?_
  refine lv_iload_n hx hb dL_law_992 rfl (lv_at hl 3 rfl) ?_
  refine lv_iconst (v := 1) hx hb dL_law_993 (by decide) ?_
  refine lv_iadd hx hb dL_law_994 ?_
  refine va_sld hx hb hX hbl hbA hw.2.2.1 h1 dL_law_995 ?_
  refine lv_aload_n hx hb dL_law_996 rfl (lv_at hl 0 rfl) ?_
  refine lv_iload_n hx hb dL_law_997 rfl (lv_at hl 3 rfl) ?_
  refine lv_iconst (v := 2) hx hb dL_law_998 (by decide) ?_
  refine lv_iadd hx hb dL_law_999 ?_
  refine va_sld hx hb hX hbl hbA hw.2.2.1 h2 dL_law_1000 ?_
  refine lv_aload_n hx hb dL_law_1001 rfl (lv_at hl 0 rfl) ?_
  refine lv_iload_n hx hb dL_law_1002 rfl (lv_at hl 3 rfl) ?_
  refine lv_iconst (v := 3) hx hb dL_law_1003 (by decide) ?_
  refine lv_iadd hx hb dL_law_1004 ?_
  refine va_sld hx hb hX hbl hbA hw.2.2.1 h3 dL_law_1005 ?_
  obtain ⟨o1, ho1, hS⟩ := hS ro nw kp dr sh tp lw se rm K T hI (xs (x3 + 1).toNatClampNeg) (xs (x3 + 2).toNatClampNeg) (xs (x3 + 3).toNatClampNeg)
  refine g_calli0 (isC := [0, 1, 6, 7]) (gn := fun _ => ([wRO g a0 (a1 0) (a2 0) (a3 0) (a4 0) (a5 0) (a6 0) (a7 0) o1.2.1, wEV g a1 nw, wEV g a2 kp, wEV g a3 dr, wSH g a4 sh, wTP g a5 tp, wLW g a6 o1.2.2.1, wSE g a7 o1.2.2.2, wRM g am (K.map fun _ => aK 0) (T.map fun _ => aT 0) rm] ++ (oW g aK K ++ oW g aT T))) (g_runV (isC := [0, 1, 6, 7]) (rest := []) (As := [.int (xs (x3 + 1).toNatClampNeg), .int (xs (x3 + 2).toNatClampNeg), .int (xs (x3 + 3).toNatClampNeg)]) X hw (c_X5_between l (ad := a0) (adN := a1) (adL := a6) (adE := a7) (aK := (a2 0)) (aD := (a3 0)) (aS := (a4 0)) (aT := (a5 0)) ho1) rfl kM_X5_between ki_X5_between ks_X5_between km_L_107 ⟨(Nat.le_of_ble_eq_true rfl), (Nat.le_of_ble_eq_true rfl)⟩ (law_c hB (by decide) (by decide)) rfl rfl ⟨_, _, _, _, rfl, rfl, rfl, rfl⟩ rfl hl.1 rfl (Nat.le_of_ble_eq_true rfl) dL_law_1006) hw rfl rfl (fun _ => (Nat.le_of_ble_eq_true rfl)) (fun _ => (gputs_eq rfl).trans rfl) rfl rfl (fun _ H locs hw => ?_)
  refine lv_aload_n hx hb dL_law_1009 rfl (lv_at hl 2 rfl) ?_
  refine lv_aload_n hx hb dL_law_1010 rfl (lv_at hl 0 rfl) ?_
  refine lv_iload_n hx hb dL_law_1011 rfl (lv_at hl 3 rfl) ?_
  refine lv_iconst (v := 1) hx hb dL_law_1012 (by decide) ?_
  refine lv_iadd hx hb dL_law_1013 ?_
  refine va_sld hx hb hX hbl hbA hw.2.2.1 h1 dL_law_1014 ?_
  refine lv_aload_n hx hb dL_law_1015 rfl (lv_at hl 0 rfl) ?_
  refine lv_iload_n hx hb dL_law_1016 rfl (lv_at hl 3 rfl) ?_
  refine lv_iconst (v := 2) hx hb dL_law_1017 (by decide) ?_
  refine lv_iadd hx hb dL_law_1018 ?_
  refine va_sld hx hb hX hbl hbA hw.2.2.1 h2 dL_law_1019 ?_
  refine lv_aload_n hx hb dL_law_1020 rfl (lv_at hl 0 rfl) ?_
  refine lv_iload_n hx hb dL_law_1021 rfl (lv_at hl 3 rfl) ?_
  refine lv_iconst (v := 3) hx hb dL_law_1022 (by decide) ?_
  refine lv_iadd hx hb dL_law_1023 ?_
  refine va_sld hx hb hX hbl hbA hw.2.2.1 h3 dL_law_1024 ?_
  obtain ⟨o2, ho2, heq, hI⟩ := hS
  refine g_calli0 (isC := [8]) (gn := fun _ => ([wRO g a0 (a1 0) (a2 0) (a3 0) (a4 0) (a5 0) (a6 0) (a7 0) o1.2.1, wEV g a1 nw, wEV g a2 kp, wEV g a3 dr, wSH g a4 sh, wTP g a5 tp, wLW g a6 o1.2.2.1, wSE g a7 o1.2.2.2, wRM g am (K.map fun _ => aK 0) (T.map fun _ => aT 0) o2.2] ++ (oW g aK K ++ oW g aT T))) (g_runV (isC := [8]) (rest := [.int o1.1]) (As := [.int (xs (x3 + 1).toNatClampNeg), .int (xs (x3 + 2).toNatClampNeg), .int (xs (x3 + 3).toNatClampNeg)]) X hw (c_X6_between l (ad := am) (eK := (K.map fun _ => aK 0)) (eT := (T.map fun _ => aT 0)) ho2) rfl kM_X6_between ki_X6_between ks_X6_between km_L_110 ⟨(Nat.le_of_ble_eq_true rfl), (Nat.le_of_ble_eq_true rfl)⟩ (law_c hB (by decide) (by decide)) rfl rfl ⟨_, _, _, _, rfl, rfl, rfl, rfl⟩ rfl hl.1 rfl (Nat.le_of_ble_eq_true rfl) dL_law_1025) hw rfl rfl (fun _ => (Nat.le_of_ble_eq_true rfl)) (fun _ => (gputs_eq rfl).trans rfl) rfl rfl (fun _ H locs hw => ?_)
  refine lv_icmp_eq (tgt := 1985) hx hb dL_law_1028 (by decide) (fun _ => ?_) (fun z => absurd heq z)
  refine W.widen (k := cells + 37) (n := slots + 2859) (by first | omega | exact Nat.add_le_add_left (Nat.le_of_ble_eq_true rfl) _) (by first | omega | exact Nat.add_le_add_left (Nat.le_of_ble_eq_true rfl) _) ?_
  exact next _ _ _ _ _ _ _ _ _ _ _ hI a0 a1 a2 a3 a4 a5 a6 a7 am aK aT _ _ _ hw hl
set_option maxHeartbeats 4000000 in
set_option maxRecDepth 100000 in
theorem law_place (X : gC p s m meth c #[Value.ref b] RL cL_law 4 g (fun q : Nat => s.heap.size ≤ q)) (hX : va_X b L xs s s.heap) (hbl : b < s.heap.size) {I : RO → EV → EV → EV → SH → TP → LW → SE → RM → Option RM → Option RM → Prop} (hS : S_place I) (hB : cells + 37 ≤ 600000 ∧ slots + 2859 ≤ 7302249) {x3 : Int32} (h1 : vp_in (x3 + 1) L) (h2 : vp_in (x3 + 2) L) (h3 : vp_in (x3 + 3) L) (h4 : vp_in (x3 + 4) L) (h5 : vp_in (x3 + 5) L)
    (next : lawNext p l e s m below meth c b g I Q (cells + 37) (slots + 2859) x3)
    (ro : RO) (nw : EV) (kp : EV) (dr : EV) (sh : SH) (tp : TP) (lw : LW) (se : SE) (rm : RM) (K : Option RM) (T : Option RM) (hI : I ro nw kp dr sh tp lw se rm K T) (a0 a1 a2 a3 a4 a5 a6 a7 am aK aT : Nat → Nat) (H : Heap) (locs : List Loc) (ls : Array Slot) (hw : gW g (fun q : Nat => s.heap.size ≤ q) s.heap (lawW g ro nw kp dr sh tp lw se rm K T a0 a1 a2 a3 a4 a5 a6 a7 am aK aT) H locs) (hl : lv_has ls 4 [(0, .ref b), (1, .ref (a0 0)), (2, .ref (am 0)), (3, .int x3)]) : W p l e room_1 s m #[Value.ref b] below meth c H locs cells slots Q (F0 m 1033 ls []) := by
  have hx := X.1.1
  have hb := X.1.2.1
  have hbA : ¬ (fun q : Nat => s.heap.size ≤ q) b := Nat.not_le.mpr hbl
  refine lv_aload_n hx hb dL_law_1033 rfl (lv_at hl 1 rfl) ?_
  refine lv_aload_n hx hb dL_law_1034 rfl (lv_at hl 0 rfl) ?_
  refine lv_iload_n hx hb dL_law_1035 rfl (lv_at hl 3 rfl) ?_
  refine lv_iconst (v := 1) hx hb dL_law_1036 (by decide) ?_
  refine lv_iadd hx hb dL_law_1037 ?_
  refine va_sld hx hb hX hbl hbA hw.2.2.1 h1 dL_law_1038 ?_
  refine lv_i2l (v := (xs (x3 + 1).toNatClampNeg).toInt64) hx hb dL_law_1039 rfl ?_
  refine lv_bipush (v := 32) hx hb dL_law_1040 (by decide) ?_
  refine lv_lshl (v := (jlshl ((xs (x3 + 1).toNatClampNeg).toInt64) (32 : Int32))) hx hb dL_law_1042 rfl ?_
  refine lv_aload_n hx hb dL_law_1043 rfl (lv_at hl 0 rfl) ?_
  refine lv_iload_n hx hb dL_law_1044 rfl (lv_at hl 3 rfl) ?_
  refine lv_iconst (v := 2) hx hb dL_law_1045 (by decide) ?_
  refine lv_iadd hx hb dL_law_1046 ?_
  refine va_sld hx hb hX hbl hbA hw.2.2.1 h2 dL_law_1047 ?_
  refine lv_i2l (v := (xs (x3 + 2).toNatClampNeg).toInt64) hx hb dL_law_1048 rfl ?_
  refine lv_ldc2 hx hb X.1.2.2.2.1 (gK1 X _ kq_L_18) dL_law_1049 ?_
  refine lv_land hx hb dL_law_1052 ?_
  refine lv_lor hx hb dL_law_1053 ?_
  obtain ⟨o1, ho1, hS⟩ := hS ro nw kp dr sh tp lw se rm K T hI ((jlshl ((xs (x3 + 1).toNatClampNeg).toInt64) (32 : Int32)) ||| ((xs (x3 + 2).toNatClampNeg).toInt64 &&& (4294967295 : Int64)))
  refine g_calll0 (isC := [0]) (gn := fun _ => ([wRO g a0 (a1 0) (a2 0) (a3 0) (a4 0) (a5 0) (a6 0) (a7 0) o1.2, wEV g a1 nw, wEV g a2 kp, wEV g a3 dr, wSH g a4 sh, wTP g a5 tp, wLW g a6 lw, wSE g a7 se, wRM g am (K.map fun _ => aK 0) (T.map fun _ => aT 0) rm] ++ (oW g aK K ++ oW g aT T))) (g_runV (isC := [0]) (rest := []) (As := [.long ((jlshl ((xs (x3 + 1).toNatClampNeg).toInt64) (32 : Int32)) ||| ((xs (x3 + 2).toNatClampNeg).toInt64 &&& (4294967295 : Int64)))]) X hw (c_X5_place l (ad := a0) (aN := (a1 0)) (aK := (a2 0)) (aD := (a3 0)) (aS := (a4 0)) (aT := (a5 0)) (aL := (a6 0)) (aE := (a7 0)) ho1) rfl kM_X5_place ki_X5_place ks_X5_place km_L_111 ⟨(Nat.le_of_ble_eq_true rfl), (Nat.le_of_ble_eq_true rfl)⟩ (law_c hB (by decide) (by decide)) rfl rfl ⟨_, _, _, _, rfl, rfl, rfl, rfl⟩ rfl hl.1 rfl (Nat.le_of_ble_eq_true rfl) dL_law_1054) hw rfl rfl (fun _ => (Nat.le_of_ble_eq_true rfl)) (fun _ => (gputs_eq rfl).trans rfl) rfl rfl (fun _ H locs hw => ?_)
  refine lv_aload_n hx hb dL_law_1057 rfl (lv_at hl 2 rfl) ?_
  refine lv_aload_n hx hb dL_law_1058 rfl (lv_at hl 0 rfl) ?_
  refine lv_iload_n hx hb dL_law_1059 rfl (lv_at hl 3 rfl) ?_
  refine lv_iconst (v := 1) hx hb dL_law_1060 (by decide) ?_
  refine lv_iadd hx hb dL_law_1061 ?_
  refine va_sld hx hb hX hbl hbA hw.2.2.1 h1 dL_law_1062 ?_
  refine lv_i2l (v := (xs (x3 + 1).toNatClampNeg).toInt64) hx hb dL_law_1063 rfl ?_
  refine lv_bipush (v := 32) hx hb dL_law_1064 (by decide) ?_
  refine lv_lshl (v := (jlshl ((xs (x3 + 1).toNatClampNeg).toInt64) (32 : Int32))) hx hb dL_law_1066 rfl ?_
  refine lv_aload_n hx hb dL_law_1067 rfl (lv_at hl 0 rfl) ?_
  refine lv_iload_n hx hb dL_law_1068 rfl (lv_at hl 3 rfl) ?_
  refine lv_iconst (v := 2) hx hb dL_law_1069 (by decide) ?_
  refine lv_iadd hx hb dL_law_1070 ?_
  refine va_sld hx hb hX hbl hbA hw.2.2.1 h2 dL_law_1071 ?_
  refine lv_i2l (v := (xs (x3 + 2).toNatClampNeg).toInt64) hx hb dL_law_1072 rfl ?_
  refine lv_ldc2 hx hb X.1.2.2.2.1 (gK1 X _ kq_L_18) dL_law_1073 ?_
  refine lv_land hx hb dL_law_1076 ?_
  refine lv_lor hx hb dL_law_1077 ?_
  obtain ⟨o2, ho2, heq, hI⟩ := hS
  refine g_calll0 (isC := [8]) (gn := fun _ => ([wRO g a0 (a1 0) (a2 0) (a3 0) (a4 0) (a5 0) (a6 0) (a7 0) o1.2, wEV g a1 nw, wEV g a2 kp, wEV g a3 dr, wSH g a4 sh, wTP g a5 tp, wLW g a6 lw, wSE g a7 se, wRM g am (K.map fun _ => aK 0) (T.map fun _ => aT 0) o2.2] ++ (oW g aK K ++ oW g aT T))) (g_runV (isC := [8]) (rest := [.long o1.1]) (As := [.long ((jlshl ((xs (x3 + 1).toNatClampNeg).toInt64) (32 : Int32)) ||| ((xs (x3 + 2).toNatClampNeg).toInt64 &&& (4294967295 : Int64)))]) X hw (c_X6_place l (ad := am) (eK := (K.map fun _ => aK 0)) (eT := (T.map fun _ => aT 0)) ho2) rfl kM_X6_place ki_X6_place ks_X6_place km_L_115 ⟨(Nat.le_of_ble_eq_true rfl), (Nat.le_of_ble_eq_true rfl)⟩ (law_c hB (by decide) (by decide)) rfl rfl ⟨_, _, _, _, rfl, rfl, rfl, rfl⟩ rfl hl.1 rfl (Nat.le_of_ble_eq_true rfl) dL_law_1078) hw rfl rfl (fun _ => (Nat.le_of_ble_eq_true rfl)) (fun _ => (gputs_eq rfl).trans rfl) rfl rfl (fun _ H locs hw => ?_)
  refine W.lcmp hx hb dL_law_1081 ?_
  refine lv_if_eq (tgt := 1985) hx hb dL_law_1082 (by decide) (fun _ => ?_) (fun z => absurd (lg_eq heq) z)
  refine W.widen (k := cells + 37) (n := slots + 2859) (by first | omega | exact Nat.add_le_add_left (Nat.le_of_ble_eq_true rfl) _) (by first | omega | exact Nat.add_le_add_left (Nat.le_of_ble_eq_true rfl) _) ?_
  exact next _ _ _ _ _ _ _ _ _ _ _ hI a0 a1 a2 a3 a4 a5 a6 a7 am aK aT _ _ _ hw hl
set_option maxHeartbeats 4000000 in
set_option maxRecDepth 100000 in
theorem law_setOf (X : gC p s m meth c #[Value.ref b] RL cL_law 4 g (fun q : Nat => s.heap.size ≤ q)) (hX : va_X b L xs s s.heap) (hbl : b < s.heap.size) {I : RO → EV → EV → EV → SH → TP → LW → SE → RM → Option RM → Option RM → Prop} (hS : S_setOf I) (hB : cells + 37 ≤ 600000 ∧ slots + 2859 ≤ 7302249) {x3 : Int32} (h1 : vp_in (x3 + 1) L) (h2 : vp_in (x3 + 2) L) (h3 : vp_in (x3 + 3) L) (h4 : vp_in (x3 + 4) L) (h5 : vp_in (x3 + 5) L)
    (next : lawNext p l e s m below meth c b g I Q (cells + 37) (slots + 2859) x3)
    (ro : RO) (nw : EV) (kp : EV) (dr : EV) (sh : SH) (tp : TP) (lw : LW) (se : SE) (rm : RM) (K : Option RM) (T : Option RM) (hI : I ro nw kp dr sh tp lw se rm K T) (a0 a1 a2 a3 a4 a5 a6 a7 am aK aT : Nat → Nat) (H : Heap) (locs : List Loc) (ls : Array Slot) (hw : gW g (fun q : Nat => s.heap.size ≤ q) s.heap (lawW g ro nw kp dr sh tp lw se rm K T a0 a1 a2 a3 a4 a5 a6 a7 am aK aT) H locs) (hl : lv_has ls 4 [(0, .ref b), (1, .ref (a0 0)), (2, .ref (am 0)), (3, .int x3)]) : W p l e room_1 s m #[Value.ref b] below meth c H locs cells slots Q (F0 m 1087 ls []) := by
  have hx := X.1.1
  have hb := X.1.2.1
  have hbA : ¬ (fun q : Nat => s.heap.size ≤ q) b := Nat.not_le.mpr hbl
  refine lv_aload_n hx hb dL_law_1087 rfl (lv_at hl 1 rfl) ?_
  refine lv_aload_n hx hb dL_law_1088 rfl (lv_at hl 0 rfl) ?_
  refine lv_iload_n hx hb dL_law_1089 rfl (lv_at hl 3 rfl) ?_
  refine lv_iconst (v := 1) hx hb dL_law_1090 (by decide) ?_
  refine lv_iadd hx hb dL_law_1091 ?_
  refine va_sld hx hb hX hbl hbA hw.2.2.1 h1 dL_law_1092 ?_
  refine lv_i2l (v := (xs (x3 + 1).toNatClampNeg).toInt64) hx hb dL_law_1093 rfl ?_
  refine lv_bipush (v := 32) hx hb dL_law_1094 (by decide) ?_
  refine lv_lshl (v := (jlshl ((xs (x3 + 1).toNatClampNeg).toInt64) (32 : Int32))) hx hb dL_law_1096 rfl ?_
  refine lv_aload_n hx hb dL_law_1097 rfl (lv_at hl 0 rfl) ?_
  refine lv_iload_n hx hb dL_law_1098 rfl (lv_at hl 3 rfl) ?_
  refine lv_iconst (v := 2) hx hb dL_law_1099 (by decide) ?_
  refine lv_iadd hx hb dL_law_1100 ?_
  refine va_sld hx hb hX hbl hbA hw.2.2.1 h2 dL_law_1101 ?_
  refine lv_i2l (v := (xs (x3 + 2).toNatClampNeg).toInt64) hx hb dL_law_1102 rfl ?_
  refine lv_ldc2 hx hb X.1.2.2.2.1 (gK1 X _ kq_L_18) dL_law_1103 ?_
  refine lv_land hx hb dL_law_1106 ?_
  refine lv_lor hx hb dL_law_1107 ?_
  obtain ⟨o1, ho1, hS⟩ := hS ro nw kp dr sh tp lw se rm K T hI ((jlshl ((xs (x3 + 1).toNatClampNeg).toInt64) (32 : Int32)) ||| ((xs (x3 + 2).toNatClampNeg).toInt64 &&& (4294967295 : Int64)))
  refine g_calll0 (isC := [0]) (gn := fun _ => ([wRO g a0 (a1 0) (a2 0) (a3 0) (a4 0) (a5 0) (a6 0) (a7 0) o1.2, wEV g a1 nw, wEV g a2 kp, wEV g a3 dr, wSH g a4 sh, wTP g a5 tp, wLW g a6 lw, wSE g a7 se, wRM g am (K.map fun _ => aK 0) (T.map fun _ => aT 0) rm] ++ (oW g aK K ++ oW g aT T))) (g_runV (isC := [0]) (rest := []) (As := [.long ((jlshl ((xs (x3 + 1).toNatClampNeg).toInt64) (32 : Int32)) ||| ((xs (x3 + 2).toNatClampNeg).toInt64 &&& (4294967295 : Int64)))]) X hw (c_X5_setOf l (ad := a0) (aN := (a1 0)) (aK := (a2 0)) (aD := (a3 0)) (aS := (a4 0)) (aT := (a5 0)) (aL := (a6 0)) (aE := (a7 0)) ho1) rfl kM_X5_setOf ki_X5_setOf ks_X5_setOf km_L_116 ⟨(Nat.le_of_ble_eq_true rfl), (Nat.le_of_ble_eq_true rfl)⟩ (law_c hB (by decide) (by decide)) rfl rfl ⟨_, _, _, _, rfl, rfl, rfl, rfl⟩ rfl hl.1 rfl (Nat.le_of_ble_eq_true rfl) dL_law_1108) hw rfl rfl (fun _ => (Nat.le_of_ble_eq_true rfl)) (fun _ => (gputs_eq rfl).trans rfl) rfl rfl (fun _ H locs hw => ?_)
  refine lv_aload_n hx hb dL_law_1111 rfl (lv_at hl 2 rfl) ?_
  refine lv_aload_n hx hb dL_law_1112 rfl (lv_at hl 0 rfl) ?_
  refine lv_iload_n hx hb dL_law_1113 rfl (lv_at hl 3 rfl) ?_
  refine lv_iconst (v := 1) hx hb dL_law_1114 (by decide) ?_
  refine lv_iadd hx hb dL_law_1115 ?_
  refine va_sld hx hb hX hbl hbA hw.2.2.1 h1 dL_law_1116 ?_
  refine lv_i2l (v := (xs (x3 + 1).toNatClampNeg).toInt64) hx hb dL_law_1117 rfl ?_
  refine lv_bipush (v := 32) hx hb dL_law_1118 (by decide) ?_
  refine lv_lshl (v := (jlshl ((xs (x3 + 1).toNatClampNeg).toInt64) (32 : Int32))) hx hb dL_law_1120 rfl ?_
  refine lv_aload_n hx hb dL_law_1121 rfl (lv_at hl 0 rfl) ?_
  refine lv_iload_n hx hb dL_law_1122 rfl (lv_at hl 3 rfl) ?_
  refine lv_iconst (v := 2) hx hb dL_law_1123 (by decide) ?_
  refine lv_iadd hx hb dL_law_1124 ?_
  refine va_sld hx hb hX hbl hbA hw.2.2.1 h2 dL_law_1125 ?_
  refine lv_i2l (v := (xs (x3 + 2).toNatClampNeg).toInt64) hx hb dL_law_1126 rfl ?_
  refine lv_ldc2 hx hb X.1.2.2.2.1 (gK1 X _ kq_L_18) dL_law_1127 ?_
  refine lv_land hx hb dL_law_1130 ?_
  refine lv_lor hx hb dL_law_1131 ?_
  obtain ⟨o2, ho2, heq, hI⟩ := hS
  refine g_calll0 (isC := [8]) (gn := fun _ => ([wRO g a0 (a1 0) (a2 0) (a3 0) (a4 0) (a5 0) (a6 0) (a7 0) o1.2, wEV g a1 nw, wEV g a2 kp, wEV g a3 dr, wSH g a4 sh, wTP g a5 tp, wLW g a6 lw, wSE g a7 se, wRM g am (K.map fun _ => aK 0) (T.map fun _ => aT 0) o2.2] ++ (oW g aK K ++ oW g aT T))) (g_runV (isC := [8]) (rest := [.long o1.1]) (As := [.long ((jlshl ((xs (x3 + 1).toNatClampNeg).toInt64) (32 : Int32)) ||| ((xs (x3 + 2).toNatClampNeg).toInt64 &&& (4294967295 : Int64)))]) X hw (c_X6_setOf l (ad := am) (eK := (K.map fun _ => aK 0)) (eT := (T.map fun _ => aT 0)) ho2) rfl kM_X6_setOf ki_X6_setOf ks_X6_setOf km_L_119 ⟨(Nat.le_of_ble_eq_true rfl), (Nat.le_of_ble_eq_true rfl)⟩ (law_c hB (by decide) (by decide)) rfl rfl ⟨_, _, _, _, rfl, rfl, rfl, rfl⟩ rfl hl.1 rfl (Nat.le_of_ble_eq_true rfl) dL_law_1132) hw rfl rfl (fun _ => (Nat.le_of_ble_eq_true rfl)) (fun _ => (gputs_eq rfl).trans rfl) rfl rfl (fun _ H locs hw => ?_)
  refine W.lcmp hx hb dL_law_1135 ?_
  refine lv_if_eq (tgt := 1985) hx hb dL_law_1136 (by decide) (fun _ => ?_) (fun z => absurd (lg_eq heq) z)
  refine W.widen (k := cells + 37) (n := slots + 2859) (by first | omega | exact Nat.add_le_add_left (Nat.le_of_ble_eq_true rfl) _) (by first | omega | exact Nat.add_le_add_left (Nat.le_of_ble_eq_true rfl) _) ?_
  exact next _ _ _ _ _ _ _ _ _ _ _ hI a0 a1 a2 a3 a4 a5 a6 a7 am aK aT _ _ _ hw hl
set_option maxHeartbeats 4000000 in
set_option maxRecDepth 100000 in
theorem law_reach (X : gC p s m meth c #[Value.ref b] RL cL_law 4 g (fun q : Nat => s.heap.size ≤ q)) (hX : va_X b L xs s s.heap) (hbl : b < s.heap.size) {I : RO → EV → EV → EV → SH → TP → LW → SE → RM → Option RM → Option RM → Prop} (hS : S_reach I) (hB : cells + 37 ≤ 600000 ∧ slots + 2859 ≤ 7302249) {x3 : Int32} (h1 : vp_in (x3 + 1) L) (h2 : vp_in (x3 + 2) L) (h3 : vp_in (x3 + 3) L) (h4 : vp_in (x3 + 4) L) (h5 : vp_in (x3 + 5) L)
    (next : lawNext p l e s m below meth c b g I Q (cells + 37) (slots + 2859) x3)
    (ro : RO) (nw : EV) (kp : EV) (dr : EV) (sh : SH) (tp : TP) (lw : LW) (se : SE) (rm : RM) (K : Option RM) (T : Option RM) (hI : I ro nw kp dr sh tp lw se rm K T) (a0 a1 a2 a3 a4 a5 a6 a7 am aK aT : Nat → Nat) (H : Heap) (locs : List Loc) (ls : Array Slot) (hw : gW g (fun q : Nat => s.heap.size ≤ q) s.heap (lawW g ro nw kp dr sh tp lw se rm K T a0 a1 a2 a3 a4 a5 a6 a7 am aK aT) H locs) (hl : lv_has ls 4 [(0, .ref b), (1, .ref (a0 0)), (2, .ref (am 0)), (3, .int x3)]) : W p l e room_1 s m #[Value.ref b] below meth c H locs cells slots Q (F0 m 1141 ls []) := by
  have hx := X.1.1
  have hb := X.1.2.1
  have hbA : ¬ (fun q : Nat => s.heap.size ≤ q) b := Nat.not_le.mpr hbl
  refine lv_aload_n hx hb dL_law_1141 rfl (lv_at hl 1 rfl) ?_
  refine lv_aload_n hx hb dL_law_1142 rfl (lv_at hl 0 rfl) ?_
  refine lv_iload_n hx hb dL_law_1143 rfl (lv_at hl 3 rfl) ?_
  refine lv_iconst (v := 1) hx hb dL_law_1144 (by decide) ?_
  refine lv_iadd hx hb dL_law_1145 ?_
  refine va_sld hx hb hX hbl hbA hw.2.2.1 h1 dL_law_1146 ?_
  obtain ⟨o1, ho1, hS⟩ := hS ro nw kp dr sh tp lw se rm K T hI (xs (x3 + 1).toNatClampNeg)
  refine g_calli0 (isC := [0, 1, 6, 7]) (gn := fun _ => ([wRO g a0 (a1 0) (a2 0) (a3 0) (a4 0) (a5 0) (a6 0) (a7 0) o1.2.1, wEV g a1 nw, wEV g a2 kp, wEV g a3 dr, wSH g a4 sh, wTP g a5 tp, wLW g a6 o1.2.2.1, wSE g a7 o1.2.2.2, wRM g am (K.map fun _ => aK 0) (T.map fun _ => aT 0) rm] ++ (oW g aK K ++ oW g aT T))) (g_runV (isC := [0, 1, 6, 7]) (rest := []) (As := [.int (xs (x3 + 1).toNatClampNeg)]) X hw (c_X5_reach l (ad := a0) (adN := a1) (adL := a6) (adE := a7) (aK := (a2 0)) (aD := (a3 0)) (aS := (a4 0)) (aT := (a5 0)) ho1) rfl kM_X5_reach ki_X5_reach ks_X5_reach km_L_120 ⟨(Nat.le_of_ble_eq_true rfl), (Nat.le_of_ble_eq_true rfl)⟩ (law_c hB (by decide) (by decide)) rfl rfl ⟨_, _, _, _, rfl, rfl, rfl, rfl⟩ rfl hl.1 rfl (Nat.le_of_ble_eq_true rfl) dL_law_1147) hw rfl rfl (fun _ => (Nat.le_of_ble_eq_true rfl)) (fun _ => (gputs_eq rfl).trans rfl) rfl rfl (fun _ H locs hw => ?_)
  refine lv_aload_n hx hb dL_law_1150 rfl (lv_at hl 2 rfl) ?_
  refine lv_aload_n hx hb dL_law_1151 rfl (lv_at hl 0 rfl) ?_
  refine lv_iload_n hx hb dL_law_1152 rfl (lv_at hl 3 rfl) ?_
  refine lv_iconst (v := 1) hx hb dL_law_1153 (by decide) ?_
  refine lv_iadd hx hb dL_law_1154 ?_
  refine va_sld hx hb hX hbl hbA hw.2.2.1 h1 dL_law_1155 ?_
  obtain ⟨o2, ho2, heq, hI⟩ := hS
  refine g_calli0 (isC := [8]) (gn := fun _ => ([wRO g a0 (a1 0) (a2 0) (a3 0) (a4 0) (a5 0) (a6 0) (a7 0) o1.2.1, wEV g a1 nw, wEV g a2 kp, wEV g a3 dr, wSH g a4 sh, wTP g a5 tp, wLW g a6 o1.2.2.1, wSE g a7 o1.2.2.2, wRM g am (K.map fun _ => aK 0) (T.map fun _ => aT 0) o2.2] ++ (oW g aK K ++ oW g aT T))) (g_runV (isC := [8]) (rest := [.int o1.1]) (As := [.int (xs (x3 + 1).toNatClampNeg)]) X hw (c_X6_reach l (ad := am) (eK := (K.map fun _ => aK 0)) (eT := (T.map fun _ => aT 0)) ho2) rfl kM_X6_reach ki_X6_reach ks_X6_reach km_L_123 ⟨(Nat.le_of_ble_eq_true rfl), (Nat.le_of_ble_eq_true rfl)⟩ (law_c hB (by decide) (by decide)) rfl rfl ⟨_, _, _, _, rfl, rfl, rfl, rfl⟩ rfl hl.1 rfl (Nat.le_of_ble_eq_true rfl) dL_law_1156) hw rfl rfl (fun _ => (Nat.le_of_ble_eq_true rfl)) (fun _ => (gputs_eq rfl).trans rfl) rfl rfl (fun _ H locs hw => ?_)
  refine lv_icmp_eq (tgt := 1985) hx hb dL_law_1159 (by decide) (fun _ => ?_) (fun z => absurd heq z)
  refine W.widen (k := cells + 37) (n := slots + 2859) (by first | omega | exact Nat.add_le_add_left (Nat.le_of_ble_eq_true rfl) _) (by first | omega | exact Nat.add_le_add_left (Nat.le_of_ble_eq_true rfl) _) ?_
  exact next _ _ _ _ _ _ _ _ _ _ _ hI a0 a1 a2 a3 a4 a5 a6 a7 am aK aT _ _ _ hw hl
set_option maxHeartbeats 4000000 in
set_option maxRecDepth 100000 in
theorem law_farthest (X : gC p s m meth c #[Value.ref b] RL cL_law 4 g (fun q : Nat => s.heap.size ≤ q)) (hX : va_X b L xs s s.heap) (hbl : b < s.heap.size) {I : RO → EV → EV → EV → SH → TP → LW → SE → RM → Option RM → Option RM → Prop} (hS : S_farthest I) (hB : cells + 37 ≤ 600000 ∧ slots + 2859 ≤ 7302249) {x3 : Int32} (h1 : vp_in (x3 + 1) L) (h2 : vp_in (x3 + 2) L) (h3 : vp_in (x3 + 3) L) (h4 : vp_in (x3 + 4) L) (h5 : vp_in (x3 + 5) L)
    (next : lawNext p l e s m below meth c b g I Q (cells + 37) (slots + 2859) x3)
    (ro : RO) (nw : EV) (kp : EV) (dr : EV) (sh : SH) (tp : TP) (lw : LW) (se : SE) (rm : RM) (K : Option RM) (T : Option RM) (hI : I ro nw kp dr sh tp lw se rm K T) (a0 a1 a2 a3 a4 a5 a6 a7 am aK aT : Nat → Nat) (H : Heap) (locs : List Loc) (ls : Array Slot) (hw : gW g (fun q : Nat => s.heap.size ≤ q) s.heap (lawW g ro nw kp dr sh tp lw se rm K T a0 a1 a2 a3 a4 a5 a6 a7 am aK aT) H locs) (hl : lv_has ls 4 [(0, .ref b), (1, .ref (a0 0)), (2, .ref (am 0)), (3, .int x3)]) : W p l e room_1 s m #[Value.ref b] below meth c H locs cells slots Q (F0 m 1164 ls []) := by
  have hx := X.1.1
  have hb := X.1.2.1
  have hbA : ¬ (fun q : Nat => s.heap.size ≤ q) b := Nat.not_le.mpr hbl
  refine lv_aload_n hx hb dL_law_1164 rfl (lv_at hl 1 rfl) ?_
  refine lv_aload_n hx hb dL_law_1165 rfl (lv_at hl 0 rfl) ?_
  refine lv_iload_n hx hb dL_law_1166 rfl (lv_at hl 3 rfl) ?_
  refine lv_iconst (v := 1) hx hb dL_law_1167 (by decide) ?_
  refine lv_iadd hx hb dL_law_1168 ?_
  refine va_sld hx hb hX hbl hbA hw.2.2.1 h1 dL_law_1169 ?_
  refine lv_aload_n hx hb dL_law_1170 rfl (lv_at hl 0 rfl) ?_
  refine lv_iload_n hx hb dL_law_1171 rfl (lv_at hl 3 rfl) ?_
  refine lv_iconst (v := 2) hx hb dL_law_1172 (by decide) ?_
  refine lv_iadd hx hb dL_law_1173 ?_
  refine va_sld hx hb hX hbl hbA hw.2.2.1 h2 dL_law_1174 ?_
  obtain ⟨o1, ho1, hS⟩ := hS ro nw kp dr sh tp lw se rm K T hI (xs (x3 + 1).toNatClampNeg) (xs (x3 + 2).toNatClampNeg)
  refine g_calli0 (isC := [0, 1, 6, 7]) (gn := fun _ => ([wRO g a0 (a1 0) (a2 0) (a3 0) (a4 0) (a5 0) (a6 0) (a7 0) o1.2.1, wEV g a1 nw, wEV g a2 kp, wEV g a3 dr, wSH g a4 sh, wTP g a5 tp, wLW g a6 o1.2.2.1, wSE g a7 o1.2.2.2, wRM g am (K.map fun _ => aK 0) (T.map fun _ => aT 0) rm] ++ (oW g aK K ++ oW g aT T))) (g_runV (isC := [0, 1, 6, 7]) (rest := []) (As := [.int (xs (x3 + 1).toNatClampNeg), .int (xs (x3 + 2).toNatClampNeg)]) X hw (c_X5_farthest l (ad := a0) (adN := a1) (adL := a6) (adE := a7) (aK := (a2 0)) (aD := (a3 0)) (aS := (a4 0)) (aT := (a5 0)) ho1) rfl kM_X5_farthest ki_X5_farthest ks_X5_farthest km_L_124 ⟨(Nat.le_of_ble_eq_true rfl), (Nat.le_of_ble_eq_true rfl)⟩ (law_c hB (by decide) (by decide)) rfl rfl ⟨_, _, _, _, rfl, rfl, rfl, rfl⟩ rfl hl.1 rfl (Nat.le_of_ble_eq_true rfl) dL_law_1175) hw rfl rfl (fun _ => (Nat.le_of_ble_eq_true rfl)) (fun _ => (gputs_eq rfl).trans rfl) rfl rfl (fun _ H locs hw => ?_)
  refine lv_aload_n hx hb dL_law_1178 rfl (lv_at hl 2 rfl) ?_
  refine lv_aload_n hx hb dL_law_1179 rfl (lv_at hl 0 rfl) ?_
  refine lv_iload_n hx hb dL_law_1180 rfl (lv_at hl 3 rfl) ?_
  refine lv_iconst (v := 1) hx hb dL_law_1181 (by decide) ?_
  refine lv_iadd hx hb dL_law_1182 ?_
  refine va_sld hx hb hX hbl hbA hw.2.2.1 h1 dL_law_1183 ?_
  refine lv_aload_n hx hb dL_law_1184 rfl (lv_at hl 0 rfl) ?_
  refine lv_iload_n hx hb dL_law_1185 rfl (lv_at hl 3 rfl) ?_
  refine lv_iconst (v := 2) hx hb dL_law_1186 (by decide) ?_
  refine lv_iadd hx hb dL_law_1187 ?_
  refine va_sld hx hb hX hbl hbA hw.2.2.1 h2 dL_law_1188 ?_
  obtain ⟨o2, ho2, heq, hI⟩ := hS
  refine g_calli0 (isC := [8]) (gn := fun _ => ([wRO g a0 (a1 0) (a2 0) (a3 0) (a4 0) (a5 0) (a6 0) (a7 0) o1.2.1, wEV g a1 nw, wEV g a2 kp, wEV g a3 dr, wSH g a4 sh, wTP g a5 tp, wLW g a6 o1.2.2.1, wSE g a7 o1.2.2.2, wRM g am (K.map fun _ => aK 0) (T.map fun _ => aT 0) o2.2] ++ (oW g aK K ++ oW g aT T))) (g_runV (isC := [8]) (rest := [.int o1.1]) (As := [.int (xs (x3 + 1).toNatClampNeg), .int (xs (x3 + 2).toNatClampNeg)]) X hw (c_X6_farthest l (ad := am) (eK := (K.map fun _ => aK 0)) (eT := (T.map fun _ => aT 0)) ho2) rfl kM_X6_farthest ki_X6_farthest ks_X6_farthest km_L_127 ⟨(Nat.le_of_ble_eq_true rfl), (Nat.le_of_ble_eq_true rfl)⟩ (law_c hB (by decide) (by decide)) rfl rfl ⟨_, _, _, _, rfl, rfl, rfl, rfl⟩ rfl hl.1 rfl (Nat.le_of_ble_eq_true rfl) dL_law_1189) hw rfl rfl (fun _ => (Nat.le_of_ble_eq_true rfl)) (fun _ => (gputs_eq rfl).trans rfl) rfl rfl (fun _ H locs hw => ?_)
  refine lv_icmp_eq (tgt := 1985) hx hb dL_law_1192 (by decide) (fun _ => ?_) (fun z => absurd heq z)
  refine W.widen (k := cells + 37) (n := slots + 2859) (by first | omega | exact Nat.add_le_add_left (Nat.le_of_ble_eq_true rfl) _) (by first | omega | exact Nat.add_le_add_left (Nat.le_of_ble_eq_true rfl) _) ?_
  exact next _ _ _ _ _ _ _ _ _ _ _ hI a0 a1 a2 a3 a4 a5 a6 a7 am aK aT _ _ _ hw hl
end LAW
