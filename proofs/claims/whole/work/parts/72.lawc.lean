section LAW
variable {p : Program} {l : Launch} {e : Env} {s : State} {m : MethodId} {below : List Frame} {meth : Method} {c : Code} {b L : Nat} {xs : Nat → Int32} {g : gG} {Q : State → Prop} {cells slots : Nat}
set_option maxHeartbeats 4000000 in
set_option maxRecDepth 100000 in
theorem law_shape (X : gC p s m meth c #[Value.ref b] RL cL_law 4 g (fun q : Nat => s.heap.size ≤ q)) (hX : va_X b L xs s s.heap) (hbl : b < s.heap.size) {I : RO → EV → EV → EV → SH → TP → LW → SE → RM → Option RM → Option RM → Prop} (hS : S_shape I) (hB : cells + 37 ≤ 600000 ∧ slots + 2859 ≤ 7302249) {x3 : Int32} (h1 : vp_in (x3 + 1) L) (h2 : vp_in (x3 + 2) L) (h3 : vp_in (x3 + 3) L) (h4 : vp_in (x3 + 4) L) (h5 : vp_in (x3 + 5) L)
    (next : lawNext p l e s m below meth c b g I Q (cells + 37) (slots + 2859) x3)
    (ro : RO) (nw : EV) (kp : EV) (dr : EV) (sh : SH) (tp : TP) (lw : LW) (se : SE) (rm : RM) (K : Option RM) (T : Option RM) (hI : I ro nw kp dr sh tp lw se rm K T) (a0 a1 a2 a3 a4 a5 a6 a7 am aK aT : Nat → Nat) (H : Heap) (locs : List Loc) (ls : Array Slot) (hw : gW g (fun q : Nat => s.heap.size ≤ q) s.heap (lawW g ro nw kp dr sh tp lw se rm K T a0 a1 a2 a3 a4 a5 a6 a7 am aK aT) H locs) (hl : lv_has ls 4 [(0, .ref b), (1, .ref (a0 0)), (2, .ref (am 0)), (3, .int x3)]) : W p l e room_1 s m #[Value.ref b] below meth c H locs cells slots Q (F0 m 1197 ls []) := by
  have hx := X.1.1
  have hb := X.1.2.1
  have hbA : ¬ (fun q : Nat => s.heap.size ≤ q) b := Nat.not_le.mpr hbl
  refine lv_aload_n hx hb dL_law_1197 rfl (lv_at hl 1 rfl) ?_
  refine lv_aload_n hx hb dL_law_1198 rfl (lv_at hl 0 rfl) ?_
  refine lv_iload_n hx hb dL_law_1199 rfl (lv_at hl 3 rfl) ?_
  refine lv_iconst (v := 1) hx hb dL_law_1200 (by decide) ?_
  refine lv_iadd hx hb dL_law_1201 ?_
  refine va_sld hx hb hX hbl hbA hw.2.2.1 h1 dL_law_1202 ?_
  obtain ⟨o1, ho1, hS⟩ := hS ro nw kp dr sh tp lw se rm K T hI (xs (x3 + 1).toNatClampNeg)
  refine g_calli0 (isC := [0, 1, 6, 7]) (gn := fun _ => ([wRO g a0 (a1 0) (a2 0) (a3 0) (a4 0) (a5 0) (a6 0) (a7 0) o1.2.1, wEV g a1 nw, wEV g a2 kp, wEV g a3 dr, wSH g a4 sh, wTP g a5 tp, wLW g a6 o1.2.2.1, wSE g a7 o1.2.2.2, wRM g am (K.map fun _ => aK 0) (T.map fun _ => aT 0) rm] ++ (oW g aK K ++ oW g aT T))) (g_runV (isC := [0, 1, 6, 7]) (rest := []) (As := [.int (xs (x3 + 1).toNatClampNeg)]) X hw (c_X5_shape l (ad := a0) (adN := a1) (adL := a6) (adE := a7) (aK := (a2 0)) (aD := (a3 0)) (aS := (a4 0)) (aT := (a5 0)) ho1) rfl kM_X5_shape ki_X5_shape ks_X5_shape km_L_128 ⟨(Nat.le_of_ble_eq_true rfl), (Nat.le_of_ble_eq_true rfl)⟩ (law_c hB (by decide) (by decide)) rfl rfl ⟨_, _, _, _, rfl, rfl, rfl, rfl⟩ rfl hl.1 rfl (Nat.le_of_ble_eq_true rfl) dL_law_1203) hw rfl rfl (fun _ => (Nat.le_of_ble_eq_true rfl)) (fun _ => (gputs_eq rfl).trans rfl) rfl rfl (fun _ H locs hw => ?_)
  refine lv_aload_n hx hb dL_law_1206 rfl (lv_at hl 2 rfl) ?_
  refine lv_aload_n hx hb dL_law_1207 rfl (lv_at hl 0 rfl) ?_
  refine lv_iload_n hx hb dL_law_1208 rfl (lv_at hl 3 rfl) ?_
  refine lv_iconst (v := 1) hx hb dL_law_1209 (by decide) ?_
  refine lv_iadd hx hb dL_law_1210 ?_
  refine va_sld hx hb hX hbl hbA hw.2.2.1 h1 dL_law_1211 ?_
  obtain ⟨o2, ho2, heq, hI⟩ := hS
  refine g_calli0 (isC := [8]) (gn := fun _ => ([wRO g a0 (a1 0) (a2 0) (a3 0) (a4 0) (a5 0) (a6 0) (a7 0) o1.2.1, wEV g a1 nw, wEV g a2 kp, wEV g a3 dr, wSH g a4 sh, wTP g a5 tp, wLW g a6 o1.2.2.1, wSE g a7 o1.2.2.2, wRM g am (K.map fun _ => aK 0) (T.map fun _ => aT 0) o2.2] ++ (oW g aK K ++ oW g aT T))) (g_runV (isC := [8]) (rest := [.int o1.1]) (As := [.int (xs (x3 + 1).toNatClampNeg)]) X hw (c_X6_shape l (ad := am) (eK := (K.map fun _ => aK 0)) (eT := (T.map fun _ => aT 0)) ho2) rfl kM_X6_shape ki_X6_shape ks_X6_shape km_L_131 ⟨(Nat.le_of_ble_eq_true rfl), (Nat.le_of_ble_eq_true rfl)⟩ (law_c hB (by decide) (by decide)) rfl rfl ⟨_, _, _, _, rfl, rfl, rfl, rfl⟩ rfl hl.1 rfl (Nat.le_of_ble_eq_true rfl) dL_law_1212) hw rfl rfl (fun _ => (Nat.le_of_ble_eq_true rfl)) (fun _ => (gputs_eq rfl).trans rfl) rfl rfl (fun _ H locs hw => ?_)
  refine lv_icmp_eq (tgt := 1985) hx hb dL_law_1215 (by decide) (fun _ => ?_) (fun z => absurd heq z)
  refine W.widen (k := cells + 37) (n := slots + 2859) (by first | omega | exact Nat.add_le_add_left (Nat.le_of_ble_eq_true rfl) _) (by first | omega | exact Nat.add_le_add_left (Nat.le_of_ble_eq_true rfl) _) ?_
  exact next _ _ _ _ _ _ _ _ _ _ _ hI a0 a1 a2 a3 a4 a5 a6 a7 am aK aT _ _ _ hw hl
set_option maxHeartbeats 4000000 in
set_option maxRecDepth 100000 in
theorem law_parts (X : gC p s m meth c #[Value.ref b] RL cL_law 4 g (fun q : Nat => s.heap.size ≤ q)) (hX : va_X b L xs s s.heap) (hbl : b < s.heap.size) {I : RO → EV → EV → EV → SH → TP → LW → SE → RM → Option RM → Option RM → Prop} (hS : S_parts I) (hB : cells + 37 ≤ 600000 ∧ slots + 2859 ≤ 7302249) {x3 : Int32} (h1 : vp_in (x3 + 1) L) (h2 : vp_in (x3 + 2) L) (h3 : vp_in (x3 + 3) L) (h4 : vp_in (x3 + 4) L) (h5 : vp_in (x3 + 5) L)
    (next : lawNext p l e s m below meth c b g I Q (cells + 37) (slots + 2859) x3)
    (ro : RO) (nw : EV) (kp : EV) (dr : EV) (sh : SH) (tp : TP) (lw : LW) (se : SE) (rm : RM) (K : Option RM) (T : Option RM) (hI : I ro nw kp dr sh tp lw se rm K T) (a0 a1 a2 a3 a4 a5 a6 a7 am aK aT : Nat → Nat) (H : Heap) (locs : List Loc) (ls : Array Slot) (hw : gW g (fun q : Nat => s.heap.size ≤ q) s.heap (lawW g ro nw kp dr sh tp lw se rm K T a0 a1 a2 a3 a4 a5 a6 a7 am aK aT) H locs) (hl : lv_has ls 4 [(0, .ref b), (1, .ref (a0 0)), (2, .ref (am 0)), (3, .int x3)]) : W p l e room_1 s m #[Value.ref b] below meth c H locs cells slots Q (F0 m 1220 ls []) := by
  have hx := X.1.1
  have hb := X.1.2.1
  have hbA : ¬ (fun q : Nat => s.heap.size ≤ q) b := Nat.not_le.mpr hbl
  refine lv_aload_n hx hb dL_law_1220 rfl (lv_at hl 1 rfl) ?_
  refine lv_aload_n hx hb dL_law_1221 rfl (lv_at hl 0 rfl) ?_
  refine lv_iload_n hx hb dL_law_1222 rfl (lv_at hl 3 rfl) ?_
  refine lv_iconst (v := 1) hx hb dL_law_1223 (by decide) ?_
  refine lv_iadd hx hb dL_law_1224 ?_
  refine va_sld hx hb hX hbl hbA hw.2.2.1 h1 dL_law_1225 ?_
  obtain ⟨o1, ho1, hS⟩ := hS ro nw kp dr sh tp lw se rm K T hI (xs (x3 + 1).toNatClampNeg)
  refine g_calli0 (isC := [0, 1, 6, 7]) (gn := fun _ => ([wRO g a0 (a1 0) (a2 0) (a3 0) (a4 0) (a5 0) (a6 0) (a7 0) o1.2.1, wEV g a1 nw, wEV g a2 kp, wEV g a3 dr, wSH g a4 sh, wTP g a5 tp, wLW g a6 o1.2.2.1, wSE g a7 o1.2.2.2, wRM g am (K.map fun _ => aK 0) (T.map fun _ => aT 0) rm] ++ (oW g aK K ++ oW g aT T))) (g_runV (isC := [0, 1, 6, 7]) (rest := []) (As := [.int (xs (x3 + 1).toNatClampNeg)]) X hw (c_X5_parts l (ad := a0) (adN := a1) (adL := a6) (adE := a7) (aK := (a2 0)) (aD := (a3 0)) (aS := (a4 0)) (aT := (a5 0)) ho1) rfl kM_X5_parts ki_X5_parts ks_X5_parts km_L_132 ⟨(Nat.le_of_ble_eq_true rfl), (Nat.le_of_ble_eq_true rfl)⟩ (law_c hB (by decide) (by decide)) rfl rfl ⟨_, _, _, _, rfl, rfl, rfl, rfl⟩ rfl hl.1 rfl (Nat.le_of_ble_eq_true rfl) dL_law_1226) hw rfl rfl (fun _ => (Nat.le_of_ble_eq_true rfl)) (fun _ => (gputs_eq rfl).trans rfl) rfl rfl (fun _ H locs hw => ?_)
  refine lv_aload_n hx hb dL_law_1229 rfl (lv_at hl 2 rfl) ?_
  refine lv_aload_n hx hb dL_law_1230 rfl (lv_at hl 0 rfl) ?_
  refine lv_iload_n hx hb dL_law_1231 rfl (lv_at hl 3 rfl) ?_
  refine lv_iconst (v := 1) hx hb dL_law_1232 (by decide) ?_
  refine lv_iadd hx hb dL_law_1233 ?_
  refine va_sld hx hb hX hbl hbA hw.2.2.1 h1 dL_law_1234 ?_
  obtain ⟨o2, ho2, heq, hI⟩ := hS
  refine g_calli0 (isC := [8]) (gn := fun _ => ([wRO g a0 (a1 0) (a2 0) (a3 0) (a4 0) (a5 0) (a6 0) (a7 0) o1.2.1, wEV g a1 nw, wEV g a2 kp, wEV g a3 dr, wSH g a4 sh, wTP g a5 tp, wLW g a6 o1.2.2.1, wSE g a7 o1.2.2.2, wRM g am (K.map fun _ => aK 0) (T.map fun _ => aT 0) o2.2] ++ (oW g aK K ++ oW g aT T))) (g_runV (isC := [8]) (rest := [.int o1.1]) (As := [.int (xs (x3 + 1).toNatClampNeg)]) X hw (c_X6_parts l (ad := am) (eK := (K.map fun _ => aK 0)) (eT := (T.map fun _ => aT 0)) ho2) rfl kM_X6_parts ki_X6_parts ks_X6_parts km_L_135 ⟨(Nat.le_of_ble_eq_true rfl), (Nat.le_of_ble_eq_true rfl)⟩ (law_c hB (by decide) (by decide)) rfl rfl ⟨_, _, _, _, rfl, rfl, rfl, rfl⟩ rfl hl.1 rfl (Nat.le_of_ble_eq_true rfl) dL_law_1235) hw rfl rfl (fun _ => (Nat.le_of_ble_eq_true rfl)) (fun _ => (gputs_eq rfl).trans rfl) rfl rfl (fun _ H locs hw => ?_)
  refine lv_icmp_eq (tgt := 1985) hx hb dL_law_1238 (by decide) (fun _ => ?_) (fun z => absurd heq z)
  refine W.widen (k := cells + 37) (n := slots + 2859) (by first | omega | exact Nat.add_le_add_left (Nat.le_of_ble_eq_true rfl) _) (by first | omega | exact Nat.add_le_add_left (Nat.le_of_ble_eq_true rfl) _) ?_
  exact next _ _ _ _ _ _ _ _ _ _ _ hI a0 a1 a2 a3 a4 a5 a6 a7 am aK aT _ _ _ hw hl
set_option maxHeartbeats 4000000 in
set_option maxRecDepth 100000 in
theorem law_longest (X : gC p s m meth c #[Value.ref b] RL cL_law 4 g (fun q : Nat => s.heap.size ≤ q)) (hX : va_X b L xs s s.heap) (hbl : b < s.heap.size) {I : RO → EV → EV → EV → SH → TP → LW → SE → RM → Option RM → Option RM → Prop} (hS : S_longest I) (hB : cells + 37 ≤ 600000 ∧ slots + 2859 ≤ 7302249) {x3 : Int32} (h1 : vp_in (x3 + 1) L) (h2 : vp_in (x3 + 2) L) (h3 : vp_in (x3 + 3) L) (h4 : vp_in (x3 + 4) L) (h5 : vp_in (x3 + 5) L)
    (next : lawNext p l e s m below meth c b g I Q (cells + 37) (slots + 2859) x3)
    (ro : RO) (nw : EV) (kp : EV) (dr : EV) (sh : SH) (tp : TP) (lw : LW) (se : SE) (rm : RM) (K : Option RM) (T : Option RM) (hI : I ro nw kp dr sh tp lw se rm K T) (a0 a1 a2 a3 a4 a5 a6 a7 am aK aT : Nat → Nat) (H : Heap) (locs : List Loc) (ls : Array Slot) (hw : gW g (fun q : Nat => s.heap.size ≤ q) s.heap (lawW g ro nw kp dr sh tp lw se rm K T a0 a1 a2 a3 a4 a5 a6 a7 am aK aT) H locs) (hl : lv_has ls 4 [(0, .ref b), (1, .ref (a0 0)), (2, .ref (am 0)), (3, .int x3)]) : W p l e room_1 s m #[Value.ref b] below meth c H locs cells slots Q (F0 m 1243 ls []) := by
  have hx := X.1.1
  have hb := X.1.2.1
  have hbA : ¬ (fun q : Nat => s.heap.size ≤ q) b := Nat.not_le.mpr hbl
  refine lv_aload_n hx hb dL_law_1243 rfl (lv_at hl 1 rfl) ?_
  refine lv_aload_n hx hb dL_law_1244 rfl (lv_at hl 0 rfl) ?_
  refine lv_iload_n hx hb dL_law_1245 rfl (lv_at hl 3 rfl) ?_
  refine lv_iconst (v := 1) hx hb dL_law_1246 (by decide) ?_
  refine lv_iadd hx hb dL_law_1247 ?_
  refine va_sld hx hb hX hbl hbA hw.2.2.1 h1 dL_law_1248 ?_
  obtain ⟨o1, ho1, hS⟩ := hS ro nw kp dr sh tp lw se rm K T hI (xs (x3 + 1).toNatClampNeg)
  refine g_calli0 (isC := [0, 1, 6, 7]) (gn := fun _ => ([wRO g a0 (a1 0) (a2 0) (a3 0) (a4 0) (a5 0) (a6 0) (a7 0) o1.2.1, wEV g a1 nw, wEV g a2 kp, wEV g a3 dr, wSH g a4 sh, wTP g a5 tp, wLW g a6 o1.2.2.1, wSE g a7 o1.2.2.2, wRM g am (K.map fun _ => aK 0) (T.map fun _ => aT 0) rm] ++ (oW g aK K ++ oW g aT T))) (g_runV (isC := [0, 1, 6, 7]) (rest := []) (As := [.int (xs (x3 + 1).toNatClampNeg)]) X hw (c_X5_longest l (ad := a0) (adN := a1) (adL := a6) (adE := a7) (aK := (a2 0)) (aD := (a3 0)) (aS := (a4 0)) (aT := (a5 0)) ho1) rfl kM_X5_longest ki_X5_longest ks_X5_longest km_L_136 ⟨(Nat.le_of_ble_eq_true rfl), (Nat.le_of_ble_eq_true rfl)⟩ (law_c hB (by decide) (by decide)) rfl rfl ⟨_, _, _, _, rfl, rfl, rfl, rfl⟩ rfl hl.1 rfl (Nat.le_of_ble_eq_true rfl) dL_law_1249) hw rfl rfl (fun _ => (Nat.le_of_ble_eq_true rfl)) (fun _ => (gputs_eq rfl).trans rfl) rfl rfl (fun _ H locs hw => ?_)
  refine lv_aload_n hx hb dL_law_1252 rfl (lv_at hl 2 rfl) ?_
  refine lv_aload_n hx hb dL_law_1253 rfl (lv_at hl 0 rfl) ?_
  refine lv_iload_n hx hb dL_law_1254 rfl (lv_at hl 3 rfl) ?_
  refine lv_iconst (v := 1) hx hb dL_law_1255 (by decide) ?_
  refine lv_iadd hx hb dL_law_1256 ?_
  refine va_sld hx hb hX hbl hbA hw.2.2.1 h1 dL_law_1257 ?_
  obtain ⟨o2, ho2, heq, hI⟩ := hS
  refine g_calli0 (isC := [8]) (gn := fun _ => ([wRO g a0 (a1 0) (a2 0) (a3 0) (a4 0) (a5 0) (a6 0) (a7 0) o1.2.1, wEV g a1 nw, wEV g a2 kp, wEV g a3 dr, wSH g a4 sh, wTP g a5 tp, wLW g a6 o1.2.2.1, wSE g a7 o1.2.2.2, wRM g am (K.map fun _ => aK 0) (T.map fun _ => aT 0) o2.2] ++ (oW g aK K ++ oW g aT T))) (g_runV (isC := [8]) (rest := [.int o1.1]) (As := [.int (xs (x3 + 1).toNatClampNeg)]) X hw (c_X6_longest l (ad := am) (eK := (K.map fun _ => aK 0)) (eT := (T.map fun _ => aT 0)) ho2) rfl kM_X6_longest ki_X6_longest ks_X6_longest km_L_139 ⟨(Nat.le_of_ble_eq_true rfl), (Nat.le_of_ble_eq_true rfl)⟩ (law_c hB (by decide) (by decide)) rfl rfl ⟨_, _, _, _, rfl, rfl, rfl, rfl⟩ rfl hl.1 rfl (Nat.le_of_ble_eq_true rfl) dL_law_1258) hw rfl rfl (fun _ => (Nat.le_of_ble_eq_true rfl)) (fun _ => (gputs_eq rfl).trans rfl) rfl rfl (fun _ H locs hw => ?_)
  refine lv_icmp_eq (tgt := 1985) hx hb dL_law_1261 (by decide) (fun _ => ?_) (fun z => absurd heq z)
  refine W.widen (k := cells + 37) (n := slots + 2859) (by first | omega | exact Nat.add_le_add_left (Nat.le_of_ble_eq_true rfl) _) (by first | omega | exact Nat.add_le_add_left (Nat.le_of_ble_eq_true rfl) _) ?_
  exact next _ _ _ _ _ _ _ _ _ _ _ hI a0 a1 a2 a3 a4 a5 a6 a7 am aK aT _ _ _ hw hl
set_option maxHeartbeats 4000000 in
set_option maxRecDepth 100000 in
theorem law_save (X : gC p s m meth c #[Value.ref b] RL cL_law 4 g (fun q : Nat => s.heap.size ≤ q)) (hX : va_X b L xs s s.heap) (hbl : b < s.heap.size) {I : RO → EV → EV → EV → SH → TP → LW → SE → RM → Option RM → Option RM → Prop} (hS : S_save I) (hB : cells + 37 ≤ 600000 ∧ slots + 2859 ≤ 7302249) {x3 : Int32} (h1 : vp_in (x3 + 1) L) (h2 : vp_in (x3 + 2) L) (h3 : vp_in (x3 + 3) L) (h4 : vp_in (x3 + 4) L) (h5 : vp_in (x3 + 5) L)
    (next : lawNext p l e s m below meth c b g I Q (cells + 37) (slots + 2859) x3)
    (ro : RO) (nw : EV) (kp : EV) (dr : EV) (sh : SH) (tp : TP) (lw : LW) (se : SE) (rm : RM) (K : Option RM) (T : Option RM) (hI : I ro nw kp dr sh tp lw se rm K T) (a0 a1 a2 a3 a4 a5 a6 a7 am aK aT : Nat → Nat) (H : Heap) (locs : List Loc) (ls : Array Slot) (hw : gW g (fun q : Nat => s.heap.size ≤ q) s.heap (lawW g ro nw kp dr sh tp lw se rm K T a0 a1 a2 a3 a4 a5 a6 a7 am aK aT) H locs) (hl : lv_has ls 4 [(0, .ref b), (1, .ref (a0 0)), (2, .ref (am 0)), (3, .int x3)]) : W p l e room_1 s m #[Value.ref b] below meth c H locs cells slots Q (F0 m 1266 ls []) := by
  have hx := X.1.1
  have hb := X.1.2.1
  have hbA : ¬ (fun q : Nat => s.heap.size ≤ q) b := Nat.not_le.mpr hbl
  refine lv_aload_n hx hb dL_law_1266 rfl (lv_at hl 1 rfl) ?_
  refine lv_aload_n hx hb dL_law_1267 rfl (lv_at hl 0 rfl) ?_
  refine lv_iload_n hx hb dL_law_1268 rfl (lv_at hl 3 rfl) ?_
  refine lv_iconst (v := 1) hx hb dL_law_1269 (by decide) ?_
  refine lv_iadd hx hb dL_law_1270 ?_
  refine va_sld hx hb hX hbl hbA hw.2.2.1 h1 dL_law_1271 ?_
  obtain ⟨o1, ho1, hS⟩ := hS ro nw kp dr sh tp lw se rm K T hI (xs (x3 + 1).toNatClampNeg)
  refine g_calli0 (isC := [0, 6, 7]) (gn := fun _ => ([wRO g a0 (a1 0) (a2 0) (a3 0) (a4 0) (a5 0) (a6 0) (a7 0) o1.2.1, wEV g a1 nw, wEV g a2 kp, wEV g a3 dr, wSH g a4 sh, wTP g a5 tp, wLW g a6 o1.2.2.1, wSE g a7 o1.2.2.2, wRM g am (K.map fun _ => aK 0) (T.map fun _ => aT 0) rm] ++ (oW g aK K ++ oW g aT T))) (g_runV (isC := [0, 6, 7]) (rest := []) (As := [.int (xs (x3 + 1).toNatClampNeg)]) X hw (c_X5_save l (ad := a0) (adL := a6) (adE := a7) (aN := (a1 0)) (aK := (a2 0)) (aD := (a3 0)) (aS := (a4 0)) (aT := (a5 0)) ho1) rfl kM_X5_save ki_X5_save ks_X5_save km_L_140 ⟨(Nat.le_of_ble_eq_true rfl), (Nat.le_of_ble_eq_true rfl)⟩ (law_c hB (by decide) (by decide)) rfl rfl ⟨_, _, _, _, rfl, rfl, rfl, rfl⟩ rfl hl.1 rfl (Nat.le_of_ble_eq_true rfl) dL_law_1272) hw rfl rfl (fun _ => (Nat.le_of_ble_eq_true rfl)) (fun _ => (gputs_eq rfl).trans rfl) rfl rfl (fun _ H locs hw => ?_)
  refine lv_aload_n hx hb dL_law_1275 rfl (lv_at hl 2 rfl) ?_
  refine lv_aload_n hx hb dL_law_1276 rfl (lv_at hl 0 rfl) ?_
  refine lv_iload_n hx hb dL_law_1277 rfl (lv_at hl 3 rfl) ?_
  refine lv_iconst (v := 1) hx hb dL_law_1278 (by decide) ?_
  refine lv_iadd hx hb dL_law_1279 ?_
  refine va_sld hx hb hX hbl hbA hw.2.2.1 h1 dL_law_1280 ?_
  cases hT : T with
  | none =>
    obtain ⟨o2, ho2, heq, hI2⟩ := hS.1 hT
    subst hT
    cases K with
    | none =>
      have hw : gW g (fun q : Nat => s.heap.size ≤ q) s.heap [wRO g a0 (a1 0) (a2 0) (a3 0) (a4 0) (a5 0) (a6 0) (a7 0) o1.2.1, wEV g a1 nw, wEV g a2 kp, wEV g a3 dr, wSH g a4 sh, wTP g a5 tp, wLW g a6 o1.2.2.1, wSE g a7 o1.2.2.2, wRM g am none none rm] _ _ := hw
      refine g_calli (isC := [8]) (gn := fun u => gputs [wRO g a0 (a1 0) (a2 0) (a3 0) (a4 0) (a5 0) (a6 0) (a7 0) o1.2.1, wEV g a1 nw, wEV g a2 kp, wEV g a3 dr, wSH g a4 sh, wTP g a5 tp, wLW g a6 o1.2.2.1, wSE g a7 o1.2.2.2, wRM g am none none rm] [8] (oT g am none o2.2.1 u o2.2.2)) (g_runV (isC := [8]) (rest := [.int o1.1]) (As := [.int (xs (x3 + 1).toNatClampNeg)]) X hw (c_X6_save_n l (ad := am) (eK := none) ho2) rfl kM_X6_save ki_X6_save ks_X6_save km_L_143 ⟨(Nat.le_of_ble_eq_true rfl), (Nat.le_of_ble_eq_true rfl)⟩ (law_c hB (by decide) (by decide)) rfl rfl ⟨_, _, _, _, rfl, rfl, rfl, rfl⟩ rfl hl.1 rfl (Nat.le_of_ble_eq_true rfl) dL_law_1281) hw rfl rfl (fun u => by cases o2.2.2 <;> exact Nat.le_of_ble_eq_true rfl) (fun _ => rfl) (fun u H locs hw => ?_)
      cases hn : o2.2.2 with
      | none =>
        rw [hn] at hw hI2
        have hw : gW g (fun q : Nat => s.heap.size ≤ q) s.heap [wRO g a0 (a1 0) (a2 0) (a3 0) (a4 0) (a5 0) (a6 0) (a7 0) o1.2.1, wEV g a1 nw, wEV g a2 kp, wEV g a3 dr, wSH g a4 sh, wTP g a5 tp, wLW g a6 o1.2.2.1, wSE g a7 o1.2.2.2, wRM g am none none o2.2.1] _ _ := hw
        refine lv_icmp_eq (tgt := 1985) hx hb dL_law_1284 (by decide) (fun _ => ?_) (fun z => absurd heq z)
        refine W.widen (k := cells + 37) (n := slots + 2859) (by first | omega | exact Nat.add_le_add_left (Nat.le_of_ble_eq_true rfl) _) (by first | omega | exact Nat.add_le_add_left (Nat.le_of_ble_eq_true rfl) _) ?_
        exact next _ _ _ _ _ _ _ _ _ _ _ hI2 a0 a1 a2 a3 a4 a5 a6 a7 am aK aT _ _ _ hw hl
      | some r8 =>
        rw [hn] at hw hI2
        have hw : gW g (fun q : Nat => s.heap.size ≤ q) s.heap [wRO g a0 (a1 0) (a2 0) (a3 0) (a4 0) (a5 0) (a6 0) (a7 0) o1.2.1, wEV g a1 nw, wEV g a2 kp, wEV g a3 dr, wSH g a4 sh, wTP g a5 tp, wLW g a6 o1.2.2.1, wSE g a7 o1.2.2.2, wRM g am none (some (u 0)) o2.2.1, wRM g u none none r8] _ _ := hw
        refine lv_icmp_eq (tgt := 1985) hx hb dL_law_1284 (by decide) (fun _ => ?_) (fun z => absurd heq z)
        refine W.widen (k := cells + 37) (n := slots + 2859) (by first | omega | exact Nat.add_le_add_left (Nat.le_of_ble_eq_true rfl) _) (by first | omega | exact Nat.add_le_add_left (Nat.le_of_ble_eq_true rfl) _) ?_
        exact next _ _ _ _ _ _ _ _ _ _ _ hI2 a0 a1 a2 a3 a4 a5 a6 a7 am aK u _ _ _ hw hl
    | some r9 =>
      have hw : gW g (fun q : Nat => s.heap.size ≤ q) s.heap [wRO g a0 (a1 0) (a2 0) (a3 0) (a4 0) (a5 0) (a6 0) (a7 0) o1.2.1, wEV g a1 nw, wEV g a2 kp, wEV g a3 dr, wSH g a4 sh, wTP g a5 tp, wLW g a6 o1.2.2.1, wSE g a7 o1.2.2.2, wRM g am (some (aK 0)) none rm, wRM g aK none none r9] _ _ := hw
      refine g_calli (isC := [8]) (gn := fun u => gputs [wRO g a0 (a1 0) (a2 0) (a3 0) (a4 0) (a5 0) (a6 0) (a7 0) o1.2.1, wEV g a1 nw, wEV g a2 kp, wEV g a3 dr, wSH g a4 sh, wTP g a5 tp, wLW g a6 o1.2.2.1, wSE g a7 o1.2.2.2, wRM g am (some (aK 0)) none rm, wRM g aK none none r9] [8] (oT g am (some (aK 0)) o2.2.1 u o2.2.2)) (g_runV (isC := [8]) (rest := [.int o1.1]) (As := [.int (xs (x3 + 1).toNatClampNeg)]) X hw (c_X6_save_n l (ad := am) (eK := (some (aK 0))) ho2) rfl kM_X6_save ki_X6_save ks_X6_save km_L_143 ⟨(Nat.le_of_ble_eq_true rfl), (Nat.le_of_ble_eq_true rfl)⟩ (law_c hB (by decide) (by decide)) rfl rfl ⟨_, _, _, _, rfl, rfl, rfl, rfl⟩ rfl hl.1 rfl (Nat.le_of_ble_eq_true rfl) dL_law_1281) hw rfl rfl (fun u => by cases o2.2.2 <;> exact Nat.le_of_ble_eq_true rfl) (fun _ => rfl) (fun u H locs hw => ?_)
      cases hn : o2.2.2 with
      | none =>
        rw [hn] at hw hI2
        have hw : gW g (fun q : Nat => s.heap.size ≤ q) s.heap [wRO g a0 (a1 0) (a2 0) (a3 0) (a4 0) (a5 0) (a6 0) (a7 0) o1.2.1, wEV g a1 nw, wEV g a2 kp, wEV g a3 dr, wSH g a4 sh, wTP g a5 tp, wLW g a6 o1.2.2.1, wSE g a7 o1.2.2.2, wRM g am (some (aK 0)) none o2.2.1, wRM g aK none none r9] _ _ := hw
        refine lv_icmp_eq (tgt := 1985) hx hb dL_law_1284 (by decide) (fun _ => ?_) (fun z => absurd heq z)
        refine W.widen (k := cells + 37) (n := slots + 2859) (by first | omega | exact Nat.add_le_add_left (Nat.le_of_ble_eq_true rfl) _) (by first | omega | exact Nat.add_le_add_left (Nat.le_of_ble_eq_true rfl) _) ?_
        exact next _ _ _ _ _ _ _ _ _ _ _ hI2 a0 a1 a2 a3 a4 a5 a6 a7 am aK aT _ _ _ hw hl
      | some r8 =>
        rw [hn] at hw hI2
        have hw : gW g (fun q : Nat => s.heap.size ≤ q) s.heap [wRO g a0 (a1 0) (a2 0) (a3 0) (a4 0) (a5 0) (a6 0) (a7 0) o1.2.1, wEV g a1 nw, wEV g a2 kp, wEV g a3 dr, wSH g a4 sh, wTP g a5 tp, wLW g a6 o1.2.2.1, wSE g a7 o1.2.2.2, wRM g am (some (aK 0)) (some (u 0)) o2.2.1, wRM g aK none none r9, wRM g u none none r8] _ _ := hw
        refine lv_icmp_eq (tgt := 1985) hx hb dL_law_1284 (by decide) (fun _ => ?_) (fun z => absurd heq z)
        refine W.widen (k := cells + 37) (n := slots + 2859) (by first | omega | exact Nat.add_le_add_left (Nat.le_of_ble_eq_true rfl) _) (by first | omega | exact Nat.add_le_add_left (Nat.le_of_ble_eq_true rfl) _) ?_
        exact next _ _ _ _ _ _ _ _ _ _ _ hI2 a0 a1 a2 a3 a4 a5 a6 a7 am aK u _ _ _ hw hl
  | some r =>
    obtain ⟨o2, ho2, heq, hI2⟩ := hS.2 r hT
    subst hT
    cases K with
    | none =>
      have hw : gW g (fun q : Nat => s.heap.size ≤ q) s.heap [wRO g a0 (a1 0) (a2 0) (a3 0) (a4 0) (a5 0) (a6 0) (a7 0) o1.2.1, wEV g a1 nw, wEV g a2 kp, wEV g a3 dr, wSH g a4 sh, wTP g a5 tp, wLW g a6 o1.2.2.1, wSE g a7 o1.2.2.2, wRM g am none (some (aT 0)) rm, wRM g aT none none r] _ _ := hw
      refine g_calli0 (isC := [8, 9]) (gn := fun _ => [wRO g a0 (a1 0) (a2 0) (a3 0) (a4 0) (a5 0) (a6 0) (a7 0) o1.2.1, wEV g a1 nw, wEV g a2 kp, wEV g a3 dr, wSH g a4 sh, wTP g a5 tp, wLW g a6 o1.2.2.1, wSE g a7 o1.2.2.2, wRM g am none (some (aT 0)) o2.2.1, wRM g aT none none o2.2.2]) (g_runV (isC := [8, 9]) (rest := [.int o1.1]) (As := [.int (xs (x3 + 1).toNatClampNeg)]) X hw (c_X6_save_s l (ad := am) (eK := none) (adT := aT) (eK1 := none) (eT1 := none) ho2) rfl kM_X6_save ki_X6_save ks_X6_save km_L_143 ⟨(Nat.le_of_ble_eq_true rfl), (Nat.le_of_ble_eq_true rfl)⟩ (law_c hB (by decide) (by decide)) rfl rfl ⟨_, _, _, _, rfl, rfl, rfl, rfl⟩ rfl hl.1 rfl (Nat.le_of_ble_eq_true rfl) dL_law_1281) hw rfl rfl (fun _ => (Nat.le_of_ble_eq_true rfl)) (fun _ => rfl) rfl rfl (fun _ H locs hw => ?_)
      refine lv_icmp_eq (tgt := 1985) hx hb dL_law_1284 (by decide) (fun _ => ?_) (fun z => absurd heq z)
      refine W.widen (k := cells + 37) (n := slots + 2859) (by first | omega | exact Nat.add_le_add_left (Nat.le_of_ble_eq_true rfl) _) (by first | omega | exact Nat.add_le_add_left (Nat.le_of_ble_eq_true rfl) _) ?_
      exact next _ _ _ _ _ _ _ _ _ _ _ hI2 a0 a1 a2 a3 a4 a5 a6 a7 am aK aT _ _ _ hw hl
    | some r9 =>
      have hw : gW g (fun q : Nat => s.heap.size ≤ q) s.heap [wRO g a0 (a1 0) (a2 0) (a3 0) (a4 0) (a5 0) (a6 0) (a7 0) o1.2.1, wEV g a1 nw, wEV g a2 kp, wEV g a3 dr, wSH g a4 sh, wTP g a5 tp, wLW g a6 o1.2.2.1, wSE g a7 o1.2.2.2, wRM g am (some (aK 0)) (some (aT 0)) rm, wRM g aK none none r9, wRM g aT none none r] _ _ := hw
      refine g_calli0 (isC := [8, 10]) (gn := fun _ => [wRO g a0 (a1 0) (a2 0) (a3 0) (a4 0) (a5 0) (a6 0) (a7 0) o1.2.1, wEV g a1 nw, wEV g a2 kp, wEV g a3 dr, wSH g a4 sh, wTP g a5 tp, wLW g a6 o1.2.2.1, wSE g a7 o1.2.2.2, wRM g am (some (aK 0)) (some (aT 0)) o2.2.1, wRM g aK none none r9, wRM g aT none none o2.2.2]) (g_runV (isC := [8, 10]) (rest := [.int o1.1]) (As := [.int (xs (x3 + 1).toNatClampNeg)]) X hw (c_X6_save_s l (ad := am) (eK := (some (aK 0))) (adT := aT) (eK1 := none) (eT1 := none) ho2) rfl kM_X6_save ki_X6_save ks_X6_save km_L_143 ⟨(Nat.le_of_ble_eq_true rfl), (Nat.le_of_ble_eq_true rfl)⟩ (law_c hB (by decide) (by decide)) rfl rfl ⟨_, _, _, _, rfl, rfl, rfl, rfl⟩ rfl hl.1 rfl (Nat.le_of_ble_eq_true rfl) dL_law_1281) hw rfl rfl (fun _ => (Nat.le_of_ble_eq_true rfl)) (fun _ => rfl) rfl rfl (fun _ H locs hw => ?_)
      refine lv_icmp_eq (tgt := 1985) hx hb dL_law_1284 (by decide) (fun _ => ?_) (fun z => absurd heq z)
      refine W.widen (k := cells + 37) (n := slots + 2859) (by first | omega | exact Nat.add_le_add_left (Nat.le_of_ble_eq_true rfl) _) (by first | omega | exact Nat.add_le_add_left (Nat.le_of_ble_eq_true rfl) _) ?_
      exact next _ _ _ _ _ _ _ _ _ _ _ hI2 a0 a1 a2 a3 a4 a5 a6 a7 am aK aT _ _ _ hw hl
set_option maxHeartbeats 4000000 in
set_option maxRecDepth 100000 in
theorem law_luck (X : gC p s m meth c #[Value.ref b] RL cL_law 4 g (fun q : Nat => s.heap.size ≤ q)) (hX : va_X b L xs s s.heap) (hbl : b < s.heap.size) {I : RO → EV → EV → EV → SH → TP → LW → SE → RM → Option RM → Option RM → Prop} (hS : S_luck I) (hB : cells + 37 ≤ 600000 ∧ slots + 2859 ≤ 7302249) {x3 : Int32} (h1 : vp_in (x3 + 1) L) (h2 : vp_in (x3 + 2) L) (h3 : vp_in (x3 + 3) L) (h4 : vp_in (x3 + 4) L) (h5 : vp_in (x3 + 5) L)
    (next : lawNext p l e s m below meth c b g I Q (cells + 37) (slots + 2859) x3)
    (ro : RO) (nw : EV) (kp : EV) (dr : EV) (sh : SH) (tp : TP) (lw : LW) (se : SE) (rm : RM) (K : Option RM) (T : Option RM) (hI : I ro nw kp dr sh tp lw se rm K T) (a0 a1 a2 a3 a4 a5 a6 a7 am aK aT : Nat → Nat) (H : Heap) (locs : List Loc) (ls : Array Slot) (hw : gW g (fun q : Nat => s.heap.size ≤ q) s.heap (lawW g ro nw kp dr sh tp lw se rm K T a0 a1 a2 a3 a4 a5 a6 a7 am aK aT) H locs) (hl : lv_has ls 4 [(0, .ref b), (1, .ref (a0 0)), (2, .ref (am 0)), (3, .int x3)]) : W p l e room_1 s m #[Value.ref b] below meth c H locs cells slots Q (F0 m 1289 ls []) := by
  have hx := X.1.1
  have hb := X.1.2.1
  have hbA : ¬ (fun q : Nat => s.heap.size ≤ q) b := Nat.not_le.mpr hbl
  refine lv_aload_n hx hb dL_law_1289 rfl (lv_at hl 1 rfl) ?_
  refine lv_aload_n hx hb dL_law_1290 rfl (lv_at hl 0 rfl) ?_
  refine lv_iload_n hx hb dL_law_1291 rfl (lv_at hl 3 rfl) ?_
  refine lv_iconst (v := 1) hx hb dL_law_1292 (by decide) ?_
  refine lv_iadd hx hb dL_law_1293 ?_
  refine va_sld hx hb hX hbl hbA hw.2.2.1 h1 dL_law_1294 ?_
  obtain ⟨o1, ho1, hS⟩ := hS ro nw kp dr sh tp lw se rm K T hI (xs (x3 + 1).toNatClampNeg)
  refine g_calli0 (isC := [0, 1]) (gn := fun _ => ([wRO g a0 (a1 0) (a2 0) (a3 0) (a4 0) (a5 0) (a6 0) (a7 0) o1.2, wEV g a1 nw, wEV g a2 kp, wEV g a3 dr, wSH g a4 sh, wTP g a5 tp, wLW g a6 lw, wSE g a7 se, wRM g am (K.map fun _ => aK 0) (T.map fun _ => aT 0) rm] ++ (oW g aK K ++ oW g aT T))) (g_runV (isC := [0, 1]) (rest := []) (As := [.int (xs (x3 + 1).toNatClampNeg)]) X hw (c_X5_luck l (ad := a0) (adN := a1) (aK := (a2 0)) (aD := (a3 0)) (aS := (a4 0)) (aT := (a5 0)) (aL := (a6 0)) (aE := (a7 0)) ho1) rfl kM_X5_luck ki_X5_luck ks_X5_luck km_L_144 ⟨(Nat.le_of_ble_eq_true rfl), (Nat.le_of_ble_eq_true rfl)⟩ (law_c hB (by decide) (by decide)) rfl rfl ⟨_, _, _, _, rfl, rfl, rfl, rfl⟩ rfl hl.1 rfl (Nat.le_of_ble_eq_true rfl) dL_law_1295) hw rfl rfl (fun _ => (Nat.le_of_ble_eq_true rfl)) (fun _ => (gputs_eq rfl).trans rfl) rfl rfl (fun _ H locs hw => ?_)
  refine lv_aload_n hx hb dL_law_1298 rfl (lv_at hl 2 rfl) ?_
  refine lv_aload_n hx hb dL_law_1299 rfl (lv_at hl 0 rfl) ?_
  refine lv_iload_n hx hb dL_law_1300 rfl (lv_at hl 3 rfl) ?_
  refine lv_iconst (v := 1) hx hb dL_law_1301 (by decide) ?_
  refine lv_iadd hx hb dL_law_1302 ?_
  refine va_sld hx hb hX hbl hbA hw.2.2.1 h1 dL_law_1303 ?_
  obtain ⟨o2, ho2, heq, hI⟩ := hS
  refine g_calli0 (isC := [8]) (gn := fun _ => ([wRO g a0 (a1 0) (a2 0) (a3 0) (a4 0) (a5 0) (a6 0) (a7 0) o1.2, wEV g a1 nw, wEV g a2 kp, wEV g a3 dr, wSH g a4 sh, wTP g a5 tp, wLW g a6 lw, wSE g a7 se, wRM g am (K.map fun _ => aK 0) (T.map fun _ => aT 0) o2.2] ++ (oW g aK K ++ oW g aT T))) (g_runV (isC := [8]) (rest := [.int o1.1]) (As := [.int (xs (x3 + 1).toNatClampNeg)]) X hw (c_X6_luck l (ad := am) (eK := (K.map fun _ => aK 0)) (eT := (T.map fun _ => aT 0)) ho2) rfl kM_X6_luck ki_X6_luck ks_X6_luck km_L_147 ⟨(Nat.le_of_ble_eq_true rfl), (Nat.le_of_ble_eq_true rfl)⟩ (law_c hB (by decide) (by decide)) rfl rfl ⟨_, _, _, _, rfl, rfl, rfl, rfl⟩ rfl hl.1 rfl (Nat.le_of_ble_eq_true rfl) dL_law_1304) hw rfl rfl (fun _ => (Nat.le_of_ble_eq_true rfl)) (fun _ => (gputs_eq rfl).trans rfl) rfl rfl (fun _ H locs hw => ?_)
  refine lv_icmp_eq (tgt := 1985) hx hb dL_law_1307 (by decide) (fun _ => ?_) (fun z => absurd heq z)
  refine W.widen (k := cells + 37) (n := slots + 2859) (by first | omega | exact Nat.add_le_add_left (Nat.le_of_ble_eq_true rfl) _) (by first | omega | exact Nat.add_le_add_left (Nat.le_of_ble_eq_true rfl) _) ?_
  exact next _ _ _ _ _ _ _ _ _ _ _ hI a0 a1 a2 a3 a4 a5 a6 a7 am aK aT _ _ _ hw hl
set_option maxHeartbeats 4000000 in
set_option maxRecDepth 100000 in
theorem law_time (X : gC p s m meth c #[Value.ref b] RL cL_law 4 g (fun q : Nat => s.heap.size ≤ q)) (hX : va_X b L xs s s.heap) (hbl : b < s.heap.size) {I : RO → EV → EV → EV → SH → TP → LW → SE → RM → Option RM → Option RM → Prop} (hS : S_time I) (hB : cells + 37 ≤ 600000 ∧ slots + 2859 ≤ 7302249) {x3 : Int32} (h1 : vp_in (x3 + 1) L) (h2 : vp_in (x3 + 2) L) (h3 : vp_in (x3 + 3) L) (h4 : vp_in (x3 + 4) L) (h5 : vp_in (x3 + 5) L)
    (next : lawNext p l e s m below meth c b g I Q (cells + 37) (slots + 2859) x3)
    (ro : RO) (nw : EV) (kp : EV) (dr : EV) (sh : SH) (tp : TP) (lw : LW) (se : SE) (rm : RM) (K : Option RM) (T : Option RM) (hI : I ro nw kp dr sh tp lw se rm K T) (a0 a1 a2 a3 a4 a5 a6 a7 am aK aT : Nat → Nat) (H : Heap) (locs : List Loc) (ls : Array Slot) (hw : gW g (fun q : Nat => s.heap.size ≤ q) s.heap (lawW g ro nw kp dr sh tp lw se rm K T a0 a1 a2 a3 a4 a5 a6 a7 am aK aT) H locs) (hl : lv_has ls 4 [(0, .ref b), (1, .ref (a0 0)), (2, .ref (am 0)), (3, .int x3)]) : W p l e room_1 s m #[Value.ref b] below meth c H locs cells slots Q (F0 m 1312 ls []) := by
  have hx := X.1.1
  have hb := X.1.2.1
  have hbA : ¬ (fun q : Nat => s.heap.size ≤ q) b := Nat.not_le.mpr hbl
  refine lv_aload_n hx hb dL_law_1312 rfl (lv_at hl 1 rfl) ?_
  refine lv_aload_n hx hb dL_law_1313 rfl (lv_at hl 0 rfl) ?_
  refine lv_iload_n hx hb dL_law_1314 rfl (lv_at hl 3 rfl) ?_
  refine lv_iconst (v := 1) hx hb dL_law_1315 (by decide) ?_
  refine lv_iadd hx hb dL_law_1316 ?_
  refine va_sld hx hb hX hbl hbA hw.2.2.1 h1 dL_law_1317 ?_
  refine lv_aload_n hx hb dL_law_1318 rfl (lv_at hl 0 rfl) ?_
  refine lv_iload_n hx hb dL_law_1319 rfl (lv_at hl 3 rfl) ?_
  refine lv_iconst (v := 2) hx hb dL_law_1320 (by decide) ?_
  refine lv_iadd hx hb dL_law_1321 ?_
  refine va_sld hx hb hX hbl hbA hw.2.2.1 h2 dL_law_1322 ?_
  obtain ⟨o1, ho1, hS⟩ := hS ro nw kp dr sh tp lw se rm K T hI (xs (x3 + 1).toNatClampNeg) (xs (x3 + 2).toNatClampNeg)
  refine g_calli0 (isC := [0, 1, 6, 7]) (gn := fun _ => ([wRO g a0 (a1 0) (a2 0) (a3 0) (a4 0) (a5 0) (a6 0) (a7 0) o1.2.1, wEV g a1 nw, wEV g a2 kp, wEV g a3 dr, wSH g a4 sh, wTP g a5 tp, wLW g a6 o1.2.2.1, wSE g a7 o1.2.2.2, wRM g am (K.map fun _ => aK 0) (T.map fun _ => aT 0) rm] ++ (oW g aK K ++ oW g aT T))) (g_runV (isC := [0, 1, 6, 7]) (rest := []) (As := [.int (xs (x3 + 1).toNatClampNeg), .int (xs (x3 + 2).toNatClampNeg)]) X hw (c_X5_time l (ad := a0) (adN := a1) (adL := a6) (adE := a7) (aK := (a2 0)) (aD := (a3 0)) (aS := (a4 0)) (aT := (a5 0)) ho1) rfl kM_X5_time ki_X5_time ks_X5_time km_L_148 ⟨(Nat.le_of_ble_eq_true rfl), (Nat.le_of_ble_eq_true rfl)⟩ (law_c hB (by decide) (by decide)) rfl rfl ⟨_, _, _, _, rfl, rfl, rfl, rfl⟩ rfl hl.1 rfl (Nat.le_of_ble_eq_true rfl) dL_law_1323) hw rfl rfl (fun _ => (Nat.le_of_ble_eq_true rfl)) (fun _ => (gputs_eq rfl).trans rfl) rfl rfl (fun _ H locs hw => ?_)
  refine lv_aload_n hx hb dL_law_1326 rfl (lv_at hl 2 rfl) ?_
  refine lv_aload_n hx hb dL_law_1327 rfl (lv_at hl 0 rfl) ?_
  refine lv_iload_n hx hb dL_law_1328 rfl (lv_at hl 3 rfl) ?_
  refine lv_iconst (v := 1) hx hb dL_law_1329 (by decide) ?_
  refine lv_iadd hx hb dL_law_1330 ?_
  refine va_sld hx hb hX hbl hbA hw.2.2.1 h1 dL_law_1331 ?_
  refine lv_aload_n hx hb dL_law_1332 rfl (lv_at hl 0 rfl) ?_
  refine lv_iload_n hx hb dL_law_1333 rfl (lv_at hl 3 rfl) ?_
  refine lv_iconst (v := 2) hx hb dL_law_1334 (by decide) ?_
  refine lv_iadd hx hb dL_law_1335 ?_
  refine va_sld hx hb hX hbl hbA hw.2.2.1 h2 dL_law_1336 ?_
  obtain ⟨o2, ho2, heq, hI⟩ := hS
  refine g_calli0 (isC := [8]) (gn := fun _ => ([wRO g a0 (a1 0) (a2 0) (a3 0) (a4 0) (a5 0) (a6 0) (a7 0) o1.2.1, wEV g a1 nw, wEV g a2 kp, wEV g a3 dr, wSH g a4 sh, wTP g a5 tp, wLW g a6 o1.2.2.1, wSE g a7 o1.2.2.2, wRM g am (K.map fun _ => aK 0) (T.map fun _ => aT 0) o2.2] ++ (oW g aK K ++ oW g aT T))) (g_runV (isC := [8]) (rest := [.int o1.1]) (As := [.int (xs (x3 + 1).toNatClampNeg), .int (xs (x3 + 2).toNatClampNeg)]) X hw (c_X6_time l (ad := am) (eK := (K.map fun _ => aK 0)) (eT := (T.map fun _ => aT 0)) ho2) rfl kM_X6_time ki_X6_time ks_X6_time km_L_151 ⟨(Nat.le_of_ble_eq_true rfl), (Nat.le_of_ble_eq_true rfl)⟩ (law_c hB (by decide) (by decide)) rfl rfl ⟨_, _, _, _, rfl, rfl, rfl, rfl⟩ rfl hl.1 rfl (Nat.le_of_ble_eq_true rfl) dL_law_1337) hw rfl rfl (fun _ => (Nat.le_of_ble_eq_true rfl)) (fun _ => (gputs_eq rfl).trans rfl) rfl rfl (fun _ H locs hw => ?_)
  refine lv_icmp_eq (tgt := 1985) hx hb dL_law_1340 (by decide) (fun _ => ?_) (fun z => absurd heq z)
  refine W.widen (k := cells + 37) (n := slots + 2859) (by first | omega | exact Nat.add_le_add_left (Nat.le_of_ble_eq_true rfl) _) (by first | omega | exact Nat.add_le_add_left (Nat.le_of_ble_eq_true rfl) _) ?_
  exact next _ _ _ _ _ _ _ _ _ _ _ hI a0 a1 a2 a3 a4 a5 a6 a7 am aK aT _ _ _ hw hl
set_option maxHeartbeats 4000000 in
set_option maxRecDepth 100000 in
theorem law_bell (X : gC p s m meth c #[Value.ref b] RL cL_law 4 g (fun q : Nat => s.heap.size ≤ q)) (hX : va_X b L xs s s.heap) (hbl : b < s.heap.size) {I : RO → EV → EV → EV → SH → TP → LW → SE → RM → Option RM → Option RM → Prop} (hS : S_bell I) (hB : cells + 37 ≤ 600000 ∧ slots + 2859 ≤ 7302249) {x3 : Int32} (h1 : vp_in (x3 + 1) L) (h2 : vp_in (x3 + 2) L) (h3 : vp_in (x3 + 3) L) (h4 : vp_in (x3 + 4) L) (h5 : vp_in (x3 + 5) L)
    (next : lawNext p l e s m below meth c b g I Q (cells + 37) (slots + 2859) x3)
    (ro : RO) (nw : EV) (kp : EV) (dr : EV) (sh : SH) (tp : TP) (lw : LW) (se : SE) (rm : RM) (K : Option RM) (T : Option RM) (hI : I ro nw kp dr sh tp lw se rm K T) (a0 a1 a2 a3 a4 a5 a6 a7 am aK aT : Nat → Nat) (H : Heap) (locs : List Loc) (ls : Array Slot) (hw : gW g (fun q : Nat => s.heap.size ≤ q) s.heap (lawW g ro nw kp dr sh tp lw se rm K T a0 a1 a2 a3 a4 a5 a6 a7 am aK aT) H locs) (hl : lv_has ls 4 [(0, .ref b), (1, .ref (a0 0)), (2, .ref (am 0)), (3, .int x3)]) : W p l e room_1 s m #[Value.ref b] below meth c H locs cells slots Q (F0 m 1345 ls []) := by
  have hx := X.1.1
  have hb := X.1.2.1
  have hbA : ¬ (fun q : Nat => s.heap.size ≤ q) b := Nat.not_le.mpr hbl
  refine lv_aload_n hx hb dL_law_1345 rfl (lv_at hl 1 rfl) ?_
  refine lv_aload_n hx hb dL_law_1346 rfl (lv_at hl 0 rfl) ?_
  refine lv_iload_n hx hb dL_law_1347 rfl (lv_at hl 3 rfl) ?_
  refine lv_iconst (v := 1) hx hb dL_law_1348 (by decide) ?_
  refine lv_iadd hx hb dL_law_1349 ?_
  refine va_sld hx hb hX hbl hbA hw.2.2.1 h1 dL_law_1350 ?_
  refine lv_aload_n hx hb dL_law_1351 rfl (lv_at hl 0 rfl) ?_
  refine lv_iload_n hx hb dL_law_1352 rfl (lv_at hl 3 rfl) ?_
  refine lv_iconst (v := 2) hx hb dL_law_1353 (by decide) ?_
  refine lv_iadd hx hb dL_law_1354 ?_
  refine va_sld hx hb hX hbl hbA hw.2.2.1 h2 dL_law_1355 ?_
  refine lv_aload_n hx hb dL_law_1356 rfl (lv_at hl 0 rfl) ?_
  refine lv_iload_n hx hb dL_law_1357 rfl (lv_at hl 3 rfl) ?_
  refine lv_iconst (v := 3) hx hb dL_law_1358 (by decide) ?_
  refine lv_iadd hx hb dL_law_1359 ?_
  refine va_sld hx hb hX hbl hbA hw.2.2.1 h3 dL_law_1360 ?_
  obtain ⟨o1, ho1, hS⟩ := hS ro nw kp dr sh tp lw se rm K T hI (xs (x3 + 1).toNatClampNeg) (xs (x3 + 2).toNatClampNeg) (xs (x3 + 3).toNatClampNeg)
  refine g_calli0 (isC := [0, 1, 6, 7]) (gn := fun _ => ([wRO g a0 (a1 0) (a2 0) (a3 0) (a4 0) (a5 0) (a6 0) (a7 0) o1.2.1, wEV g a1 nw, wEV g a2 kp, wEV g a3 dr, wSH g a4 sh, wTP g a5 tp, wLW g a6 o1.2.2.1, wSE g a7 o1.2.2.2, wRM g am (K.map fun _ => aK 0) (T.map fun _ => aT 0) rm] ++ (oW g aK K ++ oW g aT T))) (g_runV (isC := [0, 1, 6, 7]) (rest := []) (As := [.int (xs (x3 + 1).toNatClampNeg), .int (xs (x3 + 2).toNatClampNeg), .int (xs (x3 + 3).toNatClampNeg)]) X hw (c_X5_bell l (ad := a0) (adN := a1) (adL := a6) (adE := a7) (aK := (a2 0)) (aD := (a3 0)) (aS := (a4 0)) (aT := (a5 0)) ho1) rfl kM_X5_bell ki_X5_bell ks_X5_bell km_L_152 ⟨(Nat.le_of_ble_eq_true rfl), (Nat.le_of_ble_eq_true rfl)⟩ (law_c hB (by decide) (by decide)) rfl rfl ⟨_, _, _, _, rfl, rfl, rfl, rfl⟩ rfl hl.1 rfl (Nat.le_of_ble_eq_true rfl) dL_law_1361) hw rfl rfl (fun _ => (Nat.le_of_ble_eq_true rfl)) (fun _ => (gputs_eq rfl).trans rfl) rfl rfl (fun _ H locs hw => ?_)
  refine lv_aload_n hx hb dL_law_1364 rfl (lv_at hl 2 rfl) ?_
  refine lv_aload_n hx hb dL_law_1365 rfl (lv_at hl 0 rfl) ?_
  refine lv_iload_n hx hb dL_law_1366 rfl (lv_at hl 3 rfl) ?_
  refine lv_iconst (v := 1) hx hb dL_law_1367 (by decide) ?_
  refine lv_iadd hx hb dL_law_1368 ?_
  refine va_sld hx hb hX hbl hbA hw.2.2.1 h1 dL_law_1369 ?_
  refine lv_aload_n hx hb dL_law_1370 rfl (lv_at hl 0 rfl) ?_
  refine lv_iload_n hx hb dL_law_1371 rfl (lv_at hl 3 rfl) ?_
  refine lv_iconst (v := 2) hx hb dL_law_1372 (by decide) ?_
  refine lv_iadd hx hb dL_law_1373 ?_
  refine va_sld hx hb hX hbl hbA hw.2.2.1 h2 dL_law_1374 ?_
  refine lv_aload_n hx hb dL_law_1375 rfl (lv_at hl 0 rfl) ?_
  refine lv_iload_n hx hb dL_law_1376 rfl (lv_at hl 3 rfl) ?_
  refine lv_iconst (v := 3) hx hb dL_law_1377 (by decide) ?_
  refine lv_iadd hx hb dL_law_1378 ?_
  refine va_sld hx hb hX hbl hbA hw.2.2.1 h3 dL_law_1379 ?_
  obtain ⟨o2, ho2, heq, hI⟩ := hS
  refine g_calli0 (isC := [8]) (gn := fun _ => ([wRO g a0 (a1 0) (a2 0) (a3 0) (a4 0) (a5 0) (a6 0) (a7 0) o1.2.1, wEV g a1 nw, wEV g a2 kp, wEV g a3 dr, wSH g a4 sh, wTP g a5 tp, wLW g a6 o1.2.2.1, wSE g a7 o1.2.2.2, wRM g am (K.map fun _ => aK 0) (T.map fun _ => aT 0) o2.2] ++ (oW g aK K ++ oW g aT T))) (g_runV (isC := [8]) (rest := [.int o1.1]) (As := [.int (xs (x3 + 1).toNatClampNeg), .int (xs (x3 + 2).toNatClampNeg), .int (xs (x3 + 3).toNatClampNeg)]) X hw (c_X6_bell l (ad := am) (eK := (K.map fun _ => aK 0)) (eT := (T.map fun _ => aT 0)) ho2) rfl kM_X6_bell ki_X6_bell ks_X6_bell km_L_155 ⟨(Nat.le_of_ble_eq_true rfl), (Nat.le_of_ble_eq_true rfl)⟩ (law_c hB (by decide) (by decide)) rfl rfl ⟨_, _, _, _, rfl, rfl, rfl, rfl⟩ rfl hl.1 rfl (Nat.le_of_ble_eq_true rfl) dL_law_1380) hw rfl rfl (fun _ => (Nat.le_of_ble_eq_true rfl)) (fun _ => (gputs_eq rfl).trans rfl) rfl rfl (fun _ H locs hw => ?_)
  refine lv_icmp_eq (tgt := 1985) hx hb dL_law_1383 (by decide) (fun _ => ?_) (fun z => absurd heq z)
  refine W.widen (k := cells + 37) (n := slots + 2859) (by first | omega | exact Nat.add_le_add_left (Nat.le_of_ble_eq_true rfl) _) (by first | omega | exact Nat.add_le_add_left (Nat.le_of_ble_eq_true rfl) _) ?_
  exact next _ _ _ _ _ _ _ _ _ _ _ hI a0 a1 a2 a3 a4 a5 a6 a7 am aK aT _ _ _ hw hl
set_option maxHeartbeats 4000000 in
set_option maxRecDepth 100000 in
theorem law_lock (X : gC p s m meth c #[Value.ref b] RL cL_law 4 g (fun q : Nat => s.heap.size ≤ q)) (hX : va_X b L xs s s.heap) (hbl : b < s.heap.size) {I : RO → EV → EV → EV → SH → TP → LW → SE → RM → Option RM → Option RM → Prop} (hS : S_lock I) (hB : cells + 37 ≤ 600000 ∧ slots + 2859 ≤ 7302249) {x3 : Int32} (h1 : vp_in (x3 + 1) L) (h2 : vp_in (x3 + 2) L) (h3 : vp_in (x3 + 3) L) (h4 : vp_in (x3 + 4) L) (h5 : vp_in (x3 + 5) L)
    (next : lawNext p l e s m below meth c b g I Q (cells + 37) (slots + 2859) x3)
    (ro : RO) (nw : EV) (kp : EV) (dr : EV) (sh : SH) (tp : TP) (lw : LW) (se : SE) (rm : RM) (K : Option RM) (T : Option RM) (hI : I ro nw kp dr sh tp lw se rm K T) (a0 a1 a2 a3 a4 a5 a6 a7 am aK aT : Nat → Nat) (H : Heap) (locs : List Loc) (ls : Array Slot) (hw : gW g (fun q : Nat => s.heap.size ≤ q) s.heap (lawW g ro nw kp dr sh tp lw se rm K T a0 a1 a2 a3 a4 a5 a6 a7 am aK aT) H locs) (hl : lv_has ls 4 [(0, .ref b), (1, .ref (a0 0)), (2, .ref (am 0)), (3, .int x3)]) : W p l e room_1 s m #[Value.ref b] below meth c H locs cells slots Q (F0 m 1388 ls []) := by
  have hx := X.1.1
  have hb := X.1.2.1
  have hbA : ¬ (fun q : Nat => s.heap.size ≤ q) b := Nat.not_le.mpr hbl
  refine lv_aload_n hx hb dL_law_1388 rfl (lv_at hl 1 rfl) ?_
  refine lv_aload_n hx hb dL_law_1389 rfl (lv_at hl 0 rfl) ?_
  refine lv_iload_n hx hb dL_law_1390 rfl (lv_at hl 3 rfl) ?_
  refine lv_iconst (v := 1) hx hb dL_law_1391 (by decide) ?_
  refine lv_iadd hx hb dL_law_1392 ?_
  refine va_sld hx hb hX hbl hbA hw.2.2.1 h1 dL_law_1393 ?_
  obtain ⟨o1, ho1, hS⟩ := hS ro nw kp dr sh tp lw se rm K T hI (xs (x3 + 1).toNatClampNeg)
  refine g_calli0 (isC := [0, 1]) (gn := fun _ => ([wRO g a0 (a1 0) (a2 0) (a3 0) (a4 0) (a5 0) (a6 0) (a7 0) o1.2, wEV g a1 nw, wEV g a2 kp, wEV g a3 dr, wSH g a4 sh, wTP g a5 tp, wLW g a6 lw, wSE g a7 se, wRM g am (K.map fun _ => aK 0) (T.map fun _ => aT 0) rm] ++ (oW g aK K ++ oW g aT T))) (g_runV (isC := [0, 1]) (rest := []) (As := [.int (xs (x3 + 1).toNatClampNeg)]) X hw (c_X5_lock l (ad := a0) (adN := a1) (aK := (a2 0)) (aD := (a3 0)) (aS := (a4 0)) (aT := (a5 0)) (aL := (a6 0)) (aE := (a7 0)) ho1) rfl kM_X5_lock ki_X5_lock ks_X5_lock km_L_156 ⟨(Nat.le_of_ble_eq_true rfl), (Nat.le_of_ble_eq_true rfl)⟩ (law_c hB (by decide) (by decide)) rfl rfl ⟨_, _, _, _, rfl, rfl, rfl, rfl⟩ rfl hl.1 rfl (Nat.le_of_ble_eq_true rfl) dL_law_1394) hw rfl rfl (fun _ => (Nat.le_of_ble_eq_true rfl)) (fun _ => (gputs_eq rfl).trans rfl) rfl rfl (fun _ H locs hw => ?_)
  refine lv_aload_n hx hb dL_law_1397 rfl (lv_at hl 2 rfl) ?_
  refine lv_aload_n hx hb dL_law_1398 rfl (lv_at hl 0 rfl) ?_
  refine lv_iload_n hx hb dL_law_1399 rfl (lv_at hl 3 rfl) ?_
  refine lv_iconst (v := 1) hx hb dL_law_1400 (by decide) ?_
  refine lv_iadd hx hb dL_law_1401 ?_
  refine va_sld hx hb hX hbl hbA hw.2.2.1 h1 dL_law_1402 ?_
  cases hT : T with
  | none =>
    obtain ⟨o2, ho2, heq, hI2⟩ := hS.1 hT
    subst hT
    cases K with
    | none =>
      have hw : gW g (fun q : Nat => s.heap.size ≤ q) s.heap [wRO g a0 (a1 0) (a2 0) (a3 0) (a4 0) (a5 0) (a6 0) (a7 0) o1.2, wEV g a1 nw, wEV g a2 kp, wEV g a3 dr, wSH g a4 sh, wTP g a5 tp, wLW g a6 lw, wSE g a7 se, wRM g am none none rm] _ _ := hw
      refine g_calli (isC := [8]) (gn := fun u => gputs [wRO g a0 (a1 0) (a2 0) (a3 0) (a4 0) (a5 0) (a6 0) (a7 0) o1.2, wEV g a1 nw, wEV g a2 kp, wEV g a3 dr, wSH g a4 sh, wTP g a5 tp, wLW g a6 lw, wSE g a7 se, wRM g am none none rm] [8] (oT g am none o2.2.1 u o2.2.2)) (g_runV (isC := [8]) (rest := [.int o1.1]) (As := [.int (xs (x3 + 1).toNatClampNeg)]) X hw (c_X6_lock_n l (ad := am) (eK := none) ho2) rfl kM_X6_lock ki_X6_lock ks_X6_lock km_L_159 ⟨(Nat.le_of_ble_eq_true rfl), (Nat.le_of_ble_eq_true rfl)⟩ (law_c hB (by decide) (by decide)) rfl rfl ⟨_, _, _, _, rfl, rfl, rfl, rfl⟩ rfl hl.1 rfl (Nat.le_of_ble_eq_true rfl) dL_law_1403) hw rfl rfl (fun u => by cases o2.2.2 <;> exact Nat.le_of_ble_eq_true rfl) (fun _ => rfl) (fun u H locs hw => ?_)
      cases hn : o2.2.2 with
      | none =>
        rw [hn] at hw hI2
        have hw : gW g (fun q : Nat => s.heap.size ≤ q) s.heap [wRO g a0 (a1 0) (a2 0) (a3 0) (a4 0) (a5 0) (a6 0) (a7 0) o1.2, wEV g a1 nw, wEV g a2 kp, wEV g a3 dr, wSH g a4 sh, wTP g a5 tp, wLW g a6 lw, wSE g a7 se, wRM g am none none o2.2.1] _ _ := hw
        refine lv_icmp_eq (tgt := 1985) hx hb dL_law_1406 (by decide) (fun _ => ?_) (fun z => absurd heq z)
        refine W.widen (k := cells + 37) (n := slots + 2859) (by first | omega | exact Nat.add_le_add_left (Nat.le_of_ble_eq_true rfl) _) (by first | omega | exact Nat.add_le_add_left (Nat.le_of_ble_eq_true rfl) _) ?_
        exact next _ _ _ _ _ _ _ _ _ _ _ hI2 a0 a1 a2 a3 a4 a5 a6 a7 am aK aT _ _ _ hw hl
      | some r8 =>
        rw [hn] at hw hI2
        have hw : gW g (fun q : Nat => s.heap.size ≤ q) s.heap [wRO g a0 (a1 0) (a2 0) (a3 0) (a4 0) (a5 0) (a6 0) (a7 0) o1.2, wEV g a1 nw, wEV g a2 kp, wEV g a3 dr, wSH g a4 sh, wTP g a5 tp, wLW g a6 lw, wSE g a7 se, wRM g am none (some (u 0)) o2.2.1, wRM g u none none r8] _ _ := hw
        refine lv_icmp_eq (tgt := 1985) hx hb dL_law_1406 (by decide) (fun _ => ?_) (fun z => absurd heq z)
        refine W.widen (k := cells + 37) (n := slots + 2859) (by first | omega | exact Nat.add_le_add_left (Nat.le_of_ble_eq_true rfl) _) (by first | omega | exact Nat.add_le_add_left (Nat.le_of_ble_eq_true rfl) _) ?_
        exact next _ _ _ _ _ _ _ _ _ _ _ hI2 a0 a1 a2 a3 a4 a5 a6 a7 am aK u _ _ _ hw hl
    | some r9 =>
      have hw : gW g (fun q : Nat => s.heap.size ≤ q) s.heap [wRO g a0 (a1 0) (a2 0) (a3 0) (a4 0) (a5 0) (a6 0) (a7 0) o1.2, wEV g a1 nw, wEV g a2 kp, wEV g a3 dr, wSH g a4 sh, wTP g a5 tp, wLW g a6 lw, wSE g a7 se, wRM g am (some (aK 0)) none rm, wRM g aK none none r9] _ _ := hw
      refine g_calli (isC := [8]) (gn := fun u => gputs [wRO g a0 (a1 0) (a2 0) (a3 0) (a4 0) (a5 0) (a6 0) (a7 0) o1.2, wEV g a1 nw, wEV g a2 kp, wEV g a3 dr, wSH g a4 sh, wTP g a5 tp, wLW g a6 lw, wSE g a7 se, wRM g am (some (aK 0)) none rm, wRM g aK none none r9] [8] (oT g am (some (aK 0)) o2.2.1 u o2.2.2)) (g_runV (isC := [8]) (rest := [.int o1.1]) (As := [.int (xs (x3 + 1).toNatClampNeg)]) X hw (c_X6_lock_n l (ad := am) (eK := (some (aK 0))) ho2) rfl kM_X6_lock ki_X6_lock ks_X6_lock km_L_159 ⟨(Nat.le_of_ble_eq_true rfl), (Nat.le_of_ble_eq_true rfl)⟩ (law_c hB (by decide) (by decide)) rfl rfl ⟨_, _, _, _, rfl, rfl, rfl, rfl⟩ rfl hl.1 rfl (Nat.le_of_ble_eq_true rfl) dL_law_1403) hw rfl rfl (fun u => by cases o2.2.2 <;> exact Nat.le_of_ble_eq_true rfl) (fun _ => rfl) (fun u H locs hw => ?_)
      cases hn : o2.2.2 with
      | none =>
        rw [hn] at hw hI2
        have hw : gW g (fun q : Nat => s.heap.size ≤ q) s.heap [wRO g a0 (a1 0) (a2 0) (a3 0) (a4 0) (a5 0) (a6 0) (a7 0) o1.2, wEV g a1 nw, wEV g a2 kp, wEV g a3 dr, wSH g a4 sh, wTP g a5 tp, wLW g a6 lw, wSE g a7 se, wRM g am (some (aK 0)) none o2.2.1, wRM g aK none none r9] _ _ := hw
        refine lv_icmp_eq (tgt := 1985) hx hb dL_law_1406 (by decide) (fun _ => ?_) (fun z => absurd heq z)
        refine W.widen (k := cells + 37) (n := slots + 2859) (by first | omega | exact Nat.add_le_add_left (Nat.le_of_ble_eq_true rfl) _) (by first | omega | exact Nat.add_le_add_left (Nat.le_of_ble_eq_true rfl) _) ?_
        exact next _ _ _ _ _ _ _ _ _ _ _ hI2 a0 a1 a2 a3 a4 a5 a6 a7 am aK aT _ _ _ hw hl
      | some r8 =>
        rw [hn] at hw hI2
        have hw : gW g (fun q : Nat => s.heap.size ≤ q) s.heap [wRO g a0 (a1 0) (a2 0) (a3 0) (a4 0) (a5 0) (a6 0) (a7 0) o1.2, wEV g a1 nw, wEV g a2 kp, wEV g a3 dr, wSH g a4 sh, wTP g a5 tp, wLW g a6 lw, wSE g a7 se, wRM g am (some (aK 0)) (some (u 0)) o2.2.1, wRM g aK none none r9, wRM g u none none r8] _ _ := hw
        refine lv_icmp_eq (tgt := 1985) hx hb dL_law_1406 (by decide) (fun _ => ?_) (fun z => absurd heq z)
        refine W.widen (k := cells + 37) (n := slots + 2859) (by first | omega | exact Nat.add_le_add_left (Nat.le_of_ble_eq_true rfl) _) (by first | omega | exact Nat.add_le_add_left (Nat.le_of_ble_eq_true rfl) _) ?_
        exact next _ _ _ _ _ _ _ _ _ _ _ hI2 a0 a1 a2 a3 a4 a5 a6 a7 am aK u _ _ _ hw hl
  | some r =>
    obtain ⟨o2, ho2, heq, hI2⟩ := hS.2 r hT
    subst hT
    cases K with
    | none =>
      have hw : gW g (fun q : Nat => s.heap.size ≤ q) s.heap [wRO g a0 (a1 0) (a2 0) (a3 0) (a4 0) (a5 0) (a6 0) (a7 0) o1.2, wEV g a1 nw, wEV g a2 kp, wEV g a3 dr, wSH g a4 sh, wTP g a5 tp, wLW g a6 lw, wSE g a7 se, wRM g am none (some (aT 0)) rm, wRM g aT none none r] _ _ := hw
      refine g_calli0 (isC := [8, 9]) (gn := fun _ => [wRO g a0 (a1 0) (a2 0) (a3 0) (a4 0) (a5 0) (a6 0) (a7 0) o1.2, wEV g a1 nw, wEV g a2 kp, wEV g a3 dr, wSH g a4 sh, wTP g a5 tp, wLW g a6 lw, wSE g a7 se, wRM g am none (some (aT 0)) o2.2.1, wRM g aT none none o2.2.2]) (g_runV (isC := [8, 9]) (rest := [.int o1.1]) (As := [.int (xs (x3 + 1).toNatClampNeg)]) X hw (c_X6_lock_s l (ad := am) (eK := none) (adT := aT) (eK1 := none) (eT1 := none) ho2) rfl kM_X6_lock ki_X6_lock ks_X6_lock km_L_159 ⟨(Nat.le_of_ble_eq_true rfl), (Nat.le_of_ble_eq_true rfl)⟩ (law_c hB (by decide) (by decide)) rfl rfl ⟨_, _, _, _, rfl, rfl, rfl, rfl⟩ rfl hl.1 rfl (Nat.le_of_ble_eq_true rfl) dL_law_1403) hw rfl rfl (fun _ => (Nat.le_of_ble_eq_true rfl)) (fun _ => rfl) rfl rfl (fun _ H locs hw => ?_)
      refine lv_icmp_eq (tgt := 1985) hx hb dL_law_1406 (by decide) (fun _ => ?_) (fun z => absurd heq z)
      refine W.widen (k := cells + 37) (n := slots + 2859) (by first | omega | exact Nat.add_le_add_left (Nat.le_of_ble_eq_true rfl) _) (by first | omega | exact Nat.add_le_add_left (Nat.le_of_ble_eq_true rfl) _) ?_
      exact next _ _ _ _ _ _ _ _ _ _ _ hI2 a0 a1 a2 a3 a4 a5 a6 a7 am aK aT _ _ _ hw hl
    | some r9 =>
      have hw : gW g (fun q : Nat => s.heap.size ≤ q) s.heap [wRO g a0 (a1 0) (a2 0) (a3 0) (a4 0) (a5 0) (a6 0) (a7 0) o1.2, wEV g a1 nw, wEV g a2 kp, wEV g a3 dr, wSH g a4 sh, wTP g a5 tp, wLW g a6 lw, wSE g a7 se, wRM g am (some (aK 0)) (some (aT 0)) rm, wRM g aK none none r9, wRM g aT none none r] _ _ := hw
      refine g_calli0 (isC := [8, 10]) (gn := fun _ => [wRO g a0 (a1 0) (a2 0) (a3 0) (a4 0) (a5 0) (a6 0) (a7 0) o1.2, wEV g a1 nw, wEV g a2 kp, wEV g a3 dr, wSH g a4 sh, wTP g a5 tp, wLW g a6 lw, wSE g a7 se, wRM g am (some (aK 0)) (some (aT 0)) o2.2.1, wRM g aK none none r9, wRM g aT none none o2.2.2]) (g_runV (isC := [8, 10]) (rest := [.int o1.1]) (As := [.int (xs (x3 + 1).toNatClampNeg)]) X hw (c_X6_lock_s l (ad := am) (eK := (some (aK 0))) (adT := aT) (eK1 := none) (eT1 := none) ho2) rfl kM_X6_lock ki_X6_lock ks_X6_lock km_L_159 ⟨(Nat.le_of_ble_eq_true rfl), (Nat.le_of_ble_eq_true rfl)⟩ (law_c hB (by decide) (by decide)) rfl rfl ⟨_, _, _, _, rfl, rfl, rfl, rfl⟩ rfl hl.1 rfl (Nat.le_of_ble_eq_true rfl) dL_law_1403) hw rfl rfl (fun _ => (Nat.le_of_ble_eq_true rfl)) (fun _ => rfl) rfl rfl (fun _ H locs hw => ?_)
      refine lv_icmp_eq (tgt := 1985) hx hb dL_law_1406 (by decide) (fun _ => ?_) (fun z => absurd heq z)
      refine W.widen (k := cells + 37) (n := slots + 2859) (by first | omega | exact Nat.add_le_add_left (Nat.le_of_ble_eq_true rfl) _) (by first | omega | exact Nat.add_le_add_left (Nat.le_of_ble_eq_true rfl) _) ?_
      exact next _ _ _ _ _ _ _ _ _ _ _ hI2 a0 a1 a2 a3 a4 a5 a6 a7 am aK aT _ _ _ hw hl
set_option maxHeartbeats 4000000 in
set_option maxRecDepth 100000 in
theorem law_movable (X : gC p s m meth c #[Value.ref b] RL cL_law 4 g (fun q : Nat => s.heap.size ≤ q)) (hX : va_X b L xs s s.heap) (hbl : b < s.heap.size) {I : RO → EV → EV → EV → SH → TP → LW → SE → RM → Option RM → Option RM → Prop} (hS : S_movable I) (hB : cells + 37 ≤ 600000 ∧ slots + 2859 ≤ 7302249) {x3 : Int32} (h1 : vp_in (x3 + 1) L) (h2 : vp_in (x3 + 2) L) (h3 : vp_in (x3 + 3) L) (h4 : vp_in (x3 + 4) L) (h5 : vp_in (x3 + 5) L)
    (next : lawNext p l e s m below meth c b g I Q (cells + 37) (slots + 2859) x3)
    (ro : RO) (nw : EV) (kp : EV) (dr : EV) (sh : SH) (tp : TP) (lw : LW) (se : SE) (rm : RM) (K : Option RM) (T : Option RM) (hI : I ro nw kp dr sh tp lw se rm K T) (a0 a1 a2 a3 a4 a5 a6 a7 am aK aT : Nat → Nat) (H : Heap) (locs : List Loc) (ls : Array Slot) (hw : gW g (fun q : Nat => s.heap.size ≤ q) s.heap (lawW g ro nw kp dr sh tp lw se rm K T a0 a1 a2 a3 a4 a5 a6 a7 am aK aT) H locs) (hl : lv_has ls 4 [(0, .ref b), (1, .ref (a0 0)), (2, .ref (am 0)), (3, .int x3)]) : W p l e room_1 s m #[Value.ref b] below meth c H locs cells slots Q (F0 m 1411 ls []) := by
  have hx := X.1.1
  have hb := X.1.2.1
  have hbA : ¬ (fun q : Nat => s.heap.size ≤ q) b := Nat.not_le.mpr hbl
  refine lv_aload_n hx hb dL_law_1411 rfl (lv_at hl 1 rfl) ?_
  refine lv_aload_n hx hb dL_law_1412 rfl (lv_at hl 0 rfl) ?_
  refine lv_iload_n hx hb dL_law_1413 rfl (lv_at hl 3 rfl) ?_
  refine lv_iconst (v := 1) hx hb dL_law_1414 (by decide) ?_
  refine lv_iadd hx hb dL_law_1415 ?_
  refine va_sld hx hb hX hbl hbA hw.2.2.1 h1 dL_law_1416 ?_
  obtain ⟨o1, ho1, hS⟩ := hS ro nw kp dr sh tp lw se rm K T hI (xs (x3 + 1).toNatClampNeg)
  refine g_calli0 (isC := [0, 1, 6, 7]) (gn := fun _ => ([wRO g a0 (a1 0) (a2 0) (a3 0) (a4 0) (a5 0) (a6 0) (a7 0) o1.2.1, wEV g a1 nw, wEV g a2 kp, wEV g a3 dr, wSH g a4 sh, wTP g a5 tp, wLW g a6 o1.2.2.1, wSE g a7 o1.2.2.2, wRM g am (K.map fun _ => aK 0) (T.map fun _ => aT 0) rm] ++ (oW g aK K ++ oW g aT T))) (g_runV (isC := [0, 1, 6, 7]) (rest := []) (As := [.int (xs (x3 + 1).toNatClampNeg)]) X hw (c_X5_movable l (ad := a0) (adN := a1) (adL := a6) (adE := a7) (aK := (a2 0)) (aD := (a3 0)) (aS := (a4 0)) (aT := (a5 0)) ho1) rfl kM_X5_movable ki_X5_movable ks_X5_movable km_L_160 ⟨(Nat.le_of_ble_eq_true rfl), (Nat.le_of_ble_eq_true rfl)⟩ (law_c hB (by decide) (by decide)) rfl rfl ⟨_, _, _, _, rfl, rfl, rfl, rfl⟩ rfl hl.1 rfl (Nat.le_of_ble_eq_true rfl) dL_law_1417) hw rfl rfl (fun _ => (Nat.le_of_ble_eq_true rfl)) (fun _ => (gputs_eq rfl).trans rfl) rfl rfl (fun _ H locs hw => ?_)
  refine lv_aload_n hx hb dL_law_1420 rfl (lv_at hl 2 rfl) ?_
  refine lv_aload_n hx hb dL_law_1421 rfl (lv_at hl 0 rfl) ?_
  refine lv_iload_n hx hb dL_law_1422 rfl (lv_at hl 3 rfl) ?_
  refine lv_iconst (v := 1) hx hb dL_law_1423 (by decide) ?_
  refine lv_iadd hx hb dL_law_1424 ?_
  refine va_sld hx hb hX hbl hbA hw.2.2.1 h1 dL_law_1425 ?_
  obtain ⟨o2, ho2, heq, hI⟩ := hS
  refine g_calli0 (isC := [8]) (gn := fun _ => ([wRO g a0 (a1 0) (a2 0) (a3 0) (a4 0) (a5 0) (a6 0) (a7 0) o1.2.1, wEV g a1 nw, wEV g a2 kp, wEV g a3 dr, wSH g a4 sh, wTP g a5 tp, wLW g a6 o1.2.2.1, wSE g a7 o1.2.2.2, wRM g am (K.map fun _ => aK 0) (T.map fun _ => aT 0) o2.2] ++ (oW g aK K ++ oW g aT T))) (g_runV (isC := [8]) (rest := [.int o1.1]) (As := [.int (xs (x3 + 1).toNatClampNeg)]) X hw (c_X6_movable l (ad := am) (eK := (K.map fun _ => aK 0)) (eT := (T.map fun _ => aT 0)) ho2) rfl kM_X6_movable ki_X6_movable ks_X6_movable km_L_163 ⟨(Nat.le_of_ble_eq_true rfl), (Nat.le_of_ble_eq_true rfl)⟩ (law_c hB (by decide) (by decide)) rfl rfl ⟨_, _, _, _, rfl, rfl, rfl, rfl⟩ rfl hl.1 rfl (Nat.le_of_ble_eq_true rfl) dL_law_1426) hw rfl rfl (fun _ => (Nat.le_of_ble_eq_true rfl)) (fun _ => (gputs_eq rfl).trans rfl) rfl rfl (fun _ H locs hw => ?_)
  refine lv_icmp_eq (tgt := 1985) hx hb dL_law_1429 (by decide) (fun _ => ?_) (fun z => absurd heq z)
  refine W.widen (k := cells + 37) (n := slots + 2859) (by first | omega | exact Nat.add_le_add_left (Nat.le_of_ble_eq_true rfl) _) (by first | omega | exact Nat.add_le_add_left (Nat.le_of_ble_eq_true rfl) _) ?_
  exact next _ _ _ _ _ _ _ _ _ _ _ hI a0 a1 a2 a3 a4 a5 a6 a7 am aK aT _ _ _ hw hl
set_option maxHeartbeats 4000000 in
set_option maxRecDepth 100000 in
theorem law_ends (X : gC p s m meth c #[Value.ref b] RL cL_law 4 g (fun q : Nat => s.heap.size ≤ q)) (hX : va_X b L xs s s.heap) (hbl : b < s.heap.size) {I : RO → EV → EV → EV → SH → TP → LW → SE → RM → Option RM → Option RM → Prop} (hS : S_ends I) (hB : cells + 37 ≤ 600000 ∧ slots + 2859 ≤ 7302249) {x3 : Int32} (h1 : vp_in (x3 + 1) L) (h2 : vp_in (x3 + 2) L) (h3 : vp_in (x3 + 3) L) (h4 : vp_in (x3 + 4) L) (h5 : vp_in (x3 + 5) L)
    (next : lawNext p l e s m below meth c b g I Q (cells + 37) (slots + 2859) x3)
    (ro : RO) (nw : EV) (kp : EV) (dr : EV) (sh : SH) (tp : TP) (lw : LW) (se : SE) (rm : RM) (K : Option RM) (T : Option RM) (hI : I ro nw kp dr sh tp lw se rm K T) (a0 a1 a2 a3 a4 a5 a6 a7 am aK aT : Nat → Nat) (H : Heap) (locs : List Loc) (ls : Array Slot) (hw : gW g (fun q : Nat => s.heap.size ≤ q) s.heap (lawW g ro nw kp dr sh tp lw se rm K T a0 a1 a2 a3 a4 a5 a6 a7 am aK aT) H locs) (hl : lv_has ls 4 [(0, .ref b), (1, .ref (a0 0)), (2, .ref (am 0)), (3, .int x3)]) : W p l e room_1 s m #[Value.ref b] below meth c H locs cells slots Q (F0 m 1434 ls []) := by
  have hx := X.1.1
  have hb := X.1.2.1
  have hbA : ¬ (fun q : Nat => s.heap.size ≤ q) b := Nat.not_le.mpr hbl
  refine lv_aload_n hx hb dL_law_1434 rfl (lv_at hl 1 rfl) ?_
  refine lv_aload_n hx hb dL_law_1435 rfl (lv_at hl 0 rfl) ?_
  refine lv_iload_n hx hb dL_law_1436 rfl (lv_at hl 3 rfl) ?_
  refine lv_iconst (v := 1) hx hb dL_law_1437 (by decide) ?_
  refine lv_iadd hx hb dL_law_1438 ?_
  refine va_sld hx hb hX hbl hbA hw.2.2.1 h1 dL_law_1439 ?_
  obtain ⟨o1, ho1, hS⟩ := hS ro nw kp dr sh tp lw se rm K T hI (xs (x3 + 1).toNatClampNeg)
  refine g_calli0 (isC := [0, 1, 6, 7]) (gn := fun _ => ([wRO g a0 (a1 0) (a2 0) (a3 0) (a4 0) (a5 0) (a6 0) (a7 0) o1.2.1, wEV g a1 nw, wEV g a2 kp, wEV g a3 dr, wSH g a4 sh, wTP g a5 tp, wLW g a6 o1.2.2.1, wSE g a7 o1.2.2.2, wRM g am (K.map fun _ => aK 0) (T.map fun _ => aT 0) rm] ++ (oW g aK K ++ oW g aT T))) (g_runV (isC := [0, 1, 6, 7]) (rest := []) (As := [.int (xs (x3 + 1).toNatClampNeg)]) X hw (c_X5_ends l (ad := a0) (adN := a1) (adL := a6) (adE := a7) (aK := (a2 0)) (aD := (a3 0)) (aS := (a4 0)) (aT := (a5 0)) ho1) rfl kM_X5_ends ki_X5_ends ks_X5_ends km_L_164 ⟨(Nat.le_of_ble_eq_true rfl), (Nat.le_of_ble_eq_true rfl)⟩ (law_c hB (by decide) (by decide)) rfl rfl ⟨_, _, _, _, rfl, rfl, rfl, rfl⟩ rfl hl.1 rfl (Nat.le_of_ble_eq_true rfl) dL_law_1440) hw rfl rfl (fun _ => (Nat.le_of_ble_eq_true rfl)) (fun _ => (gputs_eq rfl).trans rfl) rfl rfl (fun _ H locs hw => ?_)
  refine lv_aload_n hx hb dL_law_1443 rfl (lv_at hl 2 rfl) ?_
  refine lv_aload_n hx hb dL_law_1444 rfl (lv_at hl 0 rfl) ?_
  refine lv_iload_n hx hb dL_law_1445 rfl (lv_at hl 3 rfl) ?_
  refine lv_iconst (v := 1) hx hb dL_law_1446 (by decide) ?_
  refine lv_iadd hx hb dL_law_1447 ?_
  refine va_sld hx hb hX hbl hbA hw.2.2.1 h1 dL_law_1448 ?_
  obtain ⟨o2, ho2, heq, hI⟩ := hS
  refine g_calli0 (isC := [8]) (gn := fun _ => ([wRO g a0 (a1 0) (a2 0) (a3 0) (a4 0) (a5 0) (a6 0) (a7 0) o1.2.1, wEV g a1 nw, wEV g a2 kp, wEV g a3 dr, wSH g a4 sh, wTP g a5 tp, wLW g a6 o1.2.2.1, wSE g a7 o1.2.2.2, wRM g am (K.map fun _ => aK 0) (T.map fun _ => aT 0) o2.2] ++ (oW g aK K ++ oW g aT T))) (g_runV (isC := [8]) (rest := [.int o1.1]) (As := [.int (xs (x3 + 1).toNatClampNeg)]) X hw (c_X6_ends l (ad := am) (eK := (K.map fun _ => aK 0)) (eT := (T.map fun _ => aT 0)) ho2) rfl kM_X6_ends ki_X6_ends ks_X6_ends km_L_167 ⟨(Nat.le_of_ble_eq_true rfl), (Nat.le_of_ble_eq_true rfl)⟩ (law_c hB (by decide) (by decide)) rfl rfl ⟨_, _, _, _, rfl, rfl, rfl, rfl⟩ rfl hl.1 rfl (Nat.le_of_ble_eq_true rfl) dL_law_1449) hw rfl rfl (fun _ => (Nat.le_of_ble_eq_true rfl)) (fun _ => (gputs_eq rfl).trans rfl) rfl rfl (fun _ H locs hw => ?_)
  refine lv_icmp_eq (tgt := 1985) hx hb dL_law_1452 (by decide) (fun _ => ?_) (fun z => absurd heq z)
  refine W.widen (k := cells + 37) (n := slots + 2859) (by first | omega | exact Nat.add_le_add_left (Nat.le_of_ble_eq_true rfl) _) (by first | omega | exact Nat.add_le_add_left (Nat.le_of_ble_eq_true rfl) _) ?_
  exact next _ _ _ _ _ _ _ _ _ _ _ hI a0 a1 a2 a3 a4 a5 a6 a7 am aK aT _ _ _ hw hl
set_option maxHeartbeats 4000000 in
set_option maxRecDepth 100000 in
theorem law_first (X : gC p s m meth c #[Value.ref b] RL cL_law 4 g (fun q : Nat => s.heap.size ≤ q)) (hX : va_X b L xs s s.heap) (hbl : b < s.heap.size) {I : RO → EV → EV → EV → SH → TP → LW → SE → RM → Option RM → Option RM → Prop} (hS : S_first I) (hB : cells + 37 ≤ 600000 ∧ slots + 2859 ≤ 7302249) {x3 : Int32} (h1 : vp_in (x3 + 1) L) (h2 : vp_in (x3 + 2) L) (h3 : vp_in (x3 + 3) L) (h4 : vp_in (x3 + 4) L) (h5 : vp_in (x3 + 5) L)
    (next : lawNext p l e s m below meth c b g I Q (cells + 37) (slots + 2859) x3)
    (ro : RO) (nw : EV) (kp : EV) (dr : EV) (sh : SH) (tp : TP) (lw : LW) (se : SE) (rm : RM) (K : Option RM) (T : Option RM) (hI : I ro nw kp dr sh tp lw se rm K T) (a0 a1 a2 a3 a4 a5 a6 a7 am aK aT : Nat → Nat) (H : Heap) (locs : List Loc) (ls : Array Slot) (hw : gW g (fun q : Nat => s.heap.size ≤ q) s.heap (lawW g ro nw kp dr sh tp lw se rm K T a0 a1 a2 a3 a4 a5 a6 a7 am aK aT) H locs) (hl : lv_has ls 4 [(0, .ref b), (1, .ref (a0 0)), (2, .ref (am 0)), (3, .int x3)]) : W p l e room_1 s m #[Value.ref b] below meth c H locs cells slots Q (F0 m 1457 ls []) := by
  have hx := X.1.1
  have hb := X.1.2.1
  have hbA : ¬ (fun q : Nat => s.heap.size ≤ q) b := Nat.not_le.mpr hbl
  refine lv_aload_n hx hb dL_law_1457 rfl (lv_at hl 1 rfl) ?_
  refine lv_aload_n hx hb dL_law_1458 rfl (lv_at hl 0 rfl) ?_
  refine lv_iload_n hx hb dL_law_1459 rfl (lv_at hl 3 rfl) ?_
  refine lv_iconst (v := 1) hx hb dL_law_1460 (by decide) ?_
  refine lv_iadd hx hb dL_law_1461 ?_
  refine va_sld hx hb hX hbl hbA hw.2.2.1 h1 dL_law_1462 ?_
  refine lv_aload_n hx hb dL_law_1463 rfl (lv_at hl 0 rfl) ?_
  refine lv_iload_n hx hb dL_law_1464 rfl (lv_at hl 3 rfl) ?_
  refine lv_iconst (v := 2) hx hb dL_law_1465 (by decide) ?_
  refine lv_iadd hx hb dL_law_1466 ?_
  refine va_sld hx hb hX hbl hbA hw.2.2.1 h2 dL_law_1467 ?_
  obtain ⟨o1, ho1, hS⟩ := hS ro nw kp dr sh tp lw se rm K T hI (xs (x3 + 1).toNatClampNeg) (xs (x3 + 2).toNatClampNeg)
  refine g_calli0 (isC := [0, 1, 6, 7]) (gn := fun _ => ([wRO g a0 (a1 0) (a2 0) (a3 0) (a4 0) (a5 0) (a6 0) (a7 0) o1.2.1, wEV g a1 nw, wEV g a2 kp, wEV g a3 dr, wSH g a4 sh, wTP g a5 tp, wLW g a6 o1.2.2.1, wSE g a7 o1.2.2.2, wRM g am (K.map fun _ => aK 0) (T.map fun _ => aT 0) rm] ++ (oW g aK K ++ oW g aT T))) (g_runV (isC := [0, 1, 6, 7]) (rest := []) (As := [.int (xs (x3 + 1).toNatClampNeg), .int (xs (x3 + 2).toNatClampNeg)]) X hw (c_X5_first l (ad := a0) (adN := a1) (adL := a6) (adE := a7) (aK := (a2 0)) (aD := (a3 0)) (aS := (a4 0)) (aT := (a5 0)) ho1) rfl kM_X5_first ki_X5_first ks_X5_first km_L_168 ⟨(Nat.le_of_ble_eq_true rfl), (Nat.le_of_ble_eq_true rfl)⟩ (law_c hB (by decide) (by decide)) rfl rfl ⟨_, _, _, _, rfl, rfl, rfl, rfl⟩ rfl hl.1 rfl (Nat.le_of_ble_eq_true rfl) dL_law_1468) hw rfl rfl (fun _ => (Nat.le_of_ble_eq_true rfl)) (fun _ => (gputs_eq rfl).trans rfl) rfl rfl (fun _ H locs hw => ?_)
  refine lv_aload_n hx hb dL_law_1471 rfl (lv_at hl 2 rfl) ?_
  refine lv_aload_n hx hb dL_law_1472 rfl (lv_at hl 0 rfl) ?_
  refine lv_iload_n hx hb dL_law_1473 rfl (lv_at hl 3 rfl) ?_
  refine lv_iconst (v := 1) hx hb dL_law_1474 (by decide) ?_
  refine lv_iadd hx hb dL_law_1475 ?_
  refine va_sld hx hb hX hbl hbA hw.2.2.1 h1 dL_law_1476 ?_
  refine lv_aload_n hx hb dL_law_1477 rfl (lv_at hl 0 rfl) ?_
  refine lv_iload_n hx hb dL_law_1478 rfl (lv_at hl 3 rfl) ?_
  refine lv_iconst (v := 2) hx hb dL_law_1479 (by decide) ?_
  refine lv_iadd hx hb dL_law_1480 ?_
  refine va_sld hx hb hX hbl hbA hw.2.2.1 h2 dL_law_1481 ?_
  obtain ⟨o2, ho2, heq, hI⟩ := hS
  refine g_calli0 (isC := [8]) (gn := fun _ => ([wRO g a0 (a1 0) (a2 0) (a3 0) (a4 0) (a5 0) (a6 0) (a7 0) o1.2.1, wEV g a1 nw, wEV g a2 kp, wEV g a3 dr, wSH g a4 sh, wTP g a5 tp, wLW g a6 o1.2.2.1, wSE g a7 o1.2.2.2, wRM g am (K.map fun _ => aK 0) (T.map fun _ => aT 0) o2.2] ++ (oW g aK K ++ oW g aT T))) (g_runV (isC := [8]) (rest := [.int o1.1]) (As := [.int (xs (x3 + 1).toNatClampNeg), .int (xs (x3 + 2).toNatClampNeg)]) X hw (c_X6_first l (ad := am) (eK := (K.map fun _ => aK 0)) (eT := (T.map fun _ => aT 0)) ho2) rfl kM_X6_first ki_X6_first ks_X6_first km_L_171 ⟨(Nat.le_of_ble_eq_true rfl), (Nat.le_of_ble_eq_true rfl)⟩ (law_c hB (by decide) (by decide)) rfl rfl ⟨_, _, _, _, rfl, rfl, rfl, rfl⟩ rfl hl.1 rfl (Nat.le_of_ble_eq_true rfl) dL_law_1482) hw rfl rfl (fun _ => (Nat.le_of_ble_eq_true rfl)) (fun _ => (gputs_eq rfl).trans rfl) rfl rfl (fun _ H locs hw => ?_)
  refine lv_icmp_eq (tgt := 1985) hx hb dL_law_1485 (by decide) (fun _ => ?_) (fun z => absurd heq z)
  refine W.widen (k := cells + 37) (n := slots + 2859) (by first | omega | exact Nat.add_le_add_left (Nat.le_of_ble_eq_true rfl) _) (by first | omega | exact Nat.add_le_add_left (Nat.le_of_ble_eq_true rfl) _) ?_
  exact next _ _ _ _ _ _ _ _ _ _ _ hI a0 a1 a2 a3 a4 a5 a6 a7 am aK aT _ _ _ hw hl
set_option maxHeartbeats 4000000 in
set_option maxRecDepth 100000 in
theorem law_chance (X : gC p s m meth c #[Value.ref b] RL cL_law 4 g (fun q : Nat => s.heap.size ≤ q)) (hX : va_X b L xs s s.heap) (hbl : b < s.heap.size) {I : RO → EV → EV → EV → SH → TP → LW → SE → RM → Option RM → Option RM → Prop} (hS : S_chance I) (hB : cells + 37 ≤ 600000 ∧ slots + 2859 ≤ 7302249) {x3 : Int32} (h1 : vp_in (x3 + 1) L) (h2 : vp_in (x3 + 2) L) (h3 : vp_in (x3 + 3) L) (h4 : vp_in (x3 + 4) L) (h5 : vp_in (x3 + 5) L)
    (next : lawNext p l e s m below meth c b g I Q (cells + 37) (slots + 2859) x3)
    (ro : RO) (nw : EV) (kp : EV) (dr : EV) (sh : SH) (tp : TP) (lw : LW) (se : SE) (rm : RM) (K : Option RM) (T : Option RM) (hI : I ro nw kp dr sh tp lw se rm K T) (a0 a1 a2 a3 a4 a5 a6 a7 am aK aT : Nat → Nat) (H : Heap) (locs : List Loc) (ls : Array Slot) (hw : gW g (fun q : Nat => s.heap.size ≤ q) s.heap (lawW g ro nw kp dr sh tp lw se rm K T a0 a1 a2 a3 a4 a5 a6 a7 am aK aT) H locs) (hl : lv_has ls 4 [(0, .ref b), (1, .ref (a0 0)), (2, .ref (am 0)), (3, .int x3)]) : W p l e room_1 s m #[Value.ref b] below meth c H locs cells slots Q (F0 m 1490 ls []) := by
  have hx := X.1.1
  have hb := X.1.2.1
  have hbA : ¬ (fun q : Nat => s.heap.size ≤ q) b := Nat.not_le.mpr hbl
  refine lv_aload_n hx hb dL_law_1490 rfl (lv_at hl 1 rfl) ?_
  refine lv_aload_n hx hb dL_law_1491 rfl (lv_at hl 0 rfl) ?_
  refine lv_iload_n hx hb dL_law_1492 rfl (lv_at hl 3 rfl) ?_
  refine lv_iconst (v := 1) hx hb dL_law_1493 (by decide) ?_
  refine lv_iadd hx hb dL_law_1494 ?_
  refine va_sld hx hb hX hbl hbA hw.2.2.1 h1 dL_law_1495 ?_
  refine lv_aload_n hx hb dL_law_1496 rfl (lv_at hl 0 rfl) ?_
  refine lv_iload_n hx hb dL_law_1497 rfl (lv_at hl 3 rfl) ?_
  refine lv_iconst (v := 2) hx hb dL_law_1498 (by decide) ?_
  refine lv_iadd hx hb dL_law_1499 ?_
  refine va_sld hx hb hX hbl hbA hw.2.2.1 h2 dL_law_1500 ?_
  refine lv_aload_n hx hb dL_law_1501 rfl (lv_at hl 0 rfl) ?_
  refine lv_iload_n hx hb dL_law_1502 rfl (lv_at hl 3 rfl) ?_
  refine lv_iconst (v := 3) hx hb dL_law_1503 (by decide) ?_
  refine lv_iadd hx hb dL_law_1504 ?_
  refine va_sld hx hb hX hbl hbA hw.2.2.1 h3 dL_law_1505 ?_
  obtain ⟨o1, ho1, hS⟩ := hS ro nw kp dr sh tp lw se rm K T hI (xs (x3 + 1).toNatClampNeg) (xs (x3 + 2).toNatClampNeg) (xs (x3 + 3).toNatClampNeg)
  refine g_calli0 (isC := [0, 1, 6, 7]) (gn := fun u => ([wRO g a0 (a1 0) (a2 0) (a3 0) (a4 0) (a5 0) (a6 0) ((swB u a7) 0) o1.2.1, wEV g a1 nw, wEV g a2 kp, wEV g a3 dr, wSH g a4 sh, wTP g a5 tp, wLW g a6 o1.2.2.1, wSE g (swB u a7) o1.2.2.2, wRM g am (K.map fun _ => aK 0) (T.map fun _ => aT 0) rm] ++ (oW g aK K ++ oW g aT T))) (g_runV (isC := [0, 1, 6, 7]) (rest := []) (As := [.int (xs (x3 + 1).toNatClampNeg), .int (xs (x3 + 2).toNatClampNeg), .int (xs (x3 + 3).toNatClampNeg)]) X hw (c_X5_chance l (ad := a0) (adN := a1) (adL := a6) (adE := a7) (aK := (a2 0)) (aD := (a3 0)) (aS := (a4 0)) (aT := (a5 0)) ho1) rfl kM_X5_chance ki_X5_chance ks_X5_chance km_L_172 ⟨(Nat.le_of_ble_eq_true rfl), (Nat.le_of_ble_eq_true rfl)⟩ (law_c hB (by decide) (by decide)) rfl rfl ⟨_, _, _, _, rfl, rfl, rfl, rfl⟩ rfl hl.1 rfl (Nat.le_of_ble_eq_true rfl) dL_law_1506) hw rfl rfl (fun _ => (Nat.le_of_ble_eq_true rfl)) (fun _ => (gputs_eq rfl).trans rfl) rfl rfl (fun u H locs hw => ?_)
  refine lv_aload_n hx hb dL_law_1509 rfl (lv_at hl 2 rfl) ?_
  refine lv_aload_n hx hb dL_law_1510 rfl (lv_at hl 0 rfl) ?_
  refine lv_iload_n hx hb dL_law_1511 rfl (lv_at hl 3 rfl) ?_
  refine lv_iconst (v := 1) hx hb dL_law_1512 (by decide) ?_
  refine lv_iadd hx hb dL_law_1513 ?_
  refine va_sld hx hb hX hbl hbA hw.2.2.1 h1 dL_law_1514 ?_
  refine lv_aload_n hx hb dL_law_1515 rfl (lv_at hl 0 rfl) ?_
  refine lv_iload_n hx hb dL_law_1516 rfl (lv_at hl 3 rfl) ?_
  refine lv_iconst (v := 2) hx hb dL_law_1517 (by decide) ?_
  refine lv_iadd hx hb dL_law_1518 ?_
  refine va_sld hx hb hX hbl hbA hw.2.2.1 h2 dL_law_1519 ?_
  refine lv_aload_n hx hb dL_law_1520 rfl (lv_at hl 0 rfl) ?_
  refine lv_iload_n hx hb dL_law_1521 rfl (lv_at hl 3 rfl) ?_
  refine lv_iconst (v := 3) hx hb dL_law_1522 (by decide) ?_
  refine lv_iadd hx hb dL_law_1523 ?_
  refine va_sld hx hb hX hbl hbA hw.2.2.1 h3 dL_law_1524 ?_
  obtain ⟨o2, ho2, heq, hI⟩ := hS
  refine g_calli (isC := [8]) (gn := fun u2 => ([wRO g a0 (a1 0) (a2 0) (a3 0) (a4 0) (a5 0) (a6 0) ((swB u a7) 0) o1.2.1, wEV g a1 nw, wEV g a2 kp, wEV g a3 dr, wSH g a4 sh, wTP g a5 tp, wLW g a6 o1.2.2.1, wSE g (swB u a7) o1.2.2.2, wRM g u2.1 (K.map fun _ => aK 0) (T.map fun _ => aT 0) o2.2] ++ (oW g aK K ++ oW g aT T))) (g_runV (isC := [8]) (rest := [.int o1.1]) (As := [.int (xs (x3 + 1).toNatClampNeg), .int (xs (x3 + 2).toNatClampNeg), .int (xs (x3 + 3).toNatClampNeg)]) X hw (c_X6_chance l (ad := am) (eK := (K.map fun _ => aK 0)) (eT := (T.map fun _ => aT 0)) ho2) rfl kM_X6_chance ki_X6_chance ks_X6_chance km_L_175 ⟨(Nat.le_of_ble_eq_true rfl), (Nat.le_of_ble_eq_true rfl)⟩ (law_c hB (by decide) (by decide)) rfl rfl ⟨_, _, _, _, rfl, rfl, rfl, rfl⟩ rfl hl.1 rfl (Nat.le_of_ble_eq_true rfl) dL_law_1525) hw rfl rfl (fun _ => (Nat.le_of_ble_eq_true rfl)) (fun _ => (gputs_eq rfl).trans rfl) (fun u2 H locs hw => ?_)
  have hl : lv_has ls 4 [(0, .ref b), (1, .ref (a0 0)), (2, .ref (u2.1 0)), (3, .int x3)] := by rw [u2.2]; exact hl
  refine lv_icmp_eq (tgt := 1985) hx hb dL_law_1528 (by decide) (fun _ => ?_) (fun z => absurd heq z)
  refine W.widen (k := cells + 37) (n := slots + 2859) (by first | omega | exact Nat.add_le_add_left (Nat.le_of_ble_eq_true rfl) _) (by first | omega | exact Nat.add_le_add_left (Nat.le_of_ble_eq_true rfl) _) ?_
  exact next _ _ _ _ _ _ _ _ _ _ _ hI a0 a1 a2 a3 a4 a5 a6 (swB u a7) u2.1 aK aT _ _ _ hw hl
set_option maxHeartbeats 4000000 in
set_option maxRecDepth 100000 in
theorem law_pictures (X : gC p s m meth c #[Value.ref b] RL cL_law 4 g (fun q : Nat => s.heap.size ≤ q)) (hX : va_X b L xs s s.heap) (hbl : b < s.heap.size) {I : RO → EV → EV → EV → SH → TP → LW → SE → RM → Option RM → Option RM → Prop} (hS : S_pictures I) (hB : cells + 37 ≤ 600000 ∧ slots + 2859 ≤ 7302249) {x3 : Int32} (h1 : vp_in (x3 + 1) L) (h2 : vp_in (x3 + 2) L) (h3 : vp_in (x3 + 3) L) (h4 : vp_in (x3 + 4) L) (h5 : vp_in (x3 + 5) L)
    (next : lawNext p l e s m below meth c b g I Q (cells + 37) (slots + 2859) x3)
    (ro : RO) (nw : EV) (kp : EV) (dr : EV) (sh : SH) (tp : TP) (lw : LW) (se : SE) (rm : RM) (K : Option RM) (T : Option RM) (hI : I ro nw kp dr sh tp lw se rm K T) (a0 a1 a2 a3 a4 a5 a6 a7 am aK aT : Nat → Nat) (H : Heap) (locs : List Loc) (ls : Array Slot) (hw : gW g (fun q : Nat => s.heap.size ≤ q) s.heap (lawW g ro nw kp dr sh tp lw se rm K T a0 a1 a2 a3 a4 a5 a6 a7 am aK aT) H locs) (hl : lv_has ls 4 [(0, .ref b), (1, .ref (a0 0)), (2, .ref (am 0)), (3, .int x3)]) : W p l e room_1 s m #[Value.ref b] below meth c H locs cells slots Q (F0 m 1533 ls []) := by
  have hx := X.1.1
  have hb := X.1.2.1
  have hbA : ¬ (fun q : Nat => s.heap.size ≤ q) b := Nat.not_le.mpr hbl
  refine lv_aload_n hx hb dL_law_1533 rfl (lv_at hl 1 rfl) ?_
  refine lv_aload_n hx hb dL_law_1534 rfl (lv_at hl 0 rfl) ?_
  refine lv_iload_n hx hb dL_law_1535 rfl (lv_at hl 3 rfl) ?_
  refine lv_iconst (v := 1) hx hb dL_law_1536 (by decide) ?_
  refine lv_iadd hx hb dL_law_1537 ?_
  refine va_sld hx hb hX hbl hbA hw.2.2.1 h1 dL_law_1538 ?_
  refine lv_aload_n hx hb dL_law_1539 rfl (lv_at hl 0 rfl) ?_
  refine lv_iload_n hx hb dL_law_1540 rfl (lv_at hl 3 rfl) ?_
  refine lv_iconst (v := 2) hx hb dL_law_1541 (by decide) ?_
  refine lv_iadd hx hb dL_law_1542 ?_
  refine va_sld hx hb hX hbl hbA hw.2.2.1 h2 dL_law_1543 ?_
  refine lv_aload_n hx hb dL_law_1544 rfl (lv_at hl 0 rfl) ?_
  refine lv_iload_n hx hb dL_law_1545 rfl (lv_at hl 3 rfl) ?_
  refine lv_iconst (v := 3) hx hb dL_law_1546 (by decide) ?_
  refine lv_iadd hx hb dL_law_1547 ?_
  refine va_sld hx hb hX hbl hbA hw.2.2.1 h3 dL_law_1548 ?_
  obtain ⟨o1, ho1, hS⟩ := hS ro nw kp dr sh tp lw se rm K T hI (xs (x3 + 1).toNatClampNeg) (xs (x3 + 2).toNatClampNeg) (xs (x3 + 3).toNatClampNeg)
  refine g_calli0 (isC := [0, 1, 4, 6, 7]) (gn := fun _ => ([wRO g a0 (a1 0) (a2 0) (a3 0) (a4 0) (a5 0) (a6 0) (a7 0) o1.2.1, wEV g a1 nw, wEV g a2 kp, wEV g a3 dr, wSH g a4 sh, wTP g a5 tp, wLW g a6 o1.2.2.1, wSE g a7 o1.2.2.2, wRM g am (K.map fun _ => aK 0) (T.map fun _ => aT 0) rm] ++ (oW g aK K ++ oW g aT T))) (g_runV (isC := [0, 1, 4, 6, 7]) (rest := []) (As := [.int (xs (x3 + 1).toNatClampNeg), .int (xs (x3 + 2).toNatClampNeg), .int (xs (x3 + 3).toNatClampNeg)]) X hw (c_X5_pictures l (ad := a0) (adN := a1) (adS := a4) (adL := a6) (adE := a7) (aK := (a2 0)) (aD := (a3 0)) (aT := (a5 0)) ho1) rfl kM_X5_pictures ki_X5_pictures ks_X5_pictures km_L_176 ⟨(Nat.le_of_ble_eq_true rfl), (Nat.le_of_ble_eq_true rfl)⟩ (law_c hB (by decide) (by decide)) rfl rfl ⟨_, _, _, _, rfl, rfl, rfl, rfl⟩ rfl hl.1 rfl (Nat.le_of_ble_eq_true rfl) dL_law_1549) hw rfl rfl (fun _ => (Nat.le_of_ble_eq_true rfl)) (fun _ => (gputs_eq rfl).trans rfl) rfl rfl (fun _ H locs hw => ?_)
  refine lv_aload_n hx hb dL_law_1552 rfl (lv_at hl 2 rfl) ?_
  refine lv_aload_n hx hb dL_law_1553 rfl (lv_at hl 0 rfl) ?_
  refine lv_iload_n hx hb dL_law_1554 rfl (lv_at hl 3 rfl) ?_
  refine lv_iconst (v := 1) hx hb dL_law_1555 (by decide) ?_
  refine lv_iadd hx hb dL_law_1556 ?_
  refine va_sld hx hb hX hbl hbA hw.2.2.1 h1 dL_law_1557 ?_
  refine lv_aload_n hx hb dL_law_1558 rfl (lv_at hl 0 rfl) ?_
  refine lv_iload_n hx hb dL_law_1559 rfl (lv_at hl 3 rfl) ?_
  refine lv_iconst (v := 2) hx hb dL_law_1560 (by decide) ?_
  refine lv_iadd hx hb dL_law_1561 ?_
  refine va_sld hx hb hX hbl hbA hw.2.2.1 h2 dL_law_1562 ?_
  refine lv_aload_n hx hb dL_law_1563 rfl (lv_at hl 0 rfl) ?_
  refine lv_iload_n hx hb dL_law_1564 rfl (lv_at hl 3 rfl) ?_
  refine lv_iconst (v := 3) hx hb dL_law_1565 (by decide) ?_
  refine lv_iadd hx hb dL_law_1566 ?_
  refine va_sld hx hb hX hbl hbA hw.2.2.1 h3 dL_law_1567 ?_
  obtain ⟨o2, ho2, heq, hI⟩ := hS
  refine g_calli0 (isC := [8]) (gn := fun _ => ([wRO g a0 (a1 0) (a2 0) (a3 0) (a4 0) (a5 0) (a6 0) (a7 0) o1.2.1, wEV g a1 nw, wEV g a2 kp, wEV g a3 dr, wSH g a4 sh, wTP g a5 tp, wLW g a6 o1.2.2.1, wSE g a7 o1.2.2.2, wRM g am (K.map fun _ => aK 0) (T.map fun _ => aT 0) o2.2] ++ (oW g aK K ++ oW g aT T))) (g_runV (isC := [8]) (rest := [.int o1.1]) (As := [.int (xs (x3 + 1).toNatClampNeg), .int (xs (x3 + 2).toNatClampNeg), .int (xs (x3 + 3).toNatClampNeg)]) X hw (c_X6_pictures l (ad := am) (eK := (K.map fun _ => aK 0)) (eT := (T.map fun _ => aT 0)) ho2) rfl kM_X6_pictures ki_X6_pictures ks_X6_pictures km_L_179 ⟨(Nat.le_of_ble_eq_true rfl), (Nat.le_of_ble_eq_true rfl)⟩ (law_c hB (by decide) (by decide)) rfl rfl ⟨_, _, _, _, rfl, rfl, rfl, rfl⟩ rfl hl.1 rfl (Nat.le_of_ble_eq_true rfl) dL_law_1568) hw rfl rfl (fun _ => (Nat.le_of_ble_eq_true rfl)) (fun _ => (gputs_eq rfl).trans rfl) rfl rfl (fun _ H locs hw => ?_)
  refine lv_icmp_eq (tgt := 1985) hx hb dL_law_1571 (by decide) (fun _ => ?_) (fun z => absurd heq z)
  refine W.widen (k := cells + 37) (n := slots + 2859) (by first | omega | exact Nat.add_le_add_left (Nat.le_of_ble_eq_true rfl) _) (by first | omega | exact Nat.add_le_add_left (Nat.le_of_ble_eq_true rfl) _) ?_
  exact next _ _ _ _ _ _ _ _ _ _ _ hI a0 a1 a2 a3 a4 a5 a6 a7 am aK aT _ _ _ hw hl
end LAW
