section LAW
variable {p : Program} {l : Launch} {e : Env} {s : State} {m : MethodId} {below : List Frame} {meth : Method} {c : Code} {b L : Nat} {xs : Nat → Int32} {g : gG} {Q : State → Prop} {cells slots : Nat}
set_option maxHeartbeats 4000000 in
set_option maxRecDepth 100000 in
theorem law_row (X : gC p s m meth c #[Value.ref b] RL cL_law 4 g (fun q : Nat => s.heap.size ≤ q)) (hX : va_X b L xs s s.heap) (hbl : b < s.heap.size) {I : RO → EV → EV → EV → SH → TP → LW → SE → RM → Option RM → Option RM → Prop} (hS : S_row I) (hB : cells + 37 ≤ 600000 ∧ slots + 2859 ≤ 7302249) {x3 : Int32} (h1 : vp_in (x3 + 1) L) (h2 : vp_in (x3 + 2) L) (h3 : vp_in (x3 + 3) L) (h4 : vp_in (x3 + 4) L) (h5 : vp_in (x3 + 5) L)
    (next : lawNext p l e s m below meth c b g I Q (cells + 37) (slots + 2859) x3)
    (ro : RO) (nw : EV) (kp : EV) (dr : EV) (sh : SH) (tp : TP) (lw : LW) (se : SE) (rm : RM) (K : Option RM) (T : Option RM) (hI : I ro nw kp dr sh tp lw se rm K T) (a0 a1 a2 a3 a4 a5 a6 a7 am aK aT : Nat → Nat) (H : Heap) (locs : List Loc) (ls : Array Slot) (hw : gW g (fun q : Nat => s.heap.size ≤ q) s.heap (lawW g ro nw kp dr sh tp lw se rm K T a0 a1 a2 a3 a4 a5 a6 a7 am aK aT) H locs) (hl : lv_has ls 4 [(0, .ref b), (1, .ref (a0 0)), (2, .ref (am 0)), (3, .int x3)]) : W p l e room_1 s m #[Value.ref b] below meth c H locs cells slots Q (F0 m 256 ls []) := by
  have hx := X.1.1
  have hb := X.1.2.1
  have hbA : ¬ (fun q : Nat => s.heap.size ≤ q) b := Nat.not_le.mpr hbl
  refine lv_aload_n hx hb dL_law_256 rfl (lv_at hl 1 rfl) ?_
  refine lv_aload_n hx hb dL_law_257 rfl (lv_at hl 0 rfl) ?_
  refine lv_iload_n hx hb dL_law_258 rfl (lv_at hl 3 rfl) ?_
  refine lv_iconst (v := 1) hx hb dL_law_259 (by decide) ?_
  refine lv_iadd hx hb dL_law_260 ?_
  refine va_sld hx hb hX hbl hbA hw.2.2.1 h1 dL_law_261 ?_
  refine lv_aload_n hx hb dL_law_262 rfl (lv_at hl 0 rfl) ?_
  refine lv_iload_n hx hb dL_law_263 rfl (lv_at hl 3 rfl) ?_
  refine lv_iconst (v := 2) hx hb dL_law_264 (by decide) ?_
  refine lv_iadd hx hb dL_law_265 ?_
  refine va_sld hx hb hX hbl hbA hw.2.2.1 h2 dL_law_266 ?_
  refine lv_aload_n hx hb dL_law_267 rfl (lv_at hl 0 rfl) ?_
  refine lv_iload_n hx hb dL_law_268 rfl (lv_at hl 3 rfl) ?_
  refine lv_iconst (v := 3) hx hb dL_law_269 (by decide) ?_
  refine lv_iadd hx hb dL_law_270 ?_
  refine va_sld hx hb hX hbl hbA hw.2.2.1 h3 dL_law_271 ?_
  obtain ⟨o1, ho1, hS⟩ := hS ro nw kp dr sh tp lw se rm K T hI (xs (x3 + 1).toNatClampNeg) (xs (x3 + 2).toNatClampNeg) (xs (x3 + 3).toNatClampNeg)
  refine g_calli0 (isC := [0, 4]) (gn := fun _ => ([wRO g a0 (a1 0) (a2 0) (a3 0) (a4 0) (a5 0) (a6 0) (a7 0) o1.2.1, wEV g a1 nw, wEV g a2 kp, wEV g a3 dr, wSH g a4 o1.2.2, wTP g a5 tp, wLW g a6 lw, wSE g a7 se, wRM g am (K.map fun _ => aK 0) (T.map fun _ => aT 0) rm] ++ (oW g aK K ++ oW g aT T))) (g_runV (isC := [0, 4]) (rest := []) (As := [.int (xs (x3 + 1).toNatClampNeg), .int (xs (x3 + 2).toNatClampNeg), .int (xs (x3 + 3).toNatClampNeg)]) X hw (c_X5_row l (ad := a0) (adS := a4) (aN := (a1 0)) (aK := (a2 0)) (aD := (a3 0)) (aT := (a5 0)) (aL := (a6 0)) (aE := (a7 0)) ho1) rfl kM_X5_row ki_X5_row ks_X5_row km_L_13 ⟨(Nat.le_of_ble_eq_true rfl), (Nat.le_of_ble_eq_true rfl)⟩ (law_c hB (by decide) (by decide)) rfl rfl ⟨_, _, _, _, rfl, rfl, rfl, rfl⟩ rfl hl.1 rfl (Nat.le_of_ble_eq_true rfl) dL_law_272) hw rfl rfl (fun _ => (Nat.le_of_ble_eq_true rfl)) (fun _ => (gputs_eq rfl).trans rfl) rfl rfl (fun _ H locs hw => ?_)
  refine lv_aload_n hx hb dL_law_275 rfl (lv_at hl 2 rfl) ?_
  refine lv_aload_n hx hb dL_law_276 rfl (lv_at hl 0 rfl) ?_
  refine lv_iload_n hx hb dL_law_277 rfl (lv_at hl 3 rfl) ?_
  refine lv_iconst (v := 1) hx hb dL_law_278 (by decide) ?_
  refine lv_iadd hx hb dL_law_279 ?_
  refine va_sld hx hb hX hbl hbA hw.2.2.1 h1 dL_law_280 ?_
  refine lv_aload_n hx hb dL_law_281 rfl (lv_at hl 0 rfl) ?_
  refine lv_iload_n hx hb dL_law_282 rfl (lv_at hl 3 rfl) ?_
  refine lv_iconst (v := 2) hx hb dL_law_283 (by decide) ?_
  refine lv_iadd hx hb dL_law_284 ?_
  refine va_sld hx hb hX hbl hbA hw.2.2.1 h2 dL_law_285 ?_
  refine lv_aload_n hx hb dL_law_286 rfl (lv_at hl 0 rfl) ?_
  refine lv_iload_n hx hb dL_law_287 rfl (lv_at hl 3 rfl) ?_
  refine lv_iconst (v := 3) hx hb dL_law_288 (by decide) ?_
  refine lv_iadd hx hb dL_law_289 ?_
  refine va_sld hx hb hX hbl hbA hw.2.2.1 h3 dL_law_290 ?_
  obtain ⟨o2, ho2, heq, hI⟩ := hS
  refine g_calli0 (isC := [8]) (gn := fun _ => ([wRO g a0 (a1 0) (a2 0) (a3 0) (a4 0) (a5 0) (a6 0) (a7 0) o1.2.1, wEV g a1 nw, wEV g a2 kp, wEV g a3 dr, wSH g a4 o1.2.2, wTP g a5 tp, wLW g a6 lw, wSE g a7 se, wRM g am (K.map fun _ => aK 0) (T.map fun _ => aT 0) o2.2] ++ (oW g aK K ++ oW g aT T))) (g_runV (isC := [8]) (rest := [.int o1.1]) (As := [.int (xs (x3 + 1).toNatClampNeg), .int (xs (x3 + 2).toNatClampNeg), .int (xs (x3 + 3).toNatClampNeg)]) X hw (c_X6_row l (ad := am) (eK := (K.map fun _ => aK 0)) (eT := (T.map fun _ => aT 0)) ho2) rfl kM_X6_row ki_X6_row ks_X6_row km_L_17 ⟨(Nat.le_of_ble_eq_true rfl), (Nat.le_of_ble_eq_true rfl)⟩ (law_c hB (by decide) (by decide)) rfl rfl ⟨_, _, _, _, rfl, rfl, rfl, rfl⟩ rfl hl.1 rfl (Nat.le_of_ble_eq_true rfl) dL_law_291) hw rfl rfl (fun _ => (Nat.le_of_ble_eq_true rfl)) (fun _ => (gputs_eq rfl).trans rfl) rfl rfl (fun _ H locs hw => ?_)
  refine lv_icmp_eq (tgt := 1985) hx hb dL_law_294 (by decide) (fun _ => ?_) (fun z => absurd heq z)
  refine W.widen (k := cells + 37) (n := slots + 2859) (by first | omega | exact Nat.add_le_add_left (Nat.le_of_ble_eq_true rfl) _) (by first | omega | exact Nat.add_le_add_left (Nat.le_of_ble_eq_true rfl) _) ?_
  exact next _ _ _ _ _ _ _ _ _ _ _ hI a0 a1 a2 a3 a4 a5 a6 a7 am aK aT _ _ _ hw hl
set_option maxHeartbeats 4000000 in
set_option maxRecDepth 100000 in
theorem law_set (X : gC p s m meth c #[Value.ref b] RL cL_law 4 g (fun q : Nat => s.heap.size ≤ q)) (hX : va_X b L xs s s.heap) (hbl : b < s.heap.size) {I : RO → EV → EV → EV → SH → TP → LW → SE → RM → Option RM → Option RM → Prop} (hS : S_set I) (hB : cells + 37 ≤ 600000 ∧ slots + 2859 ≤ 7302249) {x3 : Int32} (h1 : vp_in (x3 + 1) L) (h2 : vp_in (x3 + 2) L) (h3 : vp_in (x3 + 3) L) (h4 : vp_in (x3 + 4) L) (h5 : vp_in (x3 + 5) L)
    (next : lawNext p l e s m below meth c b g I Q (cells + 37) (slots + 2859) x3)
    (ro : RO) (nw : EV) (kp : EV) (dr : EV) (sh : SH) (tp : TP) (lw : LW) (se : SE) (rm : RM) (K : Option RM) (T : Option RM) (hI : I ro nw kp dr sh tp lw se rm K T) (a0 a1 a2 a3 a4 a5 a6 a7 am aK aT : Nat → Nat) (H : Heap) (locs : List Loc) (ls : Array Slot) (hw : gW g (fun q : Nat => s.heap.size ≤ q) s.heap (lawW g ro nw kp dr sh tp lw se rm K T a0 a1 a2 a3 a4 a5 a6 a7 am aK aT) H locs) (hl : lv_has ls 4 [(0, .ref b), (1, .ref (a0 0)), (2, .ref (am 0)), (3, .int x3)]) : W p l e room_1 s m #[Value.ref b] below meth c H locs cells slots Q (F0 m 299 ls []) := by
  have hx := X.1.1
  have hb := X.1.2.1
  have hbA : ¬ (fun q : Nat => s.heap.size ≤ q) b := Nat.not_le.mpr hbl
  refine lv_aload_n hx hb dL_law_299 rfl (lv_at hl 1 rfl) ?_
  refine lv_aload_n hx hb dL_law_300 rfl (lv_at hl 0 rfl) ?_
  refine lv_iload_n hx hb dL_law_301 rfl (lv_at hl 3 rfl) ?_
  refine lv_iconst (v := 1) hx hb dL_law_302 (by decide) ?_
  refine lv_iadd hx hb dL_law_303 ?_
  refine va_sld hx hb hX hbl hbA hw.2.2.1 h1 dL_law_304 ?_
  refine lv_aload_n hx hb dL_law_305 rfl (lv_at hl 0 rfl) ?_
  refine lv_iload_n hx hb dL_law_306 rfl (lv_at hl 3 rfl) ?_
  refine lv_iconst (v := 2) hx hb dL_law_307 (by decide) ?_
  refine lv_iadd hx hb dL_law_308 ?_
  refine va_sld hx hb hX hbl hbA hw.2.2.1 h2 dL_law_309 ?_
  refine lv_aload_n hx hb dL_law_310 rfl (lv_at hl 0 rfl) ?_
  refine lv_iload_n hx hb dL_law_311 rfl (lv_at hl 3 rfl) ?_
  refine lv_iconst (v := 3) hx hb dL_law_312 (by decide) ?_
  refine lv_iadd hx hb dL_law_313 ?_
  refine va_sld hx hb hX hbl hbA hw.2.2.1 h3 dL_law_314 ?_
  refine lv_i2l (v := (xs (x3 + 3).toNatClampNeg).toInt64) hx hb dL_law_315 rfl ?_
  refine lv_bipush (v := 32) hx hb dL_law_316 (by decide) ?_
  refine lv_lshl (v := (jlshl ((xs (x3 + 3).toNatClampNeg).toInt64) (32 : Int32))) hx hb dL_law_318 rfl ?_
  refine lv_aload_n hx hb dL_law_319 rfl (lv_at hl 0 rfl) ?_
  refine lv_iload_n hx hb dL_law_320 rfl (lv_at hl 3 rfl) ?_
  refine lv_iconst (v := 4) hx hb dL_law_321 (by decide) ?_
  refine lv_iadd hx hb dL_law_322 ?_
  refine va_sld hx hb hX hbl hbA hw.2.2.1 h4 dL_law_323 ?_
  refine lv_i2l (v := (xs (x3 + 4).toNatClampNeg).toInt64) hx hb dL_law_324 rfl ?_
  refine lv_ldc2 hx hb X.1.2.2.2.1 (gK1 X _ kq_L_18) dL_law_325 ?_
  refine lv_land hx hb dL_law_328 ?_
  refine lv_lor hx hb dL_law_329 ?_
  obtain ⟨o1, ho1, hS⟩ := hS ro nw kp dr sh tp lw se rm K T hI (xs (x3 + 1).toNatClampNeg) (xs (x3 + 2).toNatClampNeg) ((jlshl ((xs (x3 + 3).toNatClampNeg).toInt64) (32 : Int32)) ||| ((xs (x3 + 4).toNatClampNeg).toInt64 &&& (4294967295 : Int64)))
  refine g_calli0 (isC := [0, 4]) (gn := fun _ => ([wRO g a0 (a1 0) (a2 0) (a3 0) (a4 0) (a5 0) (a6 0) (a7 0) o1.2.1, wEV g a1 nw, wEV g a2 kp, wEV g a3 dr, wSH g a4 o1.2.2, wTP g a5 tp, wLW g a6 lw, wSE g a7 se, wRM g am (K.map fun _ => aK 0) (T.map fun _ => aT 0) rm] ++ (oW g aK K ++ oW g aT T))) (g_runV (isC := [0, 4]) (rest := []) (As := [.int (xs (x3 + 1).toNatClampNeg), .int (xs (x3 + 2).toNatClampNeg), .long ((jlshl ((xs (x3 + 3).toNatClampNeg).toInt64) (32 : Int32)) ||| ((xs (x3 + 4).toNatClampNeg).toInt64 &&& (4294967295 : Int64)))]) X hw (c_X5_set l (ad := a0) (adS := a4) (aN := (a1 0)) (aK := (a2 0)) (aD := (a3 0)) (aT := (a5 0)) (aL := (a6 0)) (aE := (a7 0)) ho1) rfl kM_X5_set ki_X5_set ks_X5_set km_L_20 ⟨(Nat.le_of_ble_eq_true rfl), (Nat.le_of_ble_eq_true rfl)⟩ (law_c hB (by decide) (by decide)) rfl rfl ⟨_, _, _, _, rfl, rfl, rfl, rfl⟩ rfl hl.1 rfl (Nat.le_of_ble_eq_true rfl) dL_law_330) hw rfl rfl (fun _ => (Nat.le_of_ble_eq_true rfl)) (fun _ => (gputs_eq rfl).trans rfl) rfl rfl (fun _ H locs hw => ?_)
  refine lv_aload_n hx hb dL_law_333 rfl (lv_at hl 2 rfl) ?_
  refine lv_aload_n hx hb dL_law_334 rfl (lv_at hl 0 rfl) ?_
  refine lv_iload_n hx hb dL_law_335 rfl (lv_at hl 3 rfl) ?_
  refine lv_iconst (v := 1) hx hb dL_law_336 (by decide) ?_
  refine lv_iadd hx hb dL_law_337 ?_
  refine va_sld hx hb hX hbl hbA hw.2.2.1 h1 dL_law_338 ?_
  refine lv_aload_n hx hb dL_law_339 rfl (lv_at hl 0 rfl) ?_
  refine lv_iload_n hx hb dL_law_340 rfl (lv_at hl 3 rfl) ?_
  refine lv_iconst (v := 2) hx hb dL_law_341 (by decide) ?_
  refine lv_iadd hx hb dL_law_342 ?_
  refine va_sld hx hb hX hbl hbA hw.2.2.1 h2 dL_law_343 ?_
  refine lv_aload_n hx hb dL_law_344 rfl (lv_at hl 0 rfl) ?_
  refine lv_iload_n hx hb dL_law_345 rfl (lv_at hl 3 rfl) ?_
  refine lv_iconst (v := 3) hx hb dL_law_346 (by decide) ?_
  refine lv_iadd hx hb dL_law_347 ?_
  refine va_sld hx hb hX hbl hbA hw.2.2.1 h3 dL_law_348 ?_
  refine lv_i2l (v := (xs (x3 + 3).toNatClampNeg).toInt64) hx hb dL_law_349 rfl ?_
  refine lv_bipush (v := 32) hx hb dL_law_350 (by decide) ?_
  refine lv_lshl (v := (jlshl ((xs (x3 + 3).toNatClampNeg).toInt64) (32 : Int32))) hx hb dL_law_352 rfl ?_
  refine lv_aload_n hx hb dL_law_353 rfl (lv_at hl 0 rfl) ?_
  refine lv_iload_n hx hb dL_law_354 rfl (lv_at hl 3 rfl) ?_
  refine lv_iconst (v := 4) hx hb dL_law_355 (by decide) ?_
  refine lv_iadd hx hb dL_law_356 ?_
  refine va_sld hx hb hX hbl hbA hw.2.2.1 h4 dL_law_357 ?_
  refine lv_i2l (v := (xs (x3 + 4).toNatClampNeg).toInt64) hx hb dL_law_358 rfl ?_
  refine lv_ldc2 hx hb X.1.2.2.2.1 (gK1 X _ kq_L_18) dL_law_359 ?_
  refine lv_land hx hb dL_law_362 ?_
  refine lv_lor hx hb dL_law_363 ?_
  obtain ⟨o2, ho2, heq, hI⟩ := hS
  refine g_calli0 (isC := [8]) (gn := fun _ => ([wRO g a0 (a1 0) (a2 0) (a3 0) (a4 0) (a5 0) (a6 0) (a7 0) o1.2.1, wEV g a1 nw, wEV g a2 kp, wEV g a3 dr, wSH g a4 o1.2.2, wTP g a5 tp, wLW g a6 lw, wSE g a7 se, wRM g am (K.map fun _ => aK 0) (T.map fun _ => aT 0) o2.2] ++ (oW g aK K ++ oW g aT T))) (g_runV (isC := [8]) (rest := [.int o1.1]) (As := [.int (xs (x3 + 1).toNatClampNeg), .int (xs (x3 + 2).toNatClampNeg), .long ((jlshl ((xs (x3 + 3).toNatClampNeg).toInt64) (32 : Int32)) ||| ((xs (x3 + 4).toNatClampNeg).toInt64 &&& (4294967295 : Int64)))]) X hw (c_X6_set l (ad := am) (eK := (K.map fun _ => aK 0)) (eT := (T.map fun _ => aT 0)) ho2) rfl kM_X6_set ki_X6_set ks_X6_set km_L_24 ⟨(Nat.le_of_ble_eq_true rfl), (Nat.le_of_ble_eq_true rfl)⟩ (law_c hB (by decide) (by decide)) rfl rfl ⟨_, _, _, _, rfl, rfl, rfl, rfl⟩ rfl hl.1 rfl (Nat.le_of_ble_eq_true rfl) dL_law_364) hw rfl rfl (fun _ => (Nat.le_of_ble_eq_true rfl)) (fun _ => (gputs_eq rfl).trans rfl) rfl rfl (fun _ H locs hw => ?_)
  refine lv_icmp_eq (tgt := 1985) hx hb dL_law_367 (by decide) (fun _ => ?_) (fun z => absurd heq z)
  refine W.widen (k := cells + 37) (n := slots + 2859) (by first | omega | exact Nat.add_le_add_left (Nat.le_of_ble_eq_true rfl) _) (by first | omega | exact Nat.add_le_add_left (Nat.le_of_ble_eq_true rfl) _) ?_
  exact next _ _ _ _ _ _ _ _ _ _ _ hI a0 a1 a2 a3 a4 a5 a6 a7 am aK aT _ _ _ hw hl
set_option maxHeartbeats 4000000 in
set_option maxRecDepth 100000 in
theorem law_copy (X : gC p s m meth c #[Value.ref b] RL cL_law 4 g (fun q : Nat => s.heap.size ≤ q)) (hX : va_X b L xs s s.heap) (hbl : b < s.heap.size) {I : RO → EV → EV → EV → SH → TP → LW → SE → RM → Option RM → Option RM → Prop} (hS : S_copy I) (hB : cells + 37 ≤ 600000 ∧ slots + 2859 ≤ 7302249) {x3 : Int32} (h1 : vp_in (x3 + 1) L) (h2 : vp_in (x3 + 2) L) (h3 : vp_in (x3 + 3) L) (h4 : vp_in (x3 + 4) L) (h5 : vp_in (x3 + 5) L)
    (next : lawNext p l e s m below meth c b g I Q (cells + 37) (slots + 2859) x3)
    (ro : RO) (nw : EV) (kp : EV) (dr : EV) (sh : SH) (tp : TP) (lw : LW) (se : SE) (rm : RM) (K : Option RM) (T : Option RM) (hI : I ro nw kp dr sh tp lw se rm K T) (a0 a1 a2 a3 a4 a5 a6 a7 am aK aT : Nat → Nat) (H : Heap) (locs : List Loc) (ls : Array Slot) (hw : gW g (fun q : Nat => s.heap.size ≤ q) s.heap (lawW g ro nw kp dr sh tp lw se rm K T a0 a1 a2 a3 a4 a5 a6 a7 am aK aT) H locs) (hl : lv_has ls 4 [(0, .ref b), (1, .ref (a0 0)), (2, .ref (am 0)), (3, .int x3)]) : W p l e room_1 s m #[Value.ref b] below meth c H locs cells slots Q (F0 m 372 ls []) := by
  have hx := X.1.1
  have hb := X.1.2.1
  have hbA : ¬ (fun q : Nat => s.heap.size ≤ q) b := Nat.not_le.mpr hbl
  refine lv_aload_n hx hb dL_law_372 rfl (lv_at hl 1 rfl) ?_
  refine lv_aload_n hx hb dL_law_373 rfl (lv_at hl 0 rfl) ?_
  refine lv_iload_n hx hb dL_law_374 rfl (lv_at hl 3 rfl) ?_
  refine lv_iconst (v := 1) hx hb dL_law_375 (by decide) ?_
  refine lv_iadd hx hb dL_law_376 ?_
  refine va_sld hx hb hX hbl hbA hw.2.2.1 h1 dL_law_377 ?_
  refine lv_aload_n hx hb dL_law_378 rfl (lv_at hl 0 rfl) ?_
  refine lv_iload_n hx hb dL_law_379 rfl (lv_at hl 3 rfl) ?_
  refine lv_iconst (v := 2) hx hb dL_law_380 (by decide) ?_
  refine lv_iadd hx hb dL_law_381 ?_
  refine va_sld hx hb hX hbl hbA hw.2.2.1 h2 dL_law_382 ?_
  refine lv_aload_n hx hb dL_law_383 rfl (lv_at hl 0 rfl) ?_
  refine lv_iload_n hx hb dL_law_384 rfl (lv_at hl 3 rfl) ?_
  refine lv_iconst (v := 3) hx hb dL_law_385 (by decide) ?_
  refine lv_iadd hx hb dL_law_386 ?_
  refine va_sld hx hb hX hbl hbA hw.2.2.1 h3 dL_law_387 ?_
  refine lv_aload_n hx hb dL_law_388 rfl (lv_at hl 0 rfl) ?_
  refine lv_iload_n hx hb dL_law_389 rfl (lv_at hl 3 rfl) ?_
  refine lv_iconst (v := 4) hx hb dL_law_390 (by decide) ?_
  refine lv_iadd hx hb dL_law_391 ?_
  refine va_sld hx hb hX hbl hbA hw.2.2.1 h4 dL_law_392 ?_
  refine lv_aload_n hx hb dL_law_393 rfl (lv_at hl 0 rfl) ?_
  refine lv_iload_n hx hb dL_law_394 rfl (lv_at hl 3 rfl) ?_
  refine lv_iconst (v := 5) hx hb dL_law_395 (by decide) ?_
  refine lv_iadd hx hb dL_law_396 ?_
  refine va_sld hx hb hX hbl hbA hw.2.2.1 h5 dL_law_397 ?_
  obtain ⟨o1, ho1, hS⟩ := hS ro nw kp dr sh tp lw se rm K T hI (xs (x3 + 1).toNatClampNeg) (xs (x3 + 2).toNatClampNeg) (xs (x3 + 3).toNatClampNeg) (xs (x3 + 4).toNatClampNeg) (xs (x3 + 5).toNatClampNeg)
  refine g_calli0 (isC := [0, 4]) (gn := fun _ => ([wRO g a0 (a1 0) (a2 0) (a3 0) (a4 0) (a5 0) (a6 0) (a7 0) o1.2.1, wEV g a1 nw, wEV g a2 kp, wEV g a3 dr, wSH g a4 o1.2.2, wTP g a5 tp, wLW g a6 lw, wSE g a7 se, wRM g am (K.map fun _ => aK 0) (T.map fun _ => aT 0) rm] ++ (oW g aK K ++ oW g aT T))) (g_runV (isC := [0, 4]) (rest := []) (As := [.int (xs (x3 + 1).toNatClampNeg), .int (xs (x3 + 2).toNatClampNeg), .int (xs (x3 + 3).toNatClampNeg), .int (xs (x3 + 4).toNatClampNeg), .int (xs (x3 + 5).toNatClampNeg)]) X hw (c_X5_copy l (ad := a0) (adS := a4) (aN := (a1 0)) (aK := (a2 0)) (aD := (a3 0)) (aT := (a5 0)) (aL := (a6 0)) (aE := (a7 0)) ho1) rfl kM_X5_copy ki_X5_copy ks_X5_copy km_L_25 ⟨(Nat.le_of_ble_eq_true rfl), (Nat.le_of_ble_eq_true rfl)⟩ (law_c hB (by decide) (by decide)) rfl rfl ⟨_, _, _, _, rfl, rfl, rfl, rfl⟩ rfl hl.1 rfl (Nat.le_of_ble_eq_true rfl) dL_law_398) hw rfl rfl (fun _ => (Nat.le_of_ble_eq_true rfl)) (fun _ => (gputs_eq rfl).trans rfl) rfl rfl (fun _ H locs hw => ?_)
  refine lv_aload_n hx hb dL_law_401 rfl (lv_at hl 2 rfl) ?_
  refine lv_aload_n hx hb dL_law_402 rfl (lv_at hl 0 rfl) ?_
  refine lv_iload_n hx hb dL_law_403 rfl (lv_at hl 3 rfl) ?_
  refine lv_iconst (v := 1) hx hb dL_law_404 (by decide) ?_
  refine lv_iadd hx hb dL_law_405 ?_
  refine va_sld hx hb hX hbl hbA hw.2.2.1 h1 dL_law_406 ?_
  refine lv_aload_n hx hb dL_law_407 rfl (lv_at hl 0 rfl) ?_
  refine lv_iload_n hx hb dL_law_408 rfl (lv_at hl 3 rfl) ?_
  refine lv_iconst (v := 2) hx hb dL_law_409 (by decide) ?_
  refine lv_iadd hx hb dL_law_410 ?_
  refine va_sld hx hb hX hbl hbA hw.2.2.1 h2 dL_law_411 ?_
  refine lv_aload_n hx hb dL_law_412 rfl (lv_at hl 0 rfl) ?_
  refine lv_iload_n hx hb dL_law_413 rfl (lv_at hl 3 rfl) ?_
  refine lv_iconst (v := 3) hx hb dL_law_414 (by decide) ?_
  refine lv_iadd hx hb dL_law_415 ?_
  refine va_sld hx hb hX hbl hbA hw.2.2.1 h3 dL_law_416 ?_
  refine lv_aload_n hx hb dL_law_417 rfl (lv_at hl 0 rfl) ?_
  refine lv_iload_n hx hb dL_law_418 rfl (lv_at hl 3 rfl) ?_
  refine lv_iconst (v := 4) hx hb dL_law_419 (by decide) ?_
  refine lv_iadd hx hb dL_law_420 ?_
  refine va_sld hx hb hX hbl hbA hw.2.2.1 h4 dL_law_421 ?_
  refine lv_aload_n hx hb dL_law_422 rfl (lv_at hl 0 rfl) ?_
  refine lv_iload_n hx hb dL_law_423 rfl (lv_at hl 3 rfl) ?_
  refine lv_iconst (v := 5) hx hb dL_law_424 (by decide) ?_
  refine lv_iadd hx hb dL_law_425 ?_
  refine va_sld hx hb hX hbl hbA hw.2.2.1 h5 dL_law_426 ?_
  obtain ⟨o2, ho2, heq, hI⟩ := hS
  refine g_calli0 (isC := [8]) (gn := fun _ => ([wRO g a0 (a1 0) (a2 0) (a3 0) (a4 0) (a5 0) (a6 0) (a7 0) o1.2.1, wEV g a1 nw, wEV g a2 kp, wEV g a3 dr, wSH g a4 o1.2.2, wTP g a5 tp, wLW g a6 lw, wSE g a7 se, wRM g am (K.map fun _ => aK 0) (T.map fun _ => aT 0) o2.2] ++ (oW g aK K ++ oW g aT T))) (g_runV (isC := [8]) (rest := [.int o1.1]) (As := [.int (xs (x3 + 1).toNatClampNeg), .int (xs (x3 + 2).toNatClampNeg), .int (xs (x3 + 3).toNatClampNeg), .int (xs (x3 + 4).toNatClampNeg), .int (xs (x3 + 5).toNatClampNeg)]) X hw (c_X6_copy l (ad := am) (eK := (K.map fun _ => aK 0)) (eT := (T.map fun _ => aT 0)) ho2) rfl kM_X6_copy ki_X6_copy ks_X6_copy km_L_29 ⟨(Nat.le_of_ble_eq_true rfl), (Nat.le_of_ble_eq_true rfl)⟩ (law_c hB (by decide) (by decide)) rfl rfl ⟨_, _, _, _, rfl, rfl, rfl, rfl⟩ rfl hl.1 rfl (Nat.le_of_ble_eq_true rfl) dL_law_427) hw rfl rfl (fun _ => (Nat.le_of_ble_eq_true rfl)) (fun _ => (gputs_eq rfl).trans rfl) rfl rfl (fun _ H locs hw => ?_)
  refine lv_icmp_eq (tgt := 1985) hx hb dL_law_430 (by decide) (fun _ => ?_) (fun z => absurd heq z)
  refine W.widen (k := cells + 37) (n := slots + 2859) (by first | omega | exact Nat.add_le_add_left (Nat.le_of_ble_eq_true rfl) _) (by first | omega | exact Nat.add_le_add_left (Nat.le_of_ble_eq_true rfl) _) ?_
  exact next _ _ _ _ _ _ _ _ _ _ _ hI a0 a1 a2 a3 a4 a5 a6 a7 am aK aT _ _ _ hw hl
set_option maxHeartbeats 4000000 in
set_option maxRecDepth 100000 in
theorem law_element (X : gC p s m meth c #[Value.ref b] RL cL_law 4 g (fun q : Nat => s.heap.size ≤ q)) (hX : va_X b L xs s s.heap) (hbl : b < s.heap.size) {I : RO → EV → EV → EV → SH → TP → LW → SE → RM → Option RM → Option RM → Prop} (hS : S_element I) (hB : cells + 37 ≤ 600000 ∧ slots + 2859 ≤ 7302249) {x3 : Int32} (h1 : vp_in (x3 + 1) L) (h2 : vp_in (x3 + 2) L) (h3 : vp_in (x3 + 3) L) (h4 : vp_in (x3 + 4) L) (h5 : vp_in (x3 + 5) L)
    (next : lawNext p l e s m below meth c b g I Q (cells + 37) (slots + 2859) x3)
    (ro : RO) (nw : EV) (kp : EV) (dr : EV) (sh : SH) (tp : TP) (lw : LW) (se : SE) (rm : RM) (K : Option RM) (T : Option RM) (hI : I ro nw kp dr sh tp lw se rm K T) (a0 a1 a2 a3 a4 a5 a6 a7 am aK aT : Nat → Nat) (H : Heap) (locs : List Loc) (ls : Array Slot) (hw : gW g (fun q : Nat => s.heap.size ≤ q) s.heap (lawW g ro nw kp dr sh tp lw se rm K T a0 a1 a2 a3 a4 a5 a6 a7 am aK aT) H locs) (hl : lv_has ls 4 [(0, .ref b), (1, .ref (a0 0)), (2, .ref (am 0)), (3, .int x3)]) : W p l e room_1 s m #[Value.ref b] below meth c H locs cells slots Q (F0 m 435 ls []) := by
  have hx := X.1.1
  have hb := X.1.2.1
  have hbA : ¬ (fun q : Nat => s.heap.size ≤ q) b := Nat.not_le.mpr hbl
  refine lv_aload_n hx hb dL_law_435 rfl (lv_at hl 1 rfl) ?_
  refine lv_aload_n hx hb dL_law_436 rfl (lv_at hl 0 rfl) ?_
  refine lv_iload_n hx hb dL_law_437 rfl (lv_at hl 3 rfl) ?_
  refine lv_iconst (v := 1) hx hb dL_law_438 (by decide) ?_
  refine lv_iadd hx hb dL_law_439 ?_
  refine va_sld hx hb hX hbl hbA hw.2.2.1 h1 dL_law_440 ?_
  refine lv_aload_n hx hb dL_law_441 rfl (lv_at hl 0 rfl) ?_
  refine lv_iload_n hx hb dL_law_442 rfl (lv_at hl 3 rfl) ?_
  refine lv_iconst (v := 2) hx hb dL_law_443 (by decide) ?_
  refine lv_iadd hx hb dL_law_444 ?_
  refine va_sld hx hb hX hbl hbA hw.2.2.1 h2 dL_law_445 ?_
  obtain ⟨o1, ho1, hS⟩ := hS ro nw kp dr sh tp lw se rm K T hI (xs (x3 + 1).toNatClampNeg) (xs (x3 + 2).toNatClampNeg)
  refine g_calll0 (isC := [0, 4]) (gn := fun _ => ([wRO g a0 (a1 0) (a2 0) (a3 0) (a4 0) (a5 0) (a6 0) (a7 0) ro, wEV g a1 nw, wEV g a2 kp, wEV g a3 dr, wSH g a4 sh, wTP g a5 tp, wLW g a6 lw, wSE g a7 se, wRM g am (K.map fun _ => aK 0) (T.map fun _ => aT 0) rm] ++ (oW g aK K ++ oW g aT T))) (g_runV (isC := [0, 4]) (rest := []) (As := [.int (xs (x3 + 1).toNatClampNeg), .int (xs (x3 + 2).toNatClampNeg)]) X hw (c_X5_element l (ad := a0) (adS := a4) (aN := (a1 0)) (aK := (a2 0)) (aD := (a3 0)) (aT := (a5 0)) (aL := (a6 0)) (aE := (a7 0)) ho1) rfl kM_X5_element ki_X5_element ks_X5_element km_L_30 ⟨(Nat.le_of_ble_eq_true rfl), (Nat.le_of_ble_eq_true rfl)⟩ (law_c hB (by decide) (by decide)) rfl rfl ⟨_, _, _, _, rfl, rfl, rfl, rfl⟩ rfl hl.1 rfl (Nat.le_of_ble_eq_true rfl) dL_law_446) hw rfl rfl (fun _ => (Nat.le_of_ble_eq_true rfl)) (fun _ => (gputs_eq rfl).trans rfl) rfl rfl (fun _ H locs hw => ?_)
  refine lv_aload_n hx hb dL_law_449 rfl (lv_at hl 2 rfl) ?_
  refine lv_aload_n hx hb dL_law_450 rfl (lv_at hl 0 rfl) ?_
  refine lv_iload_n hx hb dL_law_451 rfl (lv_at hl 3 rfl) ?_
  refine lv_iconst (v := 1) hx hb dL_law_452 (by decide) ?_
  refine lv_iadd hx hb dL_law_453 ?_
  refine va_sld hx hb hX hbl hbA hw.2.2.1 h1 dL_law_454 ?_
  refine lv_aload_n hx hb dL_law_455 rfl (lv_at hl 0 rfl) ?_
  refine lv_iload_n hx hb dL_law_456 rfl (lv_at hl 3 rfl) ?_
  refine lv_iconst (v := 2) hx hb dL_law_457 (by decide) ?_
  refine lv_iadd hx hb dL_law_458 ?_
  refine va_sld hx hb hX hbl hbA hw.2.2.1 h2 dL_law_459 ?_
  obtain ⟨o2, ho2, heq, hI⟩ := hS
  refine g_calll0 (isC := [8]) (gn := fun _ => ([wRO g a0 (a1 0) (a2 0) (a3 0) (a4 0) (a5 0) (a6 0) (a7 0) ro, wEV g a1 nw, wEV g a2 kp, wEV g a3 dr, wSH g a4 sh, wTP g a5 tp, wLW g a6 lw, wSE g a7 se, wRM g am (K.map fun _ => aK 0) (T.map fun _ => aT 0) rm] ++ (oW g aK K ++ oW g aT T))) (g_runV (isC := [8]) (rest := [.long o1]) (As := [.int (xs (x3 + 1).toNatClampNeg), .int (xs (x3 + 2).toNatClampNeg)]) X hw (c_X6_element l (ad := am) (eK := (K.map fun _ => aK 0)) (eT := (T.map fun _ => aT 0)) ho2) rfl kM_X6_element ki_X6_element ks_X6_element km_L_34 ⟨(Nat.le_of_ble_eq_true rfl), (Nat.le_of_ble_eq_true rfl)⟩ (law_c hB (by decide) (by decide)) rfl rfl ⟨_, _, _, _, rfl, rfl, rfl, rfl⟩ rfl hl.1 rfl (Nat.le_of_ble_eq_true rfl) dL_law_460) hw rfl rfl (fun _ => (Nat.le_of_ble_eq_true rfl)) (fun _ => (gputs_eq rfl).trans rfl) rfl rfl (fun _ H locs hw => ?_)
  refine W.lcmp hx hb dL_law_463 ?_
  refine lv_if_eq (tgt := 1985) hx hb dL_law_464 (by decide) (fun _ => ?_) (fun z => absurd (lg_eq heq) z)
  refine W.widen (k := cells + 37) (n := slots + 2859) (by first | omega | exact Nat.add_le_add_left (Nat.le_of_ble_eq_true rfl) _) (by first | omega | exact Nat.add_le_add_left (Nat.le_of_ble_eq_true rfl) _) ?_
  exact next _ _ _ _ _ _ _ _ _ _ _ hI a0 a1 a2 a3 a4 a5 a6 a7 am aK aT _ _ _ hw hl
set_option maxHeartbeats 4000000 in
set_option maxRecDepth 100000 in
theorem law_holds (X : gC p s m meth c #[Value.ref b] RL cL_law 4 g (fun q : Nat => s.heap.size ≤ q)) (hX : va_X b L xs s s.heap) (hbl : b < s.heap.size) {I : RO → EV → EV → EV → SH → TP → LW → SE → RM → Option RM → Option RM → Prop} (hS : S_holds I) (hB : cells + 37 ≤ 600000 ∧ slots + 2859 ≤ 7302249) {x3 : Int32} (h1 : vp_in (x3 + 1) L) (h2 : vp_in (x3 + 2) L) (h3 : vp_in (x3 + 3) L) (h4 : vp_in (x3 + 4) L) (h5 : vp_in (x3 + 5) L)
    (next : lawNext p l e s m below meth c b g I Q (cells + 37) (slots + 2859) x3)
    (ro : RO) (nw : EV) (kp : EV) (dr : EV) (sh : SH) (tp : TP) (lw : LW) (se : SE) (rm : RM) (K : Option RM) (T : Option RM) (hI : I ro nw kp dr sh tp lw se rm K T) (a0 a1 a2 a3 a4 a5 a6 a7 am aK aT : Nat → Nat) (H : Heap) (locs : List Loc) (ls : Array Slot) (hw : gW g (fun q : Nat => s.heap.size ≤ q) s.heap (lawW g ro nw kp dr sh tp lw se rm K T a0 a1 a2 a3 a4 a5 a6 a7 am aK aT) H locs) (hl : lv_has ls 4 [(0, .ref b), (1, .ref (a0 0)), (2, .ref (am 0)), (3, .int x3)]) : W p l e room_1 s m #[Value.ref b] below meth c H locs cells slots Q (F0 m 469 ls []) := by
  have hx := X.1.1
  have hb := X.1.2.1
  have hbA : ¬ (fun q : Nat => s.heap.size ≤ q) b := Nat.not_le.mpr hbl
  refine lv_aload_n hx hb dL_law_469 rfl (lv_at hl 1 rfl) ?_
  refine lv_aload_n hx hb dL_law_470 rfl (lv_at hl 0 rfl) ?_
  refine lv_iload_n hx hb dL_law_471 rfl (lv_at hl 3 rfl) ?_
  refine lv_iconst (v := 1) hx hb dL_law_472 (by decide) ?_
  refine lv_iadd hx hb dL_law_473 ?_
  refine va_sld hx hb hX hbl hbA hw.2.2.1 h1 dL_law_474 ?_
  obtain ⟨o1, ho1, hS⟩ := hS ro nw kp dr sh tp lw se rm K T hI (xs (x3 + 1).toNatClampNeg)
  refine g_calli0 (isC := [0, 4]) (gn := fun _ => ([wRO g a0 (a1 0) (a2 0) (a3 0) (a4 0) (a5 0) (a6 0) (a7 0) ro, wEV g a1 nw, wEV g a2 kp, wEV g a3 dr, wSH g a4 sh, wTP g a5 tp, wLW g a6 lw, wSE g a7 se, wRM g am (K.map fun _ => aK 0) (T.map fun _ => aT 0) rm] ++ (oW g aK K ++ oW g aT T))) (g_runV (isC := [0, 4]) (rest := []) (As := [.int (xs (x3 + 1).toNatClampNeg)]) X hw (c_X5_holds l (ad := a0) (adS := a4) (aN := (a1 0)) (aK := (a2 0)) (aD := (a3 0)) (aT := (a5 0)) (aL := (a6 0)) (aE := (a7 0)) ho1) rfl kM_X5_holds ki_X5_holds ks_X5_holds km_L_35 ⟨(Nat.le_of_ble_eq_true rfl), (Nat.le_of_ble_eq_true rfl)⟩ (law_c hB (by decide) (by decide)) rfl rfl ⟨_, _, _, _, rfl, rfl, rfl, rfl⟩ rfl hl.1 rfl (Nat.le_of_ble_eq_true rfl) dL_law_475) hw rfl rfl (fun _ => (Nat.le_of_ble_eq_true rfl)) (fun _ => (gputs_eq rfl).trans rfl) rfl rfl (fun _ H locs hw => ?_)
  refine lv_aload_n hx hb dL_law_478 rfl (lv_at hl 2 rfl) ?_
  refine lv_aload_n hx hb dL_law_479 rfl (lv_at hl 0 rfl) ?_
  refine lv_iload_n hx hb dL_law_480 rfl (lv_at hl 3 rfl) ?_
  refine lv_iconst (v := 1) hx hb dL_law_481 (by decide) ?_
  refine lv_iadd hx hb dL_law_482 ?_
  refine va_sld hx hb hX hbl hbA hw.2.2.1 h1 dL_law_483 ?_
  obtain ⟨o2, ho2, heq, hI⟩ := hS
  refine g_calli0 (isC := [8]) (gn := fun _ => ([wRO g a0 (a1 0) (a2 0) (a3 0) (a4 0) (a5 0) (a6 0) (a7 0) ro, wEV g a1 nw, wEV g a2 kp, wEV g a3 dr, wSH g a4 sh, wTP g a5 tp, wLW g a6 lw, wSE g a7 se, wRM g am (K.map fun _ => aK 0) (T.map fun _ => aT 0) rm] ++ (oW g aK K ++ oW g aT T))) (g_runV (isC := [8]) (rest := [.int o1]) (As := [.int (xs (x3 + 1).toNatClampNeg)]) X hw (c_X6_holds l (ad := am) (eK := (K.map fun _ => aK 0)) (eT := (T.map fun _ => aT 0)) ho2) rfl kM_X6_holds ki_X6_holds ks_X6_holds km_L_39 ⟨(Nat.le_of_ble_eq_true rfl), (Nat.le_of_ble_eq_true rfl)⟩ (law_c hB (by decide) (by decide)) rfl rfl ⟨_, _, _, _, rfl, rfl, rfl, rfl⟩ rfl hl.1 rfl (Nat.le_of_ble_eq_true rfl) dL_law_484) hw rfl rfl (fun _ => (Nat.le_of_ble_eq_true rfl)) (fun _ => (gputs_eq rfl).trans rfl) rfl rfl (fun _ H locs hw => ?_)
  refine lv_icmp_eq (tgt := 1985) hx hb dL_law_487 (by decide) (fun _ => ?_) (fun z => absurd heq z)
  refine W.widen (k := cells + 37) (n := slots + 2859) (by first | omega | exact Nat.add_le_add_left (Nat.le_of_ble_eq_true rfl) _) (by first | omega | exact Nat.add_le_add_left (Nat.le_of_ble_eq_true rfl) _) ?_
  exact next _ _ _ _ _ _ _ _ _ _ _ hI a0 a1 a2 a3 a4 a5 a6 a7 am aK aT _ _ _ hw hl
set_option maxHeartbeats 4000000 in
set_option maxRecDepth 100000 in
theorem law_show (X : gC p s m meth c #[Value.ref b] RL cL_law 4 g (fun q : Nat => s.heap.size ≤ q)) (hX : va_X b L xs s s.heap) (hbl : b < s.heap.size) {I : RO → EV → EV → EV → SH → TP → LW → SE → RM → Option RM → Option RM → Prop} (hS : S_show I) (hB : cells + 37 ≤ 600000 ∧ slots + 2859 ≤ 7302249) {x3 : Int32} (h1 : vp_in (x3 + 1) L) (h2 : vp_in (x3 + 2) L) (h3 : vp_in (x3 + 3) L) (h4 : vp_in (x3 + 4) L) (h5 : vp_in (x3 + 5) L)
    (next : lawNext p l e s m below meth c b g I Q (cells + 37) (slots + 2859) x3)
    (ro : RO) (nw : EV) (kp : EV) (dr : EV) (sh : SH) (tp : TP) (lw : LW) (se : SE) (rm : RM) (K : Option RM) (T : Option RM) (hI : I ro nw kp dr sh tp lw se rm K T) (a0 a1 a2 a3 a4 a5 a6 a7 am aK aT : Nat → Nat) (H : Heap) (locs : List Loc) (ls : Array Slot) (hw : gW g (fun q : Nat => s.heap.size ≤ q) s.heap (lawW g ro nw kp dr sh tp lw se rm K T a0 a1 a2 a3 a4 a5 a6 a7 am aK aT) H locs) (hl : lv_has ls 4 [(0, .ref b), (1, .ref (a0 0)), (2, .ref (am 0)), (3, .int x3)]) : W p l e room_1 s m #[Value.ref b] below meth c H locs cells slots Q (F0 m 492 ls []) := by
  have hx := X.1.1
  have hb := X.1.2.1
  have hbA : ¬ (fun q : Nat => s.heap.size ≤ q) b := Nat.not_le.mpr hbl
  refine lv_aload_n hx hb dL_law_492 rfl (lv_at hl 1 rfl) ?_
  refine lv_aload_n hx hb dL_law_493 rfl (lv_at hl 0 rfl) ?_
  refine lv_iload_n hx hb dL_law_494 rfl (lv_at hl 3 rfl) ?_
  refine lv_iconst (v := 1) hx hb dL_law_495 (by decide) ?_
  refine lv_iadd hx hb dL_law_496 ?_
  refine va_sld hx hb hX hbl hbA hw.2.2.1 h1 dL_law_497 ?_
  refine lv_aload_n hx hb dL_law_498 rfl (lv_at hl 0 rfl) ?_
  refine lv_iload_n hx hb dL_law_499 rfl (lv_at hl 3 rfl) ?_
  refine lv_iconst (v := 2) hx hb dL_law_500 (by decide) ?_
  refine lv_iadd hx hb dL_law_501 ?_
  refine va_sld hx hb hX hbl hbA hw.2.2.1 h2 dL_law_502 ?_
  obtain ⟨o1, ho1, hS⟩ := hS ro nw kp dr sh tp lw se rm K T hI (xs (x3 + 1).toNatClampNeg) (xs (x3 + 2).toNatClampNeg)
  refine g_calli0 (isC := [0, 1, 4]) (gn := fun _ => ([wRO g a0 (a1 0) (a2 0) (a3 0) (a4 0) (a5 0) (a6 0) (a7 0) o1.2.1, wEV g a1 nw, wEV g a2 kp, wEV g a3 dr, wSH g a4 o1.2.2, wTP g a5 tp, wLW g a6 lw, wSE g a7 se, wRM g am (K.map fun _ => aK 0) (T.map fun _ => aT 0) rm] ++ (oW g aK K ++ oW g aT T))) (g_runV (isC := [0, 1, 4]) (rest := []) (As := [.int (xs (x3 + 1).toNatClampNeg), .int (xs (x3 + 2).toNatClampNeg)]) X hw (c_X5_show l (ad := a0) (adN := a1) (adS := a4) (aK := (a2 0)) (aD := (a3 0)) (aT := (a5 0)) (aL := (a6 0)) (aE := (a7 0)) ho1) rfl kM_X5_show ki_X5_show ks_X5_show km_L_40 ⟨(Nat.le_of_ble_eq_true rfl), (Nat.le_of_ble_eq_true rfl)⟩ (law_c hB (by decide) (by decide)) rfl rfl ⟨_, _, _, _, rfl, rfl, rfl, rfl⟩ rfl hl.1 rfl (Nat.le_of_ble_eq_true rfl) dL_law_503) hw rfl rfl (fun _ => (Nat.le_of_ble_eq_true rfl)) (fun _ => (gputs_eq rfl).trans rfl) rfl rfl (fun _ H locs hw => ?_)
  refine lv_aload_n hx hb dL_law_506 rfl (lv_at hl 2 rfl) ?_
  refine lv_aload_n hx hb dL_law_507 rfl (lv_at hl 0 rfl) ?_
  refine lv_iload_n hx hb dL_law_508 rfl (lv_at hl 3 rfl) ?_
  refine lv_iconst (v := 1) hx hb dL_law_509 (by decide) ?_
  refine lv_iadd hx hb dL_law_510 ?_
  refine va_sld hx hb hX hbl hbA hw.2.2.1 h1 dL_law_511 ?_
  refine lv_aload_n hx hb dL_law_512 rfl (lv_at hl 0 rfl) ?_
  refine lv_iload_n hx hb dL_law_513 rfl (lv_at hl 3 rfl) ?_
  refine lv_iconst (v := 2) hx hb dL_law_514 (by decide) ?_
  refine lv_iadd hx hb dL_law_515 ?_
  refine va_sld hx hb hX hbl hbA hw.2.2.1 h2 dL_law_516 ?_
  obtain ⟨o2, ho2, heq, hI⟩ := hS
  refine g_calli0 (isC := [8]) (gn := fun _ => ([wRO g a0 (a1 0) (a2 0) (a3 0) (a4 0) (a5 0) (a6 0) (a7 0) o1.2.1, wEV g a1 nw, wEV g a2 kp, wEV g a3 dr, wSH g a4 o1.2.2, wTP g a5 tp, wLW g a6 lw, wSE g a7 se, wRM g am (K.map fun _ => aK 0) (T.map fun _ => aT 0) o2.2] ++ (oW g aK K ++ oW g aT T))) (g_runV (isC := [8]) (rest := [.int o1.1]) (As := [.int (xs (x3 + 1).toNatClampNeg), .int (xs (x3 + 2).toNatClampNeg)]) X hw (c_X6_show l (ad := am) (eK := (K.map fun _ => aK 0)) (eT := (T.map fun _ => aT 0)) ho2) rfl kM_X6_show ki_X6_show ks_X6_show km_L_44 ⟨(Nat.le_of_ble_eq_true rfl), (Nat.le_of_ble_eq_true rfl)⟩ (law_c hB (by decide) (by decide)) rfl rfl ⟨_, _, _, _, rfl, rfl, rfl, rfl⟩ rfl hl.1 rfl (Nat.le_of_ble_eq_true rfl) dL_law_517) hw rfl rfl (fun _ => (Nat.le_of_ble_eq_true rfl)) (fun _ => (gputs_eq rfl).trans rfl) rfl rfl (fun _ H locs hw => ?_)
  refine lv_icmp_eq (tgt := 1985) hx hb dL_law_520 (by decide) (fun _ => ?_) (fun z => absurd heq z)
  refine W.widen (k := cells + 37) (n := slots + 2859) (by first | omega | exact Nat.add_le_add_left (Nat.le_of_ble_eq_true rfl) _) (by first | omega | exact Nat.add_le_add_left (Nat.le_of_ble_eq_true rfl) _) ?_
  exact next _ _ _ _ _ _ _ _ _ _ _ hI a0 a1 a2 a3 a4 a5 a6 a7 am aK aT _ _ _ hw hl
set_option maxHeartbeats 4000000 in
set_option maxRecDepth 100000 in
theorem law_says (X : gC p s m meth c #[Value.ref b] RL cL_law 4 g (fun q : Nat => s.heap.size ≤ q)) (hX : va_X b L xs s s.heap) (hbl : b < s.heap.size) {I : RO → EV → EV → EV → SH → TP → LW → SE → RM → Option RM → Option RM → Prop} (hS : S_says I) (hB : cells + 37 ≤ 600000 ∧ slots + 2859 ≤ 7302249) {x3 : Int32} (h1 : vp_in (x3 + 1) L) (h2 : vp_in (x3 + 2) L) (h3 : vp_in (x3 + 3) L) (h4 : vp_in (x3 + 4) L) (h5 : vp_in (x3 + 5) L)
    (next : lawNext p l e s m below meth c b g I Q (cells + 37) (slots + 2859) x3)
    (ro : RO) (nw : EV) (kp : EV) (dr : EV) (sh : SH) (tp : TP) (lw : LW) (se : SE) (rm : RM) (K : Option RM) (T : Option RM) (hI : I ro nw kp dr sh tp lw se rm K T) (a0 a1 a2 a3 a4 a5 a6 a7 am aK aT : Nat → Nat) (H : Heap) (locs : List Loc) (ls : Array Slot) (hw : gW g (fun q : Nat => s.heap.size ≤ q) s.heap (lawW g ro nw kp dr sh tp lw se rm K T a0 a1 a2 a3 a4 a5 a6 a7 am aK aT) H locs) (hl : lv_has ls 4 [(0, .ref b), (1, .ref (a0 0)), (2, .ref (am 0)), (3, .int x3)]) : W p l e room_1 s m #[Value.ref b] below meth c H locs cells slots Q (F0 m 525 ls []) := by
  have hx := X.1.1
  have hb := X.1.2.1
  have hbA : ¬ (fun q : Nat => s.heap.size ≤ q) b := Nat.not_le.mpr hbl
  refine lv_aload_n hx hb dL_law_525 rfl (lv_at hl 1 rfl) ?_
  refine lv_aload_n hx hb dL_law_526 rfl (lv_at hl 0 rfl) ?_
  refine lv_iload_n hx hb dL_law_527 rfl (lv_at hl 3 rfl) ?_
  refine lv_iconst (v := 1) hx hb dL_law_528 (by decide) ?_
  refine lv_iadd hx hb dL_law_529 ?_
  refine va_sld hx hb hX hbl hbA hw.2.2.1 h1 dL_law_530 ?_
  refine lv_aload_n hx hb dL_law_531 rfl (lv_at hl 0 rfl) ?_
  refine lv_iload_n hx hb dL_law_532 rfl (lv_at hl 3 rfl) ?_
  refine lv_iconst (v := 2) hx hb dL_law_533 (by decide) ?_
  refine lv_iadd hx hb dL_law_534 ?_
  refine va_sld hx hb hX hbl hbA hw.2.2.1 h2 dL_law_535 ?_
  obtain ⟨o1, ho1, hS⟩ := hS ro nw kp dr sh tp lw se rm K T hI (xs (x3 + 1).toNatClampNeg) (xs (x3 + 2).toNatClampNeg)
  refine g_calli0 (isC := [0, 1, 4, 6, 7]) (gn := fun _ => ([wRO g a0 (a1 0) (a2 0) (a3 0) (a4 0) (a5 0) (a6 0) (a7 0) o1.2.1, wEV g a1 nw, wEV g a2 kp, wEV g a3 dr, wSH g a4 sh, wTP g a5 tp, wLW g a6 o1.2.2.1, wSE g a7 o1.2.2.2, wRM g am (K.map fun _ => aK 0) (T.map fun _ => aT 0) rm] ++ (oW g aK K ++ oW g aT T))) (g_runV (isC := [0, 1, 4, 6, 7]) (rest := []) (As := [.int (xs (x3 + 1).toNatClampNeg), .int (xs (x3 + 2).toNatClampNeg)]) X hw (c_X5_says l (ad := a0) (adN := a1) (adS := a4) (adL := a6) (adE := a7) (aK := (a2 0)) (aD := (a3 0)) (aT := (a5 0)) ho1) rfl kM_X5_says ki_X5_says ks_X5_says km_L_45 ⟨(Nat.le_of_ble_eq_true rfl), (Nat.le_of_ble_eq_true rfl)⟩ (law_c hB (by decide) (by decide)) rfl rfl ⟨_, _, _, _, rfl, rfl, rfl, rfl⟩ rfl hl.1 rfl (Nat.le_of_ble_eq_true rfl) dL_law_536) hw rfl rfl (fun _ => (Nat.le_of_ble_eq_true rfl)) (fun _ => (gputs_eq rfl).trans rfl) rfl rfl (fun _ H locs hw => ?_)
  refine lv_aload_n hx hb dL_law_539 rfl (lv_at hl 2 rfl) ?_
  refine lv_aload_n hx hb dL_law_540 rfl (lv_at hl 0 rfl) ?_
  refine lv_iload_n hx hb dL_law_541 rfl (lv_at hl 3 rfl) ?_
  refine lv_iconst (v := 1) hx hb dL_law_542 (by decide) ?_
  refine lv_iadd hx hb dL_law_543 ?_
  refine va_sld hx hb hX hbl hbA hw.2.2.1 h1 dL_law_544 ?_
  refine lv_aload_n hx hb dL_law_545 rfl (lv_at hl 0 rfl) ?_
  refine lv_iload_n hx hb dL_law_546 rfl (lv_at hl 3 rfl) ?_
  refine lv_iconst (v := 2) hx hb dL_law_547 (by decide) ?_
  refine lv_iadd hx hb dL_law_548 ?_
  refine va_sld hx hb hX hbl hbA hw.2.2.1 h2 dL_law_549 ?_
  obtain ⟨o2, ho2, heq, hI⟩ := hS
  refine g_calli0 (isC := [8]) (gn := fun _ => ([wRO g a0 (a1 0) (a2 0) (a3 0) (a4 0) (a5 0) (a6 0) (a7 0) o1.2.1, wEV g a1 nw, wEV g a2 kp, wEV g a3 dr, wSH g a4 sh, wTP g a5 tp, wLW g a6 o1.2.2.1, wSE g a7 o1.2.2.2, wRM g am (K.map fun _ => aK 0) (T.map fun _ => aT 0) o2.2] ++ (oW g aK K ++ oW g aT T))) (g_runV (isC := [8]) (rest := [.int o1.1]) (As := [.int (xs (x3 + 1).toNatClampNeg), .int (xs (x3 + 2).toNatClampNeg)]) X hw (c_X6_says l (ad := am) (eK := (K.map fun _ => aK 0)) (eT := (T.map fun _ => aT 0)) ho2) rfl kM_X6_says ki_X6_says ks_X6_says km_L_48 ⟨(Nat.le_of_ble_eq_true rfl), (Nat.le_of_ble_eq_true rfl)⟩ (law_c hB (by decide) (by decide)) rfl rfl ⟨_, _, _, _, rfl, rfl, rfl, rfl⟩ rfl hl.1 rfl (Nat.le_of_ble_eq_true rfl) dL_law_550) hw rfl rfl (fun _ => (Nat.le_of_ble_eq_true rfl)) (fun _ => (gputs_eq rfl).trans rfl) rfl rfl (fun _ H locs hw => ?_)
  refine lv_icmp_eq (tgt := 1985) hx hb dL_law_553 (by decide) (fun _ => ?_) (fun z => absurd heq z)
  refine W.widen (k := cells + 37) (n := slots + 2859) (by first | omega | exact Nat.add_le_add_left (Nat.le_of_ble_eq_true rfl) _) (by first | omega | exact Nat.add_le_add_left (Nat.le_of_ble_eq_true rfl) _) ?_
  exact next _ _ _ _ _ _ _ _ _ _ _ hI a0 a1 a2 a3 a4 a5 a6 a7 am aK aT _ _ _ hw hl
set_option maxHeartbeats 4000000 in
set_option maxRecDepth 100000 in
theorem law_bar (X : gC p s m meth c #[Value.ref b] RL cL_law 4 g (fun q : Nat => s.heap.size ≤ q)) (hX : va_X b L xs s s.heap) (hbl : b < s.heap.size) {I : RO → EV → EV → EV → SH → TP → LW → SE → RM → Option RM → Option RM → Prop} (hS : S_bar I) (hB : cells + 37 ≤ 600000 ∧ slots + 2859 ≤ 7302249) {x3 : Int32} (h1 : vp_in (x3 + 1) L) (h2 : vp_in (x3 + 2) L) (h3 : vp_in (x3 + 3) L) (h4 : vp_in (x3 + 4) L) (h5 : vp_in (x3 + 5) L)
    (next : lawNext p l e s m below meth c b g I Q (cells + 37) (slots + 2859) x3)
    (ro : RO) (nw : EV) (kp : EV) (dr : EV) (sh : SH) (tp : TP) (lw : LW) (se : SE) (rm : RM) (K : Option RM) (T : Option RM) (hI : I ro nw kp dr sh tp lw se rm K T) (a0 a1 a2 a3 a4 a5 a6 a7 am aK aT : Nat → Nat) (H : Heap) (locs : List Loc) (ls : Array Slot) (hw : gW g (fun q : Nat => s.heap.size ≤ q) s.heap (lawW g ro nw kp dr sh tp lw se rm K T a0 a1 a2 a3 a4 a5 a6 a7 am aK aT) H locs) (hl : lv_has ls 4 [(0, .ref b), (1, .ref (a0 0)), (2, .ref (am 0)), (3, .int x3)]) : W p l e room_1 s m #[Value.ref b] below meth c H locs cells slots Q (F0 m 558 ls []) := by
  have hx := X.1.1
  have hb := X.1.2.1
  have hbA : ¬ (fun q : Nat => s.heap.size ≤ q) b := Nat.not_le.mpr hbl
  refine lv_aload_n hx hb dL_law_558 rfl (lv_at hl 1 rfl) ?_
  refine lv_aload_n hx hb dL_law_559 rfl (lv_at hl 0 rfl) ?_
  refine lv_iload_n hx hb dL_law_560 rfl (lv_at hl 3 rfl) ?_
  refine lv_iconst (v := 1) hx hb dL_law_561 (by decide) ?_
  refine lv_iadd hx hb dL_law_562 ?_
  refine va_sld hx hb hX hbl hbA hw.2.2.1 h1 dL_law_563 ?_
  refine lv_aload_n hx hb dL_law_564 rfl (lv_at hl 0 rfl) ?_
  refine lv_iload_n hx hb dL_law_565 rfl (lv_at hl 3 rfl) ?_
  refine lv_iconst (v := 2) hx hb dL_law_566 (by decide) ?_
  refine lv_iadd hx hb dL_law_567 ?_
  refine va_sld hx hb hX hbl hbA hw.2.2.1 h2 dL_law_568 ?_
  obtain ⟨o1, ho1, hS⟩ := hS ro nw kp dr sh tp lw se rm K T hI (xs (x3 + 1).toNatClampNeg) (xs (x3 + 2).toNatClampNeg)
  refine g_calli0 (isC := [0, 1]) (gn := fun _ => ([wRO g a0 (a1 0) (a2 0) (a3 0) (a4 0) (a5 0) (a6 0) (a7 0) o1.2.1, wEV g a1 o1.2.2, wEV g a2 kp, wEV g a3 dr, wSH g a4 sh, wTP g a5 tp, wLW g a6 lw, wSE g a7 se, wRM g am (K.map fun _ => aK 0) (T.map fun _ => aT 0) rm] ++ (oW g aK K ++ oW g aT T))) (g_runV (isC := [0, 1]) (rest := []) (As := [.int (xs (x3 + 1).toNatClampNeg), .int (xs (x3 + 2).toNatClampNeg)]) X hw (c_X5_bar l (ad := a0) (adN := a1) (aK := (a2 0)) (aD := (a3 0)) (aS := (a4 0)) (aT := (a5 0)) (aL := (a6 0)) (aE := (a7 0)) ho1) rfl kM_X5_bar ki_X5_bar ks_X5_bar km_L_49 ⟨(Nat.le_of_ble_eq_true rfl), (Nat.le_of_ble_eq_true rfl)⟩ (law_c hB (by decide) (by decide)) rfl rfl ⟨_, _, _, _, rfl, rfl, rfl, rfl⟩ rfl hl.1 rfl (Nat.le_of_ble_eq_true rfl) dL_law_569) hw rfl rfl (fun _ => (Nat.le_of_ble_eq_true rfl)) (fun _ => (gputs_eq rfl).trans rfl) rfl rfl (fun _ H locs hw => ?_)
  refine lv_aload_n hx hb dL_law_572 rfl (lv_at hl 2 rfl) ?_
  refine lv_aload_n hx hb dL_law_573 rfl (lv_at hl 0 rfl) ?_
  refine lv_iload_n hx hb dL_law_574 rfl (lv_at hl 3 rfl) ?_
  refine lv_iconst (v := 1) hx hb dL_law_575 (by decide) ?_
  refine lv_iadd hx hb dL_law_576 ?_
  refine va_sld hx hb hX hbl hbA hw.2.2.1 h1 dL_law_577 ?_
  refine lv_aload_n hx hb dL_law_578 rfl (lv_at hl 0 rfl) ?_
  refine lv_iload_n hx hb dL_law_579 rfl (lv_at hl 3 rfl) ?_
  refine lv_iconst (v := 2) hx hb dL_law_580 (by decide) ?_
  refine lv_iadd hx hb dL_law_581 ?_
  refine va_sld hx hb hX hbl hbA hw.2.2.1 h2 dL_law_582 ?_
  obtain ⟨o2, ho2, heq, hI⟩ := hS
  refine g_calli0 (isC := [8]) (gn := fun _ => ([wRO g a0 (a1 0) (a2 0) (a3 0) (a4 0) (a5 0) (a6 0) (a7 0) o1.2.1, wEV g a1 o1.2.2, wEV g a2 kp, wEV g a3 dr, wSH g a4 sh, wTP g a5 tp, wLW g a6 lw, wSE g a7 se, wRM g am (K.map fun _ => aK 0) (T.map fun _ => aT 0) o2.2] ++ (oW g aK K ++ oW g aT T))) (g_runV (isC := [8]) (rest := [.int o1.1]) (As := [.int (xs (x3 + 1).toNatClampNeg), .int (xs (x3 + 2).toNatClampNeg)]) X hw (c_X6_bar l (ad := am) (eK := (K.map fun _ => aK 0)) (eT := (T.map fun _ => aT 0)) ho2) rfl kM_X6_bar ki_X6_bar ks_X6_bar km_L_52 ⟨(Nat.le_of_ble_eq_true rfl), (Nat.le_of_ble_eq_true rfl)⟩ (law_c hB (by decide) (by decide)) rfl rfl ⟨_, _, _, _, rfl, rfl, rfl, rfl⟩ rfl hl.1 rfl (Nat.le_of_ble_eq_true rfl) dL_law_583) hw rfl rfl (fun _ => (Nat.le_of_ble_eq_true rfl)) (fun _ => (gputs_eq rfl).trans rfl) rfl rfl (fun _ H locs hw => ?_)
  refine lv_icmp_eq (tgt := 1985) hx hb dL_law_586 (by decide) (fun _ => ?_) (fun z => absurd heq z)
  refine W.widen (k := cells + 37) (n := slots + 2859) (by first | omega | exact Nat.add_le_add_left (Nat.le_of_ble_eq_true rfl) _) (by first | omega | exact Nat.add_le_add_left (Nat.le_of_ble_eq_true rfl) _) ?_
  exact next _ _ _ _ _ _ _ _ _ _ _ hI a0 a1 a2 a3 a4 a5 a6 a7 am aK aT _ _ _ hw hl
set_option maxHeartbeats 4000000 in
set_option maxRecDepth 100000 in
theorem law_put (X : gC p s m meth c #[Value.ref b] RL cL_law 4 g (fun q : Nat => s.heap.size ≤ q)) (hX : va_X b L xs s s.heap) (hbl : b < s.heap.size) {I : RO → EV → EV → EV → SH → TP → LW → SE → RM → Option RM → Option RM → Prop} (hS : S_put I) (hB : cells + 37 ≤ 600000 ∧ slots + 2859 ≤ 7302249) {x3 : Int32} (h1 : vp_in (x3 + 1) L) (h2 : vp_in (x3 + 2) L) (h3 : vp_in (x3 + 3) L) (h4 : vp_in (x3 + 4) L) (h5 : vp_in (x3 + 5) L)
    (next : lawNext p l e s m below meth c b g I Q (cells + 37) (slots + 2859) x3)
    (ro : RO) (nw : EV) (kp : EV) (dr : EV) (sh : SH) (tp : TP) (lw : LW) (se : SE) (rm : RM) (K : Option RM) (T : Option RM) (hI : I ro nw kp dr sh tp lw se rm K T) (a0 a1 a2 a3 a4 a5 a6 a7 am aK aT : Nat → Nat) (H : Heap) (locs : List Loc) (ls : Array Slot) (hw : gW g (fun q : Nat => s.heap.size ≤ q) s.heap (lawW g ro nw kp dr sh tp lw se rm K T a0 a1 a2 a3 a4 a5 a6 a7 am aK aT) H locs) (hl : lv_has ls 4 [(0, .ref b), (1, .ref (a0 0)), (2, .ref (am 0)), (3, .int x3)]) : W p l e room_1 s m #[Value.ref b] below meth c H locs cells slots Q (F0 m 591 ls []) := by
  have hx := X.1.1
  have hb := X.1.2.1
  have hbA : ¬ (fun q : Nat => s.heap.size ≤ q) b := Nat.not_le.mpr hbl
  refine lv_aload_n hx hb dL_law_591 rfl (lv_at hl 1 rfl) ?_
  refine lv_aload_n hx hb dL_law_592 rfl (lv_at hl 0 rfl) ?_
  refine lv_iload_n hx hb dL_law_593 rfl (lv_at hl 3 rfl) ?_
  refine lv_iconst (v := 1) hx hb dL_law_594 (by decide) ?_
  refine lv_iadd hx hb dL_law_595 ?_
  refine va_sld hx hb hX hbl hbA hw.2.2.1 h1 dL_law_596 ?_
  refine lv_aload_n hx hb dL_law_597 rfl (lv_at hl 0 rfl) ?_
  refine lv_iload_n hx hb dL_law_598 rfl (lv_at hl 3 rfl) ?_
  refine lv_iconst (v := 2) hx hb dL_law_599 (by decide) ?_
  refine lv_iadd hx hb dL_law_600 ?_
  refine va_sld hx hb hX hbl hbA hw.2.2.1 h2 dL_law_601 ?_
  obtain ⟨o1, ho1, hS⟩ := hS ro nw kp dr sh tp lw se rm K T hI (xs (x3 + 1).toNatClampNeg) (xs (x3 + 2).toNatClampNeg)
  refine g_calli0 (isC := [0, 1]) (gn := fun _ => ([wRO g a0 (a1 0) (a2 0) (a3 0) (a4 0) (a5 0) (a6 0) (a7 0) o1.2.1, wEV g a1 o1.2.2, wEV g a2 kp, wEV g a3 dr, wSH g a4 sh, wTP g a5 tp, wLW g a6 lw, wSE g a7 se, wRM g am (K.map fun _ => aK 0) (T.map fun _ => aT 0) rm] ++ (oW g aK K ++ oW g aT T))) (g_runV (isC := [0, 1]) (rest := []) (As := [.int (xs (x3 + 1).toNatClampNeg), .int (xs (x3 + 2).toNatClampNeg)]) X hw (c_X5_put l (ad := a0) (adN := a1) (aK := (a2 0)) (aD := (a3 0)) (aS := (a4 0)) (aT := (a5 0)) (aL := (a6 0)) (aE := (a7 0)) ho1) rfl kM_X5_put ki_X5_put ks_X5_put km_L_53 ⟨(Nat.le_of_ble_eq_true rfl), (Nat.le_of_ble_eq_true rfl)⟩ (law_c hB (by decide) (by decide)) rfl rfl ⟨_, _, _, _, rfl, rfl, rfl, rfl⟩ rfl hl.1 rfl (Nat.le_of_ble_eq_true rfl) dL_law_602) hw rfl rfl (fun _ => (Nat.le_of_ble_eq_true rfl)) (fun _ => (gputs_eq rfl).trans rfl) rfl rfl (fun _ H locs hw => ?_)
  refine lv_aload_n hx hb dL_law_605 rfl (lv_at hl 2 rfl) ?_
  refine lv_aload_n hx hb dL_law_606 rfl (lv_at hl 0 rfl) ?_
  refine lv_iload_n hx hb dL_law_607 rfl (lv_at hl 3 rfl) ?_
  refine lv_iconst (v := 1) hx hb dL_law_608 (by decide) ?_
  refine lv_iadd hx hb dL_law_609 ?_
  refine va_sld hx hb hX hbl hbA hw.2.2.1 h1 dL_law_610 ?_
  refine lv_aload_n hx hb dL_law_611 rfl (lv_at hl 0 rfl) ?_
  refine lv_iload_n hx hb dL_law_612 rfl (lv_at hl 3 rfl) ?_
  refine lv_iconst (v := 2) hx hb dL_law_613 (by decide) ?_
  refine lv_iadd hx hb dL_law_614 ?_
  refine va_sld hx hb hX hbl hbA hw.2.2.1 h2 dL_law_615 ?_
  obtain ⟨o2, ho2, heq, hI⟩ := hS
  refine g_calli0 (isC := [8]) (gn := fun _ => ([wRO g a0 (a1 0) (a2 0) (a3 0) (a4 0) (a5 0) (a6 0) (a7 0) o1.2.1, wEV g a1 o1.2.2, wEV g a2 kp, wEV g a3 dr, wSH g a4 sh, wTP g a5 tp, wLW g a6 lw, wSE g a7 se, wRM g am (K.map fun _ => aK 0) (T.map fun _ => aT 0) o2.2] ++ (oW g aK K ++ oW g aT T))) (g_runV (isC := [8]) (rest := [.int o1.1]) (As := [.int (xs (x3 + 1).toNatClampNeg), .int (xs (x3 + 2).toNatClampNeg)]) X hw (c_X6_put l (ad := am) (eK := (K.map fun _ => aK 0)) (eT := (T.map fun _ => aT 0)) ho2) rfl kM_X6_put ki_X6_put ks_X6_put km_L_56 ⟨(Nat.le_of_ble_eq_true rfl), (Nat.le_of_ble_eq_true rfl)⟩ (law_c hB (by decide) (by decide)) rfl rfl ⟨_, _, _, _, rfl, rfl, rfl, rfl⟩ rfl hl.1 rfl (Nat.le_of_ble_eq_true rfl) dL_law_616) hw rfl rfl (fun _ => (Nat.le_of_ble_eq_true rfl)) (fun _ => (gputs_eq rfl).trans rfl) rfl rfl (fun _ H locs hw => ?_)
  refine lv_icmp_eq (tgt := 1985) hx hb dL_law_619 (by decide) (fun _ => ?_) (fun z => absurd heq z)
  refine W.widen (k := cells + 37) (n := slots + 2859) (by first | omega | exact Nat.add_le_add_left (Nat.le_of_ble_eq_true rfl) _) (by first | omega | exact Nat.add_le_add_left (Nat.le_of_ble_eq_true rfl) _) ?_
  exact next _ _ _ _ _ _ _ _ _ _ _ hI a0 a1 a2 a3 a4 a5 a6 a7 am aK aT _ _ _ hw hl
set_option maxHeartbeats 4000000 in
set_option maxRecDepth 100000 in
theorem law_stick (X : gC p s m meth c #[Value.ref b] RL cL_law 4 g (fun q : Nat => s.heap.size ≤ q)) (hX : va_X b L xs s s.heap) (hbl : b < s.heap.size) {I : RO → EV → EV → EV → SH → TP → LW → SE → RM → Option RM → Option RM → Prop} (hS : S_stick I) (hB : cells + 37 ≤ 600000 ∧ slots + 2859 ≤ 7302249) {x3 : Int32} (h1 : vp_in (x3 + 1) L) (h2 : vp_in (x3 + 2) L) (h3 : vp_in (x3 + 3) L) (h4 : vp_in (x3 + 4) L) (h5 : vp_in (x3 + 5) L)
    (next : lawNext p l e s m below meth c b g I Q (cells + 37) (slots + 2859) x3)
    (ro : RO) (nw : EV) (kp : EV) (dr : EV) (sh : SH) (tp : TP) (lw : LW) (se : SE) (rm : RM) (K : Option RM) (T : Option RM) (hI : I ro nw kp dr sh tp lw se rm K T) (a0 a1 a2 a3 a4 a5 a6 a7 am aK aT : Nat → Nat) (H : Heap) (locs : List Loc) (ls : Array Slot) (hw : gW g (fun q : Nat => s.heap.size ≤ q) s.heap (lawW g ro nw kp dr sh tp lw se rm K T a0 a1 a2 a3 a4 a5 a6 a7 am aK aT) H locs) (hl : lv_has ls 4 [(0, .ref b), (1, .ref (a0 0)), (2, .ref (am 0)), (3, .int x3)]) : W p l e room_1 s m #[Value.ref b] below meth c H locs cells slots Q (F0 m 624 ls []) := by
  have hx := X.1.1
  have hb := X.1.2.1
  have hbA : ¬ (fun q : Nat => s.heap.size ≤ q) b := Nat.not_le.mpr hbl
  refine lv_aload_n hx hb dL_law_624 rfl (lv_at hl 1 rfl) ?_
  refine lv_aload_n hx hb dL_law_625 rfl (lv_at hl 0 rfl) ?_
  refine lv_iload_n hx hb dL_law_626 rfl (lv_at hl 3 rfl) ?_
  refine lv_iconst (v := 1) hx hb dL_law_627 (by decide) ?_
  refine lv_iadd hx hb dL_law_628 ?_
  refine va_sld hx hb hX hbl hbA hw.2.2.1 h1 dL_law_629 ?_
  refine lv_aload_n hx hb dL_law_630 rfl (lv_at hl 0 rfl) ?_
  refine lv_iload_n hx hb dL_law_631 rfl (lv_at hl 3 rfl) ?_
  refine lv_iconst (v := 2) hx hb dL_law_632 (by decide) ?_
  refine lv_iadd hx hb dL_law_633 ?_
  refine va_sld hx hb hX hbl hbA hw.2.2.1 h2 dL_law_634 ?_
  obtain ⟨o1, ho1, hS⟩ := hS ro nw kp dr sh tp lw se rm K T hI (xs (x3 + 1).toNatClampNeg) (xs (x3 + 2).toNatClampNeg)
  refine g_calli0 (isC := [0, 1]) (gn := fun _ => ([wRO g a0 (a1 0) (a2 0) (a3 0) (a4 0) (a5 0) (a6 0) (a7 0) o1.2.1, wEV g a1 o1.2.2, wEV g a2 kp, wEV g a3 dr, wSH g a4 sh, wTP g a5 tp, wLW g a6 lw, wSE g a7 se, wRM g am (K.map fun _ => aK 0) (T.map fun _ => aT 0) rm] ++ (oW g aK K ++ oW g aT T))) (g_runV (isC := [0, 1]) (rest := []) (As := [.int (xs (x3 + 1).toNatClampNeg), .int (xs (x3 + 2).toNatClampNeg)]) X hw (c_X5_stick l (ad := a0) (adN := a1) (aK := (a2 0)) (aD := (a3 0)) (aS := (a4 0)) (aT := (a5 0)) (aL := (a6 0)) (aE := (a7 0)) ho1) rfl kM_X5_stick ki_X5_stick ks_X5_stick km_L_57 ⟨(Nat.le_of_ble_eq_true rfl), (Nat.le_of_ble_eq_true rfl)⟩ (law_c hB (by decide) (by decide)) rfl rfl ⟨_, _, _, _, rfl, rfl, rfl, rfl⟩ rfl hl.1 rfl (Nat.le_of_ble_eq_true rfl) dL_law_635) hw rfl rfl (fun _ => (Nat.le_of_ble_eq_true rfl)) (fun _ => (gputs_eq rfl).trans rfl) rfl rfl (fun _ H locs hw => ?_)
  refine lv_aload_n hx hb dL_law_638 rfl (lv_at hl 2 rfl) ?_
  refine lv_aload_n hx hb dL_law_639 rfl (lv_at hl 0 rfl) ?_
  refine lv_iload_n hx hb dL_law_640 rfl (lv_at hl 3 rfl) ?_
  refine lv_iconst (v := 1) hx hb dL_law_641 (by decide) ?_
  refine lv_iadd hx hb dL_law_642 ?_
  refine va_sld hx hb hX hbl hbA hw.2.2.1 h1 dL_law_643 ?_
  refine lv_aload_n hx hb dL_law_644 rfl (lv_at hl 0 rfl) ?_
  refine lv_iload_n hx hb dL_law_645 rfl (lv_at hl 3 rfl) ?_
  refine lv_iconst (v := 2) hx hb dL_law_646 (by decide) ?_
  refine lv_iadd hx hb dL_law_647 ?_
  refine va_sld hx hb hX hbl hbA hw.2.2.1 h2 dL_law_648 ?_
  obtain ⟨o2, ho2, heq, hI⟩ := hS
  refine g_calli0 (isC := [8]) (gn := fun _ => ([wRO g a0 (a1 0) (a2 0) (a3 0) (a4 0) (a5 0) (a6 0) (a7 0) o1.2.1, wEV g a1 o1.2.2, wEV g a2 kp, wEV g a3 dr, wSH g a4 sh, wTP g a5 tp, wLW g a6 lw, wSE g a7 se, wRM g am (K.map fun _ => aK 0) (T.map fun _ => aT 0) o2.2] ++ (oW g aK K ++ oW g aT T))) (g_runV (isC := [8]) (rest := [.int o1.1]) (As := [.int (xs (x3 + 1).toNatClampNeg), .int (xs (x3 + 2).toNatClampNeg)]) X hw (c_X6_stick l (ad := am) (eK := (K.map fun _ => aK 0)) (eT := (T.map fun _ => aT 0)) ho2) rfl kM_X6_stick ki_X6_stick ks_X6_stick km_L_60 ⟨(Nat.le_of_ble_eq_true rfl), (Nat.le_of_ble_eq_true rfl)⟩ (law_c hB (by decide) (by decide)) rfl rfl ⟨_, _, _, _, rfl, rfl, rfl, rfl⟩ rfl hl.1 rfl (Nat.le_of_ble_eq_true rfl) dL_law_649) hw rfl rfl (fun _ => (Nat.le_of_ble_eq_true rfl)) (fun _ => (gputs_eq rfl).trans rfl) rfl rfl (fun _ H locs hw => ?_)
  refine lv_icmp_eq (tgt := 1985) hx hb dL_law_652 (by decide) (fun _ => ?_) (fun z => absurd heq z)
  refine W.widen (k := cells + 37) (n := slots + 2859) (by first | omega | exact Nat.add_le_add_left (Nat.le_of_ble_eq_true rfl) _) (by first | omega | exact Nat.add_le_add_left (Nat.le_of_ble_eq_true rfl) _) ?_
  exact next _ _ _ _ _ _ _ _ _ _ _ hI a0 a1 a2 a3 a4 a5 a6 a7 am aK aT _ _ _ hw hl
set_option maxHeartbeats 4000000 in
set_option maxRecDepth 100000 in
theorem law_table (X : gC p s m meth c #[Value.ref b] RL cL_law 4 g (fun q : Nat => s.heap.size ≤ q)) (hX : va_X b L xs s s.heap) (hbl : b < s.heap.size) {I : RO → EV → EV → EV → SH → TP → LW → SE → RM → Option RM → Option RM → Prop} (hS : S_table I) (hB : cells + 37 ≤ 600000 ∧ slots + 2859 ≤ 7302249) {x3 : Int32} (h1 : vp_in (x3 + 1) L) (h2 : vp_in (x3 + 2) L) (h3 : vp_in (x3 + 3) L) (h4 : vp_in (x3 + 4) L) (h5 : vp_in (x3 + 5) L)
    (next : lawNext p l e s m below meth c b g I Q (cells + 37) (slots + 2859) x3)
    (ro : RO) (nw : EV) (kp : EV) (dr : EV) (sh : SH) (tp : TP) (lw : LW) (se : SE) (rm : RM) (K : Option RM) (T : Option RM) (hI : I ro nw kp dr sh tp lw se rm K T) (a0 a1 a2 a3 a4 a5 a6 a7 am aK aT : Nat → Nat) (H : Heap) (locs : List Loc) (ls : Array Slot) (hw : gW g (fun q : Nat => s.heap.size ≤ q) s.heap (lawW g ro nw kp dr sh tp lw se rm K T a0 a1 a2 a3 a4 a5 a6 a7 am aK aT) H locs) (hl : lv_has ls 4 [(0, .ref b), (1, .ref (a0 0)), (2, .ref (am 0)), (3, .int x3)]) : W p l e room_1 s m #[Value.ref b] below meth c H locs cells slots Q (F0 m 657 ls []) := by
  have hx := X.1.1
  have hb := X.1.2.1
  have hbA : ¬ (fun q : Nat => s.heap.size ≤ q) b := Nat.not_le.mpr hbl
  refine lv_aload_n hx hb dL_law_657 rfl (lv_at hl 1 rfl) ?_
  refine lv_aload_n hx hb dL_law_658 rfl (lv_at hl 0 rfl) ?_
  refine lv_iload_n hx hb dL_law_659 rfl (lv_at hl 3 rfl) ?_
  refine lv_iconst (v := 1) hx hb dL_law_660 (by decide) ?_
  refine lv_iadd hx hb dL_law_661 ?_
  refine va_sld hx hb hX hbl hbA hw.2.2.1 h1 dL_law_662 ?_
  refine lv_aload_n hx hb dL_law_663 rfl (lv_at hl 0 rfl) ?_
  refine lv_iload_n hx hb dL_law_664 rfl (lv_at hl 3 rfl) ?_
  refine lv_iconst (v := 2) hx hb dL_law_665 (by decide) ?_
  refine lv_iadd hx hb dL_law_666 ?_
  refine va_sld hx hb hX hbl hbA hw.2.2.1 h2 dL_law_667 ?_
  refine lv_aload_n hx hb dL_law_668 rfl (lv_at hl 0 rfl) ?_
  refine lv_iload_n hx hb dL_law_669 rfl (lv_at hl 3 rfl) ?_
  refine lv_iconst (v := 3) hx hb dL_law_670 (by decide) ?_
  refine lv_iadd hx hb dL_law_671 ?_
  refine va_sld hx hb hX hbl hbA hw.2.2.1 h3 dL_law_672 ?_
  refine lv_aload_n hx hb dL_law_673 rfl (lv_at hl 0 rfl) ?_
  refine lv_iload_n hx hb dL_law_674 rfl (lv_at hl 3 rfl) ?_
  refine lv_iconst (v := 4) hx hb dL_law_675 (by decide) ?_
  refine lv_iadd hx hb dL_law_676 ?_
  refine va_sld hx hb hX hbl hbA hw.2.2.1 h4 dL_law_677 ?_
  obtain ⟨o1, ho1, hS⟩ := hS ro nw kp dr sh tp lw se rm K T hI (xs (x3 + 1).toNatClampNeg) (xs (x3 + 2).toNatClampNeg) (xs (x3 + 3).toNatClampNeg) (xs (x3 + 4).toNatClampNeg)
  refine g_calli0 (isC := [0, 1]) (gn := fun _ => ([wRO g a0 (a1 0) (a2 0) (a3 0) (a4 0) (a5 0) (a6 0) (a7 0) o1.2.1, wEV g a1 o1.2.2, wEV g a2 kp, wEV g a3 dr, wSH g a4 sh, wTP g a5 tp, wLW g a6 lw, wSE g a7 se, wRM g am (K.map fun _ => aK 0) (T.map fun _ => aT 0) rm] ++ (oW g aK K ++ oW g aT T))) (g_runV (isC := [0, 1]) (rest := []) (As := [.int (xs (x3 + 1).toNatClampNeg), .int (xs (x3 + 2).toNatClampNeg), .int (xs (x3 + 3).toNatClampNeg), .int (xs (x3 + 4).toNatClampNeg)]) X hw (c_X5_table l (ad := a0) (adN := a1) (aK := (a2 0)) (aD := (a3 0)) (aS := (a4 0)) (aT := (a5 0)) (aL := (a6 0)) (aE := (a7 0)) ho1) rfl kM_X5_table ki_X5_table ks_X5_table km_L_61 ⟨(Nat.le_of_ble_eq_true rfl), (Nat.le_of_ble_eq_true rfl)⟩ (law_c hB (by decide) (by decide)) rfl rfl ⟨_, _, _, _, rfl, rfl, rfl, rfl⟩ rfl hl.1 rfl (Nat.le_of_ble_eq_true rfl) dL_law_678) hw rfl rfl (fun _ => (Nat.le_of_ble_eq_true rfl)) (fun _ => (gputs_eq rfl).trans rfl) rfl rfl (fun _ H locs hw => ?_)
  refine lv_aload_n hx hb dL_law_681 rfl (lv_at hl 2 rfl) ?_
  refine lv_aload_n hx hb dL_law_682 rfl (lv_at hl 0 rfl) ?_
  refine lv_iload_n hx hb dL_law_683 rfl (lv_at hl 3 rfl) ?_
  refine lv_iconst (v := 1) hx hb dL_law_684 (by decide) ?_
  refine lv_iadd hx hb dL_law_685 ?_
  refine va_sld hx hb hX hbl hbA hw.2.2.1 h1 dL_law_686 ?_
  refine lv_aload_n hx hb dL_law_687 rfl (lv_at hl 0 rfl) ?_
  refine lv_iload_n hx hb dL_law_688 rfl (lv_at hl 3 rfl) ?_
  refine lv_iconst (v := 2) hx hb dL_law_689 (by decide) ?_
  refine lv_iadd hx hb dL_law_690 ?_
  refine va_sld hx hb hX hbl hbA hw.2.2.1 h2 dL_law_691 ?_
  refine lv_aload_n hx hb dL_law_692 rfl (lv_at hl 0 rfl) ?_
  refine lv_iload_n hx hb dL_law_693 rfl (lv_at hl 3 rfl) ?_
  refine lv_iconst (v := 3) hx hb dL_law_694 (by decide) ?_
  refine lv_iadd hx hb dL_law_695 ?_
  refine va_sld hx hb hX hbl hbA hw.2.2.1 h3 dL_law_696 ?_
  refine lv_aload_n hx hb dL_law_697 rfl (lv_at hl 0 rfl) ?_
  refine lv_iload_n hx hb dL_law_698 rfl (lv_at hl 3 rfl) ?_
  refine lv_iconst (v := 4) hx hb dL_law_699 (by decide) ?_
  refine lv_iadd hx hb dL_law_700 ?_
  refine va_sld hx hb hX hbl hbA hw.2.2.1 h4 dL_law_701 ?_
  obtain ⟨o2, ho2, heq, hI⟩ := hS
  refine g_calli0 (isC := [8]) (gn := fun _ => ([wRO g a0 (a1 0) (a2 0) (a3 0) (a4 0) (a5 0) (a6 0) (a7 0) o1.2.1, wEV g a1 o1.2.2, wEV g a2 kp, wEV g a3 dr, wSH g a4 sh, wTP g a5 tp, wLW g a6 lw, wSE g a7 se, wRM g am (K.map fun _ => aK 0) (T.map fun _ => aT 0) o2.2] ++ (oW g aK K ++ oW g aT T))) (g_runV (isC := [8]) (rest := [.int o1.1]) (As := [.int (xs (x3 + 1).toNatClampNeg), .int (xs (x3 + 2).toNatClampNeg), .int (xs (x3 + 3).toNatClampNeg), .int (xs (x3 + 4).toNatClampNeg)]) X hw (c_X6_table l (ad := am) (eK := (K.map fun _ => aK 0)) (eT := (T.map fun _ => aT 0)) ho2) rfl kM_X6_table ki_X6_table ks_X6_table km_L_65 ⟨(Nat.le_of_ble_eq_true rfl), (Nat.le_of_ble_eq_true rfl)⟩ (law_c hB (by decide) (by decide)) rfl rfl ⟨_, _, _, _, rfl, rfl, rfl, rfl⟩ rfl hl.1 rfl (Nat.le_of_ble_eq_true rfl) dL_law_702) hw rfl rfl (fun _ => (Nat.le_of_ble_eq_true rfl)) (fun _ => (gputs_eq rfl).trans rfl) rfl rfl (fun _ H locs hw => ?_)
  refine lv_icmp_eq (tgt := 1985) hx hb dL_law_705 (by decide) (fun _ => ?_) (fun z => absurd heq z)
  refine W.widen (k := cells + 37) (n := slots + 2859) (by first | omega | exact Nat.add_le_add_left (Nat.le_of_ble_eq_true rfl) _) (by first | omega | exact Nat.add_le_add_left (Nat.le_of_ble_eq_true rfl) _) ?_
  exact next _ _ _ _ _ _ _ _ _ _ _ hI a0 a1 a2 a3 a4 a5 a6 a7 am aK aT _ _ _ hw hl
set_option maxHeartbeats 4000000 in
set_option maxRecDepth 100000 in
theorem law_minutes (X : gC p s m meth c #[Value.ref b] RL cL_law 4 g (fun q : Nat => s.heap.size ≤ q)) (hX : va_X b L xs s s.heap) (hbl : b < s.heap.size) {I : RO → EV → EV → EV → SH → TP → LW → SE → RM → Option RM → Option RM → Prop} (hS : S_minutes I) (hB : cells + 37 ≤ 600000 ∧ slots + 2859 ≤ 7302249) {x3 : Int32} (h1 : vp_in (x3 + 1) L) (h2 : vp_in (x3 + 2) L) (h3 : vp_in (x3 + 3) L) (h4 : vp_in (x3 + 4) L) (h5 : vp_in (x3 + 5) L)
    (next : lawNext p l e s m below meth c b g I Q (cells + 37) (slots + 2859) x3)
    (ro : RO) (nw : EV) (kp : EV) (dr : EV) (sh : SH) (tp : TP) (lw : LW) (se : SE) (rm : RM) (K : Option RM) (T : Option RM) (hI : I ro nw kp dr sh tp lw se rm K T) (a0 a1 a2 a3 a4 a5 a6 a7 am aK aT : Nat → Nat) (H : Heap) (locs : List Loc) (ls : Array Slot) (hw : gW g (fun q : Nat => s.heap.size ≤ q) s.heap (lawW g ro nw kp dr sh tp lw se rm K T a0 a1 a2 a3 a4 a5 a6 a7 am aK aT) H locs) (hl : lv_has ls 4 [(0, .ref b), (1, .ref (a0 0)), (2, .ref (am 0)), (3, .int x3)]) : W p l e room_1 s m #[Value.ref b] below meth c H locs cells slots Q (F0 m 710 ls []) := by
  have hx := X.1.1
  have hb := X.1.2.1
  have hbA : ¬ (fun q : Nat => s.heap.size ≤ q) b := Nat.not_le.mpr hbl
  refine lv_aload_n hx hb dL_law_710 rfl (lv_at hl 1 rfl) ?_
  refine lv_aload_n hx hb dL_law_711 rfl (lv_at hl 0 rfl) ?_
  refine lv_iload_n hx hb dL_law_712 rfl (lv_at hl 3 rfl) ?_
  refine lv_iconst (v := 1) hx hb dL_law_713 (by decide) ?_
  refine lv_iadd hx hb dL_law_714 ?_
  refine va_sld hx hb hX hbl hbA hw.2.2.1 h1 dL_law_715 ?_
  refine lv_aload_n hx hb dL_law_716 rfl (lv_at hl 0 rfl) ?_
  refine lv_iload_n hx hb dL_law_717 rfl (lv_at hl 3 rfl) ?_
  refine lv_iconst (v := 2) hx hb dL_law_718 (by decide) ?_
  refine lv_iadd hx hb dL_law_719 ?_
  refine va_sld hx hb hX hbl hbA hw.2.2.1 h2 dL_law_720 ?_
  obtain ⟨o1, ho1, hS⟩ := hS ro nw kp dr sh tp lw se rm K T hI (xs (x3 + 1).toNatClampNeg) (xs (x3 + 2).toNatClampNeg)
  refine g_calli0 (isC := [0, 1]) (gn := fun _ => ([wRO g a0 (a1 0) (a2 0) (a3 0) (a4 0) (a5 0) (a6 0) (a7 0) o1.2.1, wEV g a1 o1.2.2, wEV g a2 kp, wEV g a3 dr, wSH g a4 sh, wTP g a5 tp, wLW g a6 lw, wSE g a7 se, wRM g am (K.map fun _ => aK 0) (T.map fun _ => aT 0) rm] ++ (oW g aK K ++ oW g aT T))) (g_runV (isC := [0, 1]) (rest := []) (As := [.int (xs (x3 + 1).toNatClampNeg), .int (xs (x3 + 2).toNatClampNeg)]) X hw (c_X5_minutes l (ad := a0) (adN := a1) (aK := (a2 0)) (aD := (a3 0)) (aS := (a4 0)) (aT := (a5 0)) (aL := (a6 0)) (aE := (a7 0)) ho1) rfl kM_X5_minutes ki_X5_minutes ks_X5_minutes km_L_66 ⟨(Nat.le_of_ble_eq_true rfl), (Nat.le_of_ble_eq_true rfl)⟩ (law_c hB (by decide) (by decide)) rfl rfl ⟨_, _, _, _, rfl, rfl, rfl, rfl⟩ rfl hl.1 rfl (Nat.le_of_ble_eq_true rfl) dL_law_721) hw rfl rfl (fun _ => (Nat.le_of_ble_eq_true rfl)) (fun _ => (gputs_eq rfl).trans rfl) rfl rfl (fun _ H locs hw => ?_)
  refine lv_aload_n hx hb dL_law_724 rfl (lv_at hl 2 rfl) ?_
  refine lv_aload_n hx hb dL_law_725 rfl (lv_at hl 0 rfl) ?_
  refine lv_iload_n hx hb dL_law_726 rfl (lv_at hl 3 rfl) ?_
  refine lv_iconst (v := 1) hx hb dL_law_727 (by decide) ?_
  refine lv_iadd hx hb dL_law_728 ?_
  refine va_sld hx hb hX hbl hbA hw.2.2.1 h1 dL_law_729 ?_
  refine lv_aload_n hx hb dL_law_730 rfl (lv_at hl 0 rfl) ?_
  refine lv_iload_n hx hb dL_law_731 rfl (lv_at hl 3 rfl) ?_
  refine lv_iconst (v := 2) hx hb dL_law_732 (by decide) ?_
  refine lv_iadd hx hb dL_law_733 ?_
  refine va_sld hx hb hX hbl hbA hw.2.2.1 h2 dL_law_734 ?_
  obtain ⟨o2, ho2, heq, hI⟩ := hS
  refine g_calli0 (isC := [8]) (gn := fun _ => ([wRO g a0 (a1 0) (a2 0) (a3 0) (a4 0) (a5 0) (a6 0) (a7 0) o1.2.1, wEV g a1 o1.2.2, wEV g a2 kp, wEV g a3 dr, wSH g a4 sh, wTP g a5 tp, wLW g a6 lw, wSE g a7 se, wRM g am (K.map fun _ => aK 0) (T.map fun _ => aT 0) o2.2] ++ (oW g aK K ++ oW g aT T))) (g_runV (isC := [8]) (rest := [.int o1.1]) (As := [.int (xs (x3 + 1).toNatClampNeg), .int (xs (x3 + 2).toNatClampNeg)]) X hw (c_X6_minutes l (ad := am) (eK := (K.map fun _ => aK 0)) (eT := (T.map fun _ => aT 0)) ho2) rfl kM_X6_minutes ki_X6_minutes ks_X6_minutes km_L_69 ⟨(Nat.le_of_ble_eq_true rfl), (Nat.le_of_ble_eq_true rfl)⟩ (law_c hB (by decide) (by decide)) rfl rfl ⟨_, _, _, _, rfl, rfl, rfl, rfl⟩ rfl hl.1 rfl (Nat.le_of_ble_eq_true rfl) dL_law_735) hw rfl rfl (fun _ => (Nat.le_of_ble_eq_true rfl)) (fun _ => (gputs_eq rfl).trans rfl) rfl rfl (fun _ H locs hw => ?_)
  refine lv_icmp_eq (tgt := 1985) hx hb dL_law_738 (by decide) (fun _ => ?_) (fun z => absurd heq z)
  refine W.widen (k := cells + 37) (n := slots + 2859) (by first | omega | exact Nat.add_le_add_left (Nat.le_of_ble_eq_true rfl) _) (by first | omega | exact Nat.add_le_add_left (Nat.le_of_ble_eq_true rfl) _) ?_
  exact next _ _ _ _ _ _ _ _ _ _ _ hI a0 a1 a2 a3 a4 a5 a6 a7 am aK aT _ _ _ hw hl
set_option maxHeartbeats 4000000 in
set_option maxRecDepth 100000 in
theorem law_feed (X : gC p s m meth c #[Value.ref b] RL cL_law 4 g (fun q : Nat => s.heap.size ≤ q)) (hX : va_X b L xs s s.heap) (hbl : b < s.heap.size) {I : RO → EV → EV → EV → SH → TP → LW → SE → RM → Option RM → Option RM → Prop} (hS : S_feed I) (hB : cells + 37 ≤ 600000 ∧ slots + 2859 ≤ 7302249) {x3 : Int32} (h1 : vp_in (x3 + 1) L) (h2 : vp_in (x3 + 2) L) (h3 : vp_in (x3 + 3) L) (h4 : vp_in (x3 + 4) L) (h5 : vp_in (x3 + 5) L)
    (next : lawNext p l e s m below meth c b g I Q (cells + 37) (slots + 2859) x3)
    (ro : RO) (nw : EV) (kp : EV) (dr : EV) (sh : SH) (tp : TP) (lw : LW) (se : SE) (rm : RM) (K : Option RM) (T : Option RM) (hI : I ro nw kp dr sh tp lw se rm K T) (a0 a1 a2 a3 a4 a5 a6 a7 am aK aT : Nat → Nat) (H : Heap) (locs : List Loc) (ls : Array Slot) (hw : gW g (fun q : Nat => s.heap.size ≤ q) s.heap (lawW g ro nw kp dr sh tp lw se rm K T a0 a1 a2 a3 a4 a5 a6 a7 am aK aT) H locs) (hl : lv_has ls 4 [(0, .ref b), (1, .ref (a0 0)), (2, .ref (am 0)), (3, .int x3)]) : W p l e room_1 s m #[Value.ref b] below meth c H locs cells slots Q (F0 m 743 ls []) := by
  have hx := X.1.1
  have hb := X.1.2.1
  have hbA : ¬ (fun q : Nat => s.heap.size ≤ q) b := Nat.not_le.mpr hbl
  refine lv_aload_n hx hb dL_law_743 rfl (lv_at hl 1 rfl) ?_
  refine lv_aload_n hx hb dL_law_744 rfl (lv_at hl 0 rfl) ?_
  refine lv_iload_n hx hb dL_law_745 rfl (lv_at hl 3 rfl) ?_
  refine lv_iconst (v := 1) hx hb dL_law_746 (by decide) ?_
  refine lv_iadd hx hb dL_law_747 ?_
  refine va_sld hx hb hX hbl hbA hw.2.2.1 h1 dL_law_748 ?_
  obtain ⟨o1, ho1, hS⟩ := hS ro nw kp dr sh tp lw se rm K T hI (xs (x3 + 1).toNatClampNeg)
  refine g_calli0 (isC := [0, 5]) (gn := fun _ => ([wRO g a0 (a1 0) (a2 0) (a3 0) (a4 0) (a5 0) (a6 0) (a7 0) o1.2.1, wEV g a1 nw, wEV g a2 kp, wEV g a3 dr, wSH g a4 sh, wTP g a5 o1.2.2, wLW g a6 lw, wSE g a7 se, wRM g am (K.map fun _ => aK 0) (T.map fun _ => aT 0) rm] ++ (oW g aK K ++ oW g aT T))) (g_runV (isC := [0, 5]) (rest := []) (As := [.int (xs (x3 + 1).toNatClampNeg)]) X hw (c_X5_feed l (ad := a0) (adT := a5) (aN := (a1 0)) (aK := (a2 0)) (aD := (a3 0)) (aS := (a4 0)) (aL := (a6 0)) (aE := (a7 0)) ho1) rfl kM_X5_feed ki_X5_feed ks_X5_feed km_L_70 ⟨(Nat.le_of_ble_eq_true rfl), (Nat.le_of_ble_eq_true rfl)⟩ (law_c hB (by decide) (by decide)) rfl rfl ⟨_, _, _, _, rfl, rfl, rfl, rfl⟩ rfl hl.1 rfl (Nat.le_of_ble_eq_true rfl) dL_law_749) hw rfl rfl (fun _ => (Nat.le_of_ble_eq_true rfl)) (fun _ => (gputs_eq rfl).trans rfl) rfl rfl (fun _ H locs hw => ?_)
  refine lv_aload_n hx hb dL_law_752 rfl (lv_at hl 2 rfl) ?_
  refine lv_aload_n hx hb dL_law_753 rfl (lv_at hl 0 rfl) ?_
  refine lv_iload_n hx hb dL_law_754 rfl (lv_at hl 3 rfl) ?_
  refine lv_iconst (v := 1) hx hb dL_law_755 (by decide) ?_
  refine lv_iadd hx hb dL_law_756 ?_
  refine va_sld hx hb hX hbl hbA hw.2.2.1 h1 dL_law_757 ?_
  obtain ⟨o2, ho2, heq, hI⟩ := hS
  refine g_calli0 (isC := [8]) (gn := fun _ => ([wRO g a0 (a1 0) (a2 0) (a3 0) (a4 0) (a5 0) (a6 0) (a7 0) o1.2.1, wEV g a1 nw, wEV g a2 kp, wEV g a3 dr, wSH g a4 sh, wTP g a5 o1.2.2, wLW g a6 lw, wSE g a7 se, wRM g am (K.map fun _ => aK 0) (T.map fun _ => aT 0) o2.2] ++ (oW g aK K ++ oW g aT T))) (g_runV (isC := [8]) (rest := [.int o1.1]) (As := [.int (xs (x3 + 1).toNatClampNeg)]) X hw (c_X6_feed l (ad := am) (eK := (K.map fun _ => aK 0)) (eT := (T.map fun _ => aT 0)) ho2) rfl kM_X6_feed ki_X6_feed ks_X6_feed km_L_73 ⟨(Nat.le_of_ble_eq_true rfl), (Nat.le_of_ble_eq_true rfl)⟩ (law_c hB (by decide) (by decide)) rfl rfl ⟨_, _, _, _, rfl, rfl, rfl, rfl⟩ rfl hl.1 rfl (Nat.le_of_ble_eq_true rfl) dL_law_758) hw rfl rfl (fun _ => (Nat.le_of_ble_eq_true rfl)) (fun _ => (gputs_eq rfl).trans rfl) rfl rfl (fun _ H locs hw => ?_)
  refine lv_icmp_eq (tgt := 1985) hx hb dL_law_761 (by decide) (fun _ => ?_) (fun z => absurd heq z)
  refine W.widen (k := cells + 37) (n := slots + 2859) (by first | omega | exact Nat.add_le_add_left (Nat.le_of_ble_eq_true rfl) _) (by first | omega | exact Nat.add_le_add_left (Nat.le_of_ble_eq_true rfl) _) ?_
  exact next _ _ _ _ _ _ _ _ _ _ _ hI a0 a1 a2 a3 a4 a5 a6 a7 am aK aT _ _ _ hw hl
end LAW
