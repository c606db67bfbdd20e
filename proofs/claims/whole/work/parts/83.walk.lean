def I0all (I : RO → EV → EV → EV → SH → TP → LW → SE → RM → Option RM → Option RM → Prop) : Prop := I RO0 EV0 EV0 EV0 SH0 TP0 LW0 SE0 RM0 none none
set_option maxHeartbeats 4000000 in
set_option maxRecDepth 100000 in
theorem law_walk {p : Program} {l : Launch} {e : Env} {s : State} {m : MethodId} {below : List Frame} {meth : Method} {c : Code} {b L : Nat} {xs : Nat → Int32} {g : gG} {Q : State → Prop} {ls : Array Slot} (X : gC p s m meth c #[Value.ref b] RL cL_law 4 g (fun q : Nat => s.heap.size ≤ q)) (hX : va_X b L xs s s.heap) (hbl : b < s.heap.size) {I : RO → EV → EV → EV → SH → TP → LW → SE → RM → Option RM → Option RM → Prop} (hS : S_all I) (hI0 : I0all I) (hLn : L ≤ 3072)
    (fin : ∀ (cells slots : Nat) (H : Heap) (locs : List Loc) (ls : Array Slot), (∀ q ∈ locs, s.heap.size ≤ q.base) → cells ≤ 600000 → slots ≤ 7302249 → W p l e room_1 s m #[Value.ref b] below meth c H locs cells slots Q (F0 m 1991 ls []))
    (hl : lv_has ls 4 [(0, .ref b)]) : W p l e room_1 s m #[Value.ref b] below meth c s.heap [] 0 0 Q (F0 m 0 ls []) := by
  have hx := X.1.1
  have hb := X.1.2.1
  have hw : gW g (fun q : Nat => s.heap.size ≤ q) s.heap [] s.heap [] := ⟨fun i w h => (by cases h), ⟨fun i w h => (by cases h), fun i j w v h => (by cases h)⟩, ⟨Nat.le_refl _, fun _ _ _ => rfl, fun q h => (by cases h)⟩, fun _ h => h⟩
  refine g_new (fs := [.null, .null, .null, .null, .null, .null, .null, .null, .int 0]) (ci := 5) X hw in_X5 tyX5 tyX5_ok rfl nd_X5 kl_L_7 kz_X5 kn_RingsOff (Nat.le_of_ble_eq_true rfl) (Nat.le_of_ble_eq_true rfl) dL_law_0 (fun q0 H hw => ?_)
  have hw := (show gW g (fun q : Nat => s.heap.size ≤ q) s.heap [[(q0, .inr (5, [.null, .null, .null, .null, .null, .null, .null, .null, .int 0]))]] _ _ from hw)
  refine lv_dup hx hb dL_law_3 rfl ?_
  refine g_callv (isC := [0]) (gn := fun u => [wRO g (adq q0 (u 0)) (u 1 0) (u 2 0) (u 3 0) (u 4 0) (u 5 0) (u 6 0) (u 7 0) RO0, wEV g (u 1) EV0, wEV g (u 2) EV0, wEV g (u 3) EV0, wSH g (u 4) SH0, wTP g (u 5) TP0, wLW g (u 6) LW0, wSE g (u 7) SE0]) (g_runI (isC := [0]) (rest := [.ref q0]) (As := []) X hw (c_X5_init l (q := q0)) rfl kM_X5_init ki_X5_init rfl km_L_9 ⟨(Nat.le_of_ble_eq_true rfl), (Nat.le_of_ble_eq_true rfl)⟩ ⟨(Nat.le_of_ble_eq_true rfl), (Nat.le_of_ble_eq_true rfl)⟩ rfl rfl rfl hl.1 rfl (Nat.le_of_ble_eq_true rfl) dL_law_4) hw rfl rfl (fun _ => (Nat.le_of_ble_eq_true rfl)) (fun _ => rfl) (fun u H locs hw => ?_)
  refine lv_astore_n (lv' := [(1, .ref q0), (0, .ref b)]) hx hb dL_law_7 rfl hl (by decide) rfl (fun ls hl => ?_)
  refine g_newRM X hw kl_L_10 (Nat.le_of_ble_eq_true rfl) (Nat.le_of_ble_eq_true rfl) dL_law_8 (fun q8 H locs hw => ?_)
  refine lv_dup hx hb dL_law_11 rfl ?_
  refine g_callv (isC := [8]) (gn := fun v => lawW g RO0 EV0 EV0 EV0 SH0 TP0 LW0 SE0 RM0 none none (adq q0 (u 0)) (u 1) (u 2) (u 3) (u 4) (u 5) (u 6) (u 7) (adq q8 v) (fun _ => 0) (fun _ => 0)) (g_runI (isC := [8]) (rest := [.ref q8]) (As := []) X hw (c_X6_init l (q := q8)) rfl kM_X6_init ki_X6_init rfl km_L_12 ⟨(Nat.le_of_ble_eq_true rfl), (Nat.le_of_ble_eq_true rfl)⟩ ⟨(Nat.le_of_ble_eq_true rfl), (Nat.le_of_ble_eq_true rfl)⟩ rfl rfl rfl hl.1 rfl (Nat.le_of_ble_eq_true rfl) dL_law_12) hw rfl rfl (fun _ => (Nat.le_of_ble_eq_true rfl)) (fun _ => rfl) (fun v H locs hw => ?_)
  refine lv_astore_n (lv' := [(2, .ref q8), (1, .ref q0), (0, .ref b)]) hx hb dL_law_15 rfl hl (by decide) rfl (fun ls hl => ?_)
  refine lv_iconst (v := 0) hx hb dL_law_16 (by decide) ?_
  refine lv_istore_n (lv' := [(3, .int (0 : Int32)), (2, .ref q8), (1, .ref q0), (0, .ref b)]) hx hb dL_law_17 rfl hl (by decide) rfl (fun ls hl => ?_)
  have hl : lv_has ls 4 [(0, .ref b), (1, .ref (adq q0 (u 0) 0)), (2, .ref (adq q8 v 0)), (3, .int (nI (6 * 0)))] := lv_sub hl [3, 2, 1, 0] rfl
  refine W.widen (k := 100) (n := 10000) (Nat.le_of_ble_eq_true rfl) (Nat.le_of_ble_eq_true rfl) ?_
  exact law_loop X hX hbl hS hLn fin 512 0 100 10000 (by omega) (by omega) (by omega) RO0 EV0 EV0 EV0 SH0 TP0 LW0 SE0 RM0 none none hI0 _ _ _ _ _ _ _ _ _ _ _ _ _ _ hw hl
