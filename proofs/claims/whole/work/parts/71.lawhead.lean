def gsets : List va_W → List Nat → List va_W → List va_W
  | gs, [], _ => gs
  | gs, _ :: _, [] => gs
  | gs, i :: is, x :: xs => gsets (gs.set i x) is xs
theorem gputs_eq : ∀ {is : List Nat} {xs gs : List va_W}, is.length = xs.length → gputs gs is xs = gsets gs is xs
  | [], [], gs, _ => by rw [gputs, gsets, List.append_nil]
  | [], _ :: _, _, h => by cases h
  | _ :: _, [], _, h => by cases h
  | i :: is, x :: xs, gs, h => by rw [gputs, gsets]; exact gputs_eq (Nat.succ.inj h)
theorem gW.perm {g : gG} {A : Nat → Prop} {H0 H : Heap} {gs gs' : List va_W} {locs : List Loc} (hw : gW g A H0 gs H locs) (is : List Nat) (hC : is.map (fun i => gs[i]?) = gs'.map some) (hn : va_nd is = true) : gW g A H0 gs' H locs := ⟨hw.1.pick hC, hw.2.1.pick hC hn, hw.2.2⟩
theorem lg_eq {x y : Int64} (h : x = y) : lg_cmp x y = 0 := by
  subst h
  unfold lg_cmp
  simp
theorem law_c {cells slots a b : Nat} (hB : cells + 37 ≤ 600000 ∧ slots + 2859 ≤ 7302249) (ha : a ≤ 37) (hb : b ≤ 2859) : cells + a ≤ room_1.cells ∧ slots + b ≤ room_1.slots := by
  refine ⟨?_, ?_⟩
  · show cells + a ≤ 600000
    omega
  · show slots + b ≤ 7302249
    omega
abbrev lawW (g : gG) (ro : RO) (nw : EV) (kp : EV) (dr : EV) (sh : SH) (tp : TP) (lw : LW) (se : SE) (rm : RM) (K : Option RM) (T : Option RM) (a0 a1 a2 a3 a4 a5 a6 a7 am aK aT : Nat → Nat) : List va_W := ([wRO g a0 (a1 0) (a2 0) (a3 0) (a4 0) (a5 0) (a6 0) (a7 0) ro, wEV g a1 nw, wEV g a2 kp, wEV g a3 dr, wSH g a4 sh, wTP g a5 tp, wLW g a6 lw, wSE g a7 se, wRM g am (K.map fun _ => aK 0) (T.map fun _ => aT 0) rm] ++ (oW g aK K ++ oW g aT T))
def lawNext (p : Program) (l : Launch) (e : Env) (s : State) (m : MethodId) (below : List Frame) (meth : Method) (c : Code) (b : Nat) (g : gG) (I : RO → EV → EV → EV → SH → TP → LW → SE → RM → Option RM → Option RM → Prop) (Q : State → Prop) (cells slots : Nat) (x3 : Int32) : Prop := ∀ (ro : RO) (nw : EV) (kp : EV) (dr : EV) (sh : SH) (tp : TP) (lw : LW) (se : SE) (rm : RM) (K : Option RM) (T : Option RM), I ro nw kp dr sh tp lw se rm K T → ∀ (a0 a1 a2 a3 a4 a5 a6 a7 am aK aT : Nat → Nat) (H : Heap) (locs : List Loc) (ls : Array Slot), gW g (fun q : Nat => s.heap.size ≤ q) s.heap (lawW g ro nw kp dr sh tp lw se rm K T a0 a1 a2 a3 a4 a5 a6 a7 am aK aT) H locs → lv_has ls 4 [(0, .ref b), (1, .ref (a0 0)), (2, .ref (am 0)), (3, .int x3)] → W p l e room_1 s m #[Value.ref b] below meth c H locs cells slots Q (F0 m 1985 ls [])
