/-- the addresses of a new object and its arrays -/
def adq (q : Nat) (u : Nat → Nat) : Nat → Nat
  | 0 => q
  | k + 1 => u k
def oT (g : gG) (ad : Nat → Nat) (eK : Option Nat) (z : RM) (u : Nat → Nat) : Option RM → List va_W
  | none => [wRM g ad eK none z]
  | some r => [wRM g ad eK (some (u 0)) z, wRM g u none none r]
section G5
variable {p : Program} {l : Launch} {e : Env} {R : Room} {s : State} {m : MethodId} {args : Array Value} {below : List Frame} {meth : Method} {c : Code} {H : Heap} {locs : List Loc} {cells slots : Nat} {Q : State → Prop}
variable {cc : ByteArray} {pc : Nat} {ls : Array Slot} {rest st : List Value} {own : String} {nL : Nat} {g : gG} {A : Nat → Prop} {H0 : Heap} {gs : List va_W}
variable {y : MethodName} {b : ByteArray} {n na index : Nat} {rm : Room} {As : List Value} {gc : gG → List va_W} {Qq : gQ} {isC : List Nat} {b0 : Nat} {av : gG → List Value}
theorem flat_push {q : Nat × va_E} : (gs ++ [[q]]).flatten = gs.flatten ++ [q] := by simp
theorem gW.push {q : Nat × va_E} {H1 : Heap} (hw : gW g A H0 gs H locs) (hP : va_P g.1 vwCl (gs.flatten ++ [q]) H1) (hD : va_D A (gs.flatten ++ [q])) (hS : va_S A H0 H1 locs) : gW g A H0 (gs ++ [[q]]) H1 locs :=
  ⟨gP.of (by rw [flat_push]; exact hP), gD.of (by rw [flat_push]; exact hD), hS, hw.2.2.2⟩
theorem g_new (X : gC p s m meth c args own cc nL g A) (hw : gW g A H0 gs H locs) {C : String} {T : u_T} {N ci : Nat} (hin : ∀ w ∈ u_ws C T N, w ∈ lwG) (ty : Nat → FieldType) (hty : ∀ k, k < N → parseFieldDescriptor (T k).2.2.1 = some (ty k)) (hc : vwCl[ci]? = some (C, T, N)) {fs : List Value} (hfs : ∀ j, j < N → defaultValue (ty j) = vp_V fs j)
    (hcl : Cond.classLink own index C ∈ lwG) (hz : Cond.instantiable C N ∈ lwG) (hini : Cond.initialized C ∈ lwG) (hcells : cells + 1 ≤ R.cells) (hslots : slots + N ≤ R.slots) (hd : decode cc pc = .ok (.new index, 3))
    (kk : ∀ (q : Nat) (H1 : Heap), gW g A H0 (gs ++ [[(q, .inr (ci, fs))]]) H1 locs → W p l e R s m args below meth c H1 locs (cells + 1) (slots + N) Q (F0 m (pc + 3) ls (.ref q :: rest))) : W p l e R s m args below meth c H locs cells slots Q (F0 m pc ls rest) :=
  va_new X.1.1 X.1.2.1 (gK1 X) hin ty hty X.1.2.2.2.1 (gK1 X _ hcl) (gK1 X _ hz) (gK1 X _ hini) X.2.2.1 hw.1.flat hw.2.1.flat hw.2.2.1 hw.2.2.2 hc hfs hcells hslots hd (fun q H1 hP hD hS => kk q H1 (hw.push hP hD hS))
theorem g_runI (X : gC p s m meth c args own cc nL g A) (hw : gW g A s.heap gs H locs) (hM : gM l y b n none rm av gc Qq) (hav : av g = .ref b0 :: As) (hk : kM y b n none na) (hki : Cond.instanceMethod y ∈ lwG) (hyn : y.name = "<init>") (hlk : Cond.methodLink own index y ∈ lwG)
    (hR : rm.frames + 1 ≤ R.frames ∧ 8 + (n + 11) + rm.locals ≤ R.locals) (hcs : cells + rm.cells ≤ R.cells ∧ slots + rm.slots ≤ R.slots) (hC : isC.map (fun i => gs[i]?) = (gc g).map some) (hnd : va_nd isC = true) (hna : As.length = na) (hls : ls.size = nL) (hst : st = As.reverse ++ .ref b0 :: rest) (hrest : (rest.map fun v => v.category).sum ≤ 8) (hd : decode cc pc = .ok (.invokespecial index, 3)) :
    va_Run p l e R s m args below meth c H locs cells slots rm.cells rm.slots (F0 m pc ls st) rest (Qq g (gA (gc g) H.size) (Value.ref b0 :: As).toArray) (gA (gc g) H.size) :=
  va_runI X.1 (by have h9 := hM g H.size; rw [hav] at h9; exact h9) ⟨g_B X hk hR hlk, hyn, gK1 X _ hki⟩ ⟨gPc.blind, fun U hU hW => g_pre X hw hC hnd U hU hW⟩ rfl hna hls hst (lv_room hrest) hd hcs
theorem g_runIN {host : String} (X : gC p s m meth c args own cc nL g A) (hw : gW g A s.heap gs H locs) (hM : gM l y b n none rm av gc Qq) (hav : av g = .ref b0 :: As) (hk : kM y b n none na) (hki : Cond.instanceMethod y ∈ lwG) (hyn : y.name = "<init>") (hlk : Cond.methodLinkNest own index y host ∈ lwN)
    (hR : rm.frames + 1 ≤ R.frames ∧ 8 + (n + 11) + rm.locals ≤ R.locals) (hcs : cells + rm.cells ≤ R.cells ∧ slots + rm.slots ≤ R.slots) (hC : isC.map (fun i => gs[i]?) = (gc g).map some) (hnd : va_nd isC = true) (hna : As.length = na) (hls : ls.size = nL) (hst : st = As.reverse ++ .ref b0 :: rest) (hrest : (rest.map fun v => v.category).sum ≤ 8) (hd : decode cc pc = .ok (.invokespecial index, 3)) :
    va_Run p l e R s m args below meth c H locs cells slots rm.cells rm.slots (F0 m pc ls st) rest (Qq g (gA (gc g) H.size) (Value.ref b0 :: As).toArray) (gA (gc g) H.size) :=
  va_runIN X.1 (by have h9 := hM g H.size; rw [hav] at h9; exact h9) ⟨g_CN X hk hR hlk, hyn, gK1 X _ hki⟩ ⟨gPc.blind, fun U hU hW => g_pre X hw hC hnd U hU hW⟩ rfl hna hls hst (lv_room hrest) hd hcs
variable {a : Array Value} {S : Type} {gs' : gG → S → List va_W} {mc ms : Nat} {gn : S → List va_W} {gc0 : List va_W}
theorem g_callr {v : S → Nat} (hr : va_Run p l e R s m args below meth c H locs cells slots mc ms (F0 m pc ls st) rest (gQr v gs' g (gA gc0 H.size) a) (gA gc0 H.size)) (hw : gW g A H0 gs H locs) (hC : isC.map (fun i => gs[i]?) = gc0.map some) (hnd : va_nd isC = true) (hl : ∀ u, isC.length ≤ (gs' g u).length) (hg : ∀ u, gputs gs isC (gs' g u) = gn u)
    (kk : ∀ (u : S) (H1 : Heap) (locs1 : List Loc), gW g A H0 (gn u) H1 locs1 → W p l e R s m args below meth c H1 locs1 (cells + mc) (slots + ms) Q (F0 m (pc + 3) ls (.ref (v u) :: rest))) : W p l e R s m args below meth c H locs cells slots Q (F0 m pc ls st) :=
  va_callr hr hw.2.2.1 (fun q _ h => g_sub hw hC q h) (fun q h => g_sub hw hC q h) (fun u ra t H1 locs1 ht hvm _ hB hsz hk hS => by
    obtain ⟨hra, hB1, hB2⟩ := hB
    subst hra
    rw [ht] at hB1
    have hj := g_join hw hC hnd (hl u) hk hB1 hB2
    rw [hg u] at hj
    exact kk u H1 locs1 ⟨hj.1, hj.2, hS, hw.2.2.2⟩)
theorem g_callr0 {v : S → Nat} (hr : va_Run p l e R s m args below meth c H locs cells slots mc ms (F0 m pc ls st) rest (gQr v gs' g (gA gc0 H.size) a) (gA gc0 H.size)) (hw : gW g A H0 gs H locs) (hC : isC.map (fun i => gs[i]?) = gc0.map some) (hnd : va_nd isC = true) (hl : ∀ u, isC.length ≤ (gs' g u).length) (hg : ∀ u, gputs gs isC (gs' g u) = gn u) (hmc : mc = 0) (hms : ms = 0)
    (kk : ∀ (u : S) (H1 : Heap) (locs1 : List Loc), gW g A H0 (gn u) H1 locs1 → W p l e R s m args below meth c H1 locs1 cells slots Q (F0 m (pc + 3) ls (.ref (v u) :: rest))) : W p l e R s m args below meth c H locs cells slots Q (F0 m pc ls st) := by
  subst hmc
  subst hms
  exact g_callr hr hw hC hnd hl hg kk
theorem g_aret {v : S → Nat} {C : String} (X : gC p s m meth c args own cc nL g A) (hr : meth.sig.returnType = some (.object C)) (u : S) {x : Nat} (hx : x = v u) (hw : gW g A s.heap gs H locs) (hg : gs = gs' g u) (hd : decode cc pc = .ok (.areturn, 1)) : W p l e R s m args below meth c H locs cells slots (MQ below (gQr v gs' g A) args s cells slots A) (F0 m pc ls [.ref x]) := by
  subst hg
  exact W.aret X.1.1 X.1.2.1 hr (Or.inl ⟨C, rfl⟩) (Or.inr ⟨x, rfl⟩) (fun t ht hW => ⟨⟨u, x, rfl, trivial, hx, by rw [ht]; exact hw.1, hw.2.1⟩, hw.2.2.1.F ht⟩) hw.2.2.1.2.2 hd X.2.1
/-- the first act of a constructor -/
theorem g_objInit {a0 : Nat} (X : gC p s m meth c args own cc nL g A) (hlk : Cond.methodLink own index Lib.objectInit ∈ lwG) (hls : ls.size = nL) (hf : 1 ≤ R.frames) (hlo : (rest.map fun v => v.category).sum + 12 ≤ R.locals) (hd : decode cc pc = .ok (.invokespecial index, 3))
    (kk : W p l e R s m args below meth c H locs cells slots Q (F0 m (pc + 3) ls rest)) : W p l e R s m args below meth c H locs cells slots Q (F0 m pc ls (.ref a0 :: rest)) := by
  refine W.objInit X.1.1 X.1.2.1 X.1.2.2.2.1 (gK1 X _ hlk) (gK1 X _ ki_obj) (gK1 X _ kc_obj) rfl (hls.trans X.1.2.2.1.symm) rfl hd hf ?_ kk
  show 2 * 0 + _ + 12 ≤ _
  omega
theorem g_cls {cA cB : ClassId} {ty : FieldType} {t0 : Nat} (X : gC p s m meth c args own cc nL g A) (hK : va_K g.1 vwCl (gty g ++ [(cA, ty)]) s) (ht : (gty g)[t0]? = some (cB, ty)) (hty : ∀ U cX, va_RA U cX ty → U.vm.findClass ("[" ++ ty.toString) = some cX) : cA = cB := by
  have h1 := (hK.2 (gty g).length (cA, ty) (by simp)).2
  have h2 := (X.2.2.1.2 t0 (cB, ty) ht).2
  exact Option.some.inj ((hty _ _ h1).symm.trans (hty _ _ h2))
/-- new int[], new long[] -/
theorem g_newI (X : gC p s m meth c args own cc nL g A) (hw : gW g A H0 gs H locs) {k : Int32} {N : Nat} (hn : ¬ k < 0) (hN : k.toNatClampNeg = N) (hb : N * 4 ≤ 536870912) (hcells : cells + 1 ≤ R.cells) (hslots : slots + N ≤ R.slots) (hd : decode cc pc = .ok (.newarray .int, 2))
    (kk : ∀ (q : Nat) (H1 : Heap), gW g A H0 (gs ++ [[(q, .inl (g.2.1, N, .inl (fun _ => 0)))]]) H1 locs → W p l e R s m args below meth c H1 locs (cells + 1) (slots + N) Q (F0 m (pc + 2) ls (.ref q :: rest))) : W p l e R s m args below meth c H locs cells slots Q (F0 m pc ls (.int k :: rest)) :=
  va_newa (atype := .int) X.1.1 X.1.2.1 (gK1 X _ ka_int) (ty := .int) rfl X.2.2.1 hw.1.flat hw.2.1.flat hw.2.2.1 hw.2.2.2 (a0 := (N, .inl (fun _ => 0))) (fun _ => rfl) hn hN hb hcells hslots hd (fun q cA H1 hK hP hD hS => by
    have e := g_cls X hK (t0 := 0) (cB := g.2.1) rfl (fun _ _ h => h)
    subst e
    exact kk q H1 (hw.push hP hD hS))
theorem g_newL (X : gC p s m meth c args own cc nL g A) (hw : gW g A H0 gs H locs) {k : Int32} {N : Nat} (hn : ¬ k < 0) (hN : k.toNatClampNeg = N) (hb : N * 8 ≤ 536870912) (hcells : cells + 1 ≤ R.cells) (hslots : slots + N ≤ R.slots) (hd : decode cc pc = .ok (.newarray .long, 2))
    (kk : ∀ (q : Nat) (H1 : Heap), gW g A H0 (gs ++ [[(q, .inl (g.2.2.1, N, .inr (.inl (fun _ => 0))))]]) H1 locs → W p l e R s m args below meth c H1 locs (cells + 1) (slots + N) Q (F0 m (pc + 2) ls (.ref q :: rest))) : W p l e R s m args below meth c H locs cells slots Q (F0 m pc ls (.int k :: rest)) :=
  va_newa (atype := .long) X.1.1 X.1.2.1 (gK1 X _ ka_long) (ty := .long) rfl X.2.2.1 hw.1.flat hw.2.1.flat hw.2.2.1 hw.2.2.2 (a0 := (N, .inr (.inl (fun _ => 0)))) (fun _ => rfl) hn hN hb hcells hslots hd (fun q cA H1 hK hP hD hS => by
    have e := g_cls X hK (t0 := 1) (cB := g.2.2.1) rfl (fun _ _ h => h)
    subst e
    exact kk q H1 (hw.push hP hD hS))
/-- putfield of a final field in its constructor -/
theorem g_putF (X : gC p s m meth c args own cc nL g A) (hw : gW g A H0 gs H locs) (i k0 : Nat) {wi : va_W} (hi : gs[i]? = some wi) {a ci : Nat} {fs : List Value} (he : wi[k0]? = some (a, .inr (ci, fs))) {C : String} {T : u_T} {N : Nat} (hc : vwCl[ci]? = some (C, T, N)) (hin : ∀ w ∈ u_ws C T N, w ∈ lwG) (ty0 : Nat → FieldType) (hty : ∀ k, k < N → parseFieldDescriptor (T k).2.2.1 = some (ty0 k)) (hnm : ∀ a, a < N → ∀ b, b < N → a ≠ b → (T a).2.1 ≠ (T b).2.1)
    (k : Nat) (hk : k < N) {index : Nat} (hl : Cond.fieldLink own index (T k).1 (T k).2.1 (T k).2.2.1 ∈ lwG) (hfin : (T k).2.2.2 = true) (hmn : meth.name = "<init>") (hdecl : (T k).1 = own) {ty : FieldType} {v : Value} (hdt : parseFieldDescriptor (T k).2.2.1 = some ty) (hn : narrow ty v = v) (hfit : fits ty v = true) (hlen : k < fs.length) (hd : decode cc pc = .ok (.putfield index, 3))
    {gs' : List va_W} (hg : gs.set i (wi.set k0 (a, .inr (ci, fs.set k v))) = gs') (kk : ∀ (H1 : Heap) (locs1 : List Loc), gW g A H0 gs' H1 locs1 → W p l e R s m args below meth c H1 locs1 cells slots Q (F0 m (pc + 3) ls rest)) : W p l e R s m args below meth c H locs cells slots Q (F0 m pc ls (v :: .ref a :: rest)) :=
  va_putF X.1.1 X.1.2.1 (gK1 X) hin ty0 hty hnm X.1.2.2.2.1 X.2.2.1 hw.1.flat hw.2.1.flat hw.2.2.1 (goff gs i + k0) (flat_at gs i wi k0 _ hi he) hc k hk (gK1 X _ hl) (fun _ h => h) hfin hmn hdecl hdt hn hfit hlen hd (fun H1 locs1 hP hD hS => kk H1 locs1 (hw.back hi he hg hP hD hS))
theorem g_mnaI (X : gC p s m meth c args own cc nL g A) (hw : gW g A H0 gs H locs) {n k : Int32} {N M : Nat} (hn : ¬ n < 0) (hk : ¬ k < 0) (hN : n.toNatClampNeg = N) (hM : k.toNatClampNeg = M) (hb1 : N * 4 ≤ 536870912) (hb2 : M * 4 ≤ 536870912) (hcl : Cond.classLink own index "[[I" ∈ lwG) (hcells : cells + (1 + N) ≤ R.cells) (hslots : slots + (N + N * M) ≤ R.slots) (hd : decode cc pc = .ok (.multianewarray index 2, 4))
    (kk : ∀ (q : Nat) (r : Nat → Nat) (H1 : Heap), gW g A H0 (gs ++ [[(q, .inl (g.2.2.2.1, N, .inr (.inr (.inr (.inr (fun i => if i < N then some (r i) else none))))))], (List.range N).map (fun i => (r i, .inl (g.2.1, M, .inl (fun _ => 0))))]) H1 locs → W p l e R s m args below meth c H1 locs (cells + 1 + N) (slots + N + N * M) Q (F0 m (pc + 4) ls (.ref q :: rest))) : W p l e R s m args below meth c H locs cells slots Q (F0 m pc ls (.int k :: .int n :: rest)) := by
  have hcy : s.vm.findClass (FieldType.array .int).toString = some g.2.1 := (X.2.2.1.2 0 (g.2.1, .int) rfl).2
  refine va_mna (X := gs.flatten) (L := []) (f := fun _ => .inr (0, [])) (ty := .int) (cy := g.2.1) (z := (M, .inl (fun _ => 0))) X.1.1 X.1.2.1 X.1.2.2.2.1 (gK1 X _ hcl) X.2.2.2.1.2.1 (gK1 X _ ka_int) hcy X.2.2.1 (by rw [va_pl, List.map_nil, List.append_nil]; exact hw.1.flat) (by rw [va_pl, List.map_nil, List.append_nil]; exact hw.2.1.flat) hw.2.2.1 hw.2.2.2 hn hk hN hM hb1 hb2 (by omega) rfl rfl hcells hslots (fun c => by unfold Jvm.Free.Multi.innerC; exact arrV_new _ _ _) hd (fun q r cA H1 hri hrl hK hP hD hS => ?_)
  have e := g_cls X hK (t0 := 2) (cB := g.2.2.2.1) rfl (fun _ _ h => h)
  subst e
  have ep : va_pl ([] ++ (List.range N).map r) (vr_up (fun _ => .inr (0, [])) ((List.range N).map r) (.inl (g.2.1, M, .inl (fun _ => 0)))) = (List.range N).map (fun i => (r i, .inl (g.2.1, M, .inl (fun _ => 0)))) := by
    unfold va_pl
    rw [List.nil_append, List.map_map]
    apply List.map_congr_left
    intro i hi
    show (r i, vr_up _ _ _ (r i)) = _
    rw [vr_up_in (List.mem_map.mpr ⟨i, hi, rfl⟩)]
  rw [ep] at hP hD
  have ef : (gs ++ ([[(q, .inl (g.2.2.2.1, N, .inr (.inr (.inr (.inr (fun i => if i < N then some (r i) else none))))))], (List.range N).map (fun i => (r i, .inl (g.2.1, M, .inl (fun _ => 0))))] : List va_W)).flatten = (gs.flatten ++ [(q, .inl (g.2.2.2.1, N, .inr (.inr (.inr (.inr (fun i => if i < N then some (r i) else none))))))]) ++ (List.range N).map (fun i => (r i, .inl (g.2.1, M, .inl (fun _ => 0)))) := by
    rw [List.flatten_append, List.flatten_cons, List.flatten_cons, List.flatten_nil, List.append_nil, List.append_assoc]
  exact kk q r H1 ⟨gP.of (by rw [ef]; exact hP), gD.of (by rw [ef]; exact hD), hS, hw.2.2.2⟩
theorem g_mnaJ (X : gC p s m meth c args own cc nL g A) (hw : gW g A H0 gs H locs) {n k : Int32} {N M : Nat} (hn : ¬ n < 0) (hk : ¬ k < 0) (hN : n.toNatClampNeg = N) (hM : k.toNatClampNeg = M) (hb1 : N * 4 ≤ 536870912) (hb2 : M * 8 ≤ 536870912) (hcl : Cond.classLink own index "[[J" ∈ lwG) (hcells : cells + (1 + N) ≤ R.cells) (hslots : slots + (N + N * M) ≤ R.slots) (hd : decode cc pc = .ok (.multianewarray index 2, 4))
    (kk : ∀ (q : Nat) (r : Nat → Nat) (H1 : Heap), gW g A H0 (gs ++ [[(q, .inl (g.2.2.2.2.1, N, .inr (.inr (.inr (.inr (fun i => if i < N then some (r i) else none))))))], (List.range N).map (fun i => (r i, .inl (g.2.2.1, M, .inr (.inl (fun _ => 0)))))]) H1 locs → W p l e R s m args below meth c H1 locs (cells + 1 + N) (slots + N + N * M) Q (F0 m (pc + 4) ls (.ref q :: rest))) : W p l e R s m args below meth c H locs cells slots Q (F0 m pc ls (.int k :: .int n :: rest)) := by
  have hcy : s.vm.findClass (FieldType.array .long).toString = some g.2.2.1 := (X.2.2.1.2 1 (g.2.2.1, .long) rfl).2
  refine va_mna (X := gs.flatten) (L := []) (f := fun _ => .inr (0, [])) (ty := .long) (cy := g.2.2.1) (z := (M, .inr (.inl (fun _ => 0)))) X.1.1 X.1.2.1 X.1.2.2.2.1 (gK1 X _ hcl) X.2.2.2.1.2.2 (gK1 X _ ka_long) hcy X.2.2.1 (by rw [va_pl, List.map_nil, List.append_nil]; exact hw.1.flat) (by rw [va_pl, List.map_nil, List.append_nil]; exact hw.2.1.flat) hw.2.2.1 hw.2.2.2 hn hk hN hM hb1 hb2 (by omega) rfl rfl hcells hslots (fun c => by unfold Jvm.Free.Multi.innerC; exact arrV_new _ _ _) hd (fun q r cA H1 hri hrl hK hP hD hS => ?_)
  have e := g_cls X hK (t0 := 3) (cB := g.2.2.2.2.1) rfl (fun _ _ h => h)
  subst e
  have ep : va_pl ([] ++ (List.range N).map r) (vr_up (fun _ => .inr (0, [])) ((List.range N).map r) (.inl (g.2.2.1, M, .inr (.inl (fun _ => 0))))) = (List.range N).map (fun i => (r i, .inl (g.2.2.1, M, .inr (.inl (fun _ => 0))))) := by
    unfold va_pl
    rw [List.nil_append, List.map_map]
    apply List.map_congr_left
    intro i hi
    show (r i, vr_up _ _ _ (r i)) = _
    rw [vr_up_in (List.mem_map.mpr ⟨i, hi, rfl⟩)]
  rw [ep] at hP hD
  have ef : (gs ++ ([[(q, .inl (g.2.2.2.2.1, N, .inr (.inr (.inr (.inr (fun i => if i < N then some (r i) else none))))))], (List.range N).map (fun i => (r i, .inl (g.2.2.1, M, .inr (.inl (fun _ => 0)))))] : List va_W)).flatten = (gs.flatten ++ [(q, .inl (g.2.2.2.2.1, N, .inr (.inr (.inr (.inr (fun i => if i < N then some (r i) else none))))))]) ++ (List.range N).map (fun i => (r i, .inl (g.2.2.1, M, .inr (.inl (fun _ => 0))))) := by
    rw [List.flatten_append, List.flatten_cons, List.flatten_cons, List.flatten_nil, List.append_nil, List.append_assoc]
  exact kk q r H1 ⟨gP.of (by rw [ef]; exact hP), gD.of (by rw [ef]; exact hD), hS, hw.2.2.2⟩
end G5
section GE5
variable {l : Launch} {y : MethodName} {b : ByteArray} {n : Nat} {rm : Room} {av : gG → List Value} {gs : gG → List va_W} {S : Type} {gs' : gG → S → List va_W}
theorem gM.ofr {v : S → Nat} {C : String} (hy : plainName y.cls = true) (hn : ∀ g, (lg_sl (av g)).length ≤ n)
    (body : ∀ (g : gG) (p : Program) (e : Env) (s : State) (m : MethodId) (args : Array Value) (below : List Frame) (meth : Method) (c : Code) (A : Nat → Prop) (ls : Array Slot) (Q : State → Prop), gC p s m meth c args y.cls b n g A →
      (∀ (u : S) {x : Nat} {pc : Nat} {H : Heap} {locs : List Loc} {ls : Array Slot}, decode b pc = .ok (.areturn, 1) → x = v u → gW g A s.heap (gs' g u) H locs → W p l e rm s m args below meth c H locs rm.cells rm.slots Q (F0 m pc ls [.ref x])) →
      gW g A s.heap (gs g) s.heap [] → lv_has ls n (lv_args 0 (av g)) → W p l e rm s m args below meth c s.heap [] 0 0 Q (F0 m 0 ls [])) : gM l y b n (some (.object C)) rm av gs (gQr v gs') :=
  gM.of hy hn fun g p e s m below meth c A ls X hr _ hw hl => body g p e s m (av g).toArray below meth c A ls _ X (fun u _ _ _ _ _ hd hx hw => g_aret X hr u hx hw rfl hd) hw hl
theorem gM.ofc (hy : plainName y.cls = true) (hn : ∀ g, (lg_sl (av g)).length ≤ n)
    (body : ∀ (g : gG) (p : Program) (e : Env) (s : State) (m : MethodId) (args : Array Value) (below : List Frame) (meth : Method) (c : Code) (A : Nat → Prop) (ls : Array Slot) (Q : State → Prop), gC p s m meth c args y.cls b n g A → meth.name = y.name →
      (∀ (u : S) {pc : Nat} {H : Heap} {locs : List Loc} {ls : Array Slot}, decode b pc = .ok (.return_, 1) → gW g A s.heap (gs' g u) H locs → W p l e rm s m args below meth c H locs rm.cells rm.slots Q (F0 m pc ls [])) →
      gW g A s.heap (gs g) s.heap [] → lv_has ls n (lv_args 0 (av g)) → W p l e rm s m args below meth c s.heap [] 0 0 Q (F0 m 0 ls [])) : gM l y b n none rm av gs (gQv gs') :=
  gM.of hy hn fun g p e s m below meth c A ls X hr hmn hw hl => body g p e s m (av g).toArray below meth c A ls _ X hmn (fun u _ _ _ _ hd hw => g_vret X hr u hw rfl hd) hw hl
end GE5
