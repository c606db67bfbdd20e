def kM (y : MethodName) (b : ByteArray) (n : Nat) (r : Option FieldType) (na : Nat) : Prop := Cond.code y b n r ∈ lwG ∧ Cond.initialized y.cls ∈ lwG ∧ (y.cls ≠ "java/lang/invoke/MethodHandle" ∧ y.cls ≠ "java/lang/invoke/VarHandle" ∧ (parseMethodDescriptor y.desc).map (fun d => d.parameters.length) = some na)
section G2
variable {p : Program} {l : Launch} {e : Env} {R : Room} {s : State} {m : MethodId} {args : Array Value} {below : List Frame} {meth : Method} {c : Code} {H : Heap} {locs : List Loc} {cells slots : Nat} {Q : State → Prop}
variable {cc : ByteArray} {pc : Nat} {ls : Array Slot} {rest st : List Value} {own : String} {nL : Nat} {g : gG} {A : Nat → Prop} {H0 : Heap} {gs : List va_W}
variable {y : MethodName} {b : ByteArray} {n na index : Nat} {r : Option FieldType} {rm : Room} {As : List Value} {gc : gG → List va_W} {Qq : gQ} {isC : List Nat} {b0 : Nat}
theorem g_pre {av : List Value} (X : gC p s m meth c args own cc nL g A) (hw : gW g A s.heap gs H locs) (hC : isC.map (fun i => gs[i]?) = (gc g).map some) (hnd : va_nd isC = true) (U : State) (hU : U.heap = H) (hW : s.WarmedH U.vm) : gPc g (gc g) H.size av av.toArray U :=
  ⟨rfl, by rw [hU], by rw [hU]; exact hw.1.pick hC, va_K.moved hW.alike X.2.2.1, (hw.2.1.pick hC hnd).weaken (fun _ _ => trivial), gN.warm hW X.2.2.2.1, by
    rw [hU]
    exact gT.moved hW.alike (gR12.warm hW X.2.2.2.2.2.2.2) ((X.2.2.2.2.kept (fun a h1 h2 => hw.2.2.1.2.1 a h1 h2)).narrow (g_sub hw hC))⟩
theorem g_B (X : gC p s m meth c args own cc nL g A) (hk : kM y b n r na) (hR : rm.frames + 1 ≤ R.frames ∧ 8 + (n + 11) + rm.locals ≤ R.locals) (hlk : Cond.methodLink own index y ∈ lwG) : CallB R s args own index y b n r (.code y b n r :: lwG) rm rm.cells rm.slots na :=
  callB_of na (gK1 X) (g_good hk.1) rfl rfl rfl (gK1 X _ hk.2.1) (gK1 X _ hlk) hk.2.2 hR
theorem g_CN {host : String} (X : gC p s m meth c args own cc nL g A) (hk : kM y b n r na) (hR : rm.frames + 1 ≤ R.frames ∧ 8 + (n + 11) + rm.locals ≤ R.locals) (hlk : Cond.methodLinkNest own index y host ∈ lwN) : va_CN R s args own index y host b n r (.code y b n r :: lwG) rm rm.cells rm.slots na :=
  va_cnB na (gK1 X) (g_good hk.1) rfl rfl rfl (X.2.2.2.1.1 _ hlk) (gK1 X _ hk.2.1) hk.2.2 hR
/-- the receiver is the first cell of the callee's first group -/
def gR (gc : List va_W) (b0 : Nat) (C : String) : Prop := ∃ (w0 : va_W) (ci : Nat) (fs : List Value) (q : vw_C), gc[0]? = some w0 ∧ w0[0]? = some (b0, .inr (ci, fs)) ∧ vwCl[ci]? = some q ∧ q.1 = C
theorem g_rcv (X : gC p s m meth c args own cc nL g A) (hw : gW g A H0 gs H locs) (hC : isC.map (fun i => gs[i]?) = (gc g).map some) {C : String} (hr : gR (gc g) b0 C) : ∃ cell : Cell, H[b0]? = some cell ∧ cell.vm.isStatics = false ∧ s.vm.findClass C = some cell.cls := by
  obtain ⟨w0, ci, fs, q, h1, h2, h3, h4⟩ := hr
  rw [← h4]
  exact va_recv X.2.2.1 (hw.1.pick hC 0 w0 h1) h3 h2
variable {av : gG → List Value}
theorem g_runV (X : gC p s m meth c args own cc nL g A) (hw : gW g A s.heap gs H locs) (hM : gM l y b n r rm av gc Qq) (hav : av g = .ref b0 :: As) (hk : kM y b n r na) (hki : Cond.instanceMethod y ∈ lwG) (hks : Cond.selects y.cls y y ∈ lwG) (hlk : Cond.methodLink own index y ∈ lwG)
    (hR : rm.frames + 1 ≤ R.frames ∧ 8 + (n + 11) + rm.locals ≤ R.locals) (hcs : cells + rm.cells ≤ R.cells ∧ slots + rm.slots ≤ R.slots) (hC : isC.map (fun i => gs[i]?) = (gc g).map some) (hnd : va_nd isC = true) (hr : gR (gc g) b0 y.cls) (hna : As.length = na) (hls : ls.size = nL) (hst : st = As.reverse ++ .ref b0 :: rest) (hrest : (rest.map fun v => v.category).sum ≤ 8) (hd : decode cc pc = .ok (.invokevirtual index, 3)) :
    va_Run p l e R s m args below meth c H locs cells slots rm.cells rm.slots (F0 m pc ls st) rest (Qq g (gA (gc g) H.size) (Value.ref b0 :: As).toArray) (gA (gc g) H.size) :=
  va_runV X.1 (by have h9 := hM g H.size; rw [hav] at h9; exact h9) ⟨g_B X hk hR hlk, gK1 X _ hki, gK1 X _ hks⟩ ⟨gPc.blind, g_rcv X hw hC hr, fun U hU hW => g_pre X hw hC hnd U hU hW⟩ rfl hna hls hst (lv_room hrest) hd hcs
theorem g_runVN {host : String} (X : gC p s m meth c args own cc nL g A) (hw : gW g A s.heap gs H locs) (hM : gM l y b n r rm av gc Qq) (hav : av g = .ref b0 :: As) (hk : kM y b n r na) (hki : Cond.instanceMethod y ∈ lwG) (hks : Cond.selects y.cls y y ∈ lwG) (hlk : Cond.methodLinkNest own index y host ∈ lwN)
    (hR : rm.frames + 1 ≤ R.frames ∧ 8 + (n + 11) + rm.locals ≤ R.locals) (hcs : cells + rm.cells ≤ R.cells ∧ slots + rm.slots ≤ R.slots) (hC : isC.map (fun i => gs[i]?) = (gc g).map some) (hnd : va_nd isC = true) (hr : gR (gc g) b0 y.cls) (hna : As.length = na) (hls : ls.size = nL) (hst : st = As.reverse ++ .ref b0 :: rest) (hrest : (rest.map fun v => v.category).sum ≤ 8) (hd : decode cc pc = .ok (.invokevirtual index, 3)) :
    va_Run p l e R s m args below meth c H locs cells slots rm.cells rm.slots (F0 m pc ls st) rest (Qq g (gA (gc g) H.size) (Value.ref b0 :: As).toArray) (gA (gc g) H.size) :=
  va_runVN X.1 (by have h9 := hM g H.size; rw [hav] at h9; exact h9) ⟨g_CN X hk hR hlk, gK1 X _ hki, gK1 X _ hks⟩ ⟨gPc.blind, g_rcv X hw hC hr, fun U hU hW => g_pre X hw hC hnd U hU hW⟩ rfl hna hls hst (lv_room hrest) hd hcs
theorem g_runS (X : gC p s m meth c args own cc nL g A) (hw : gW g A s.heap gs H locs) (hM : gM l y b n r rm av gc Qq) (hav : av g = As) (hk : kM y b n r na) (hkt : Cond.static y ∈ lwG) (hlk : Cond.methodLink own index y ∈ lwG)
    (hR : rm.frames + 1 ≤ R.frames ∧ 8 + (n + 11) + rm.locals ≤ R.locals) (hcs : cells + rm.cells ≤ R.cells ∧ slots + rm.slots ≤ R.slots) (hC : isC.map (fun i => gs[i]?) = (gc g).map some) (hnd : va_nd isC = true) (hna : As.length = na) (hls : ls.size = nL) (hst : st = As.reverse ++ rest) (hrest : (rest.map fun v => v.category).sum ≤ 8) (hd : decode cc pc = .ok (.invokestatic index, 3)) :
    va_Run p l e R s m args below meth c H locs cells slots rm.cells rm.slots (F0 m pc ls st) rest (Qq g (gA (gc g) H.size) As.toArray) (gA (gc g) H.size) :=
  va_runS X.1 (by have h9 := hM g H.size; rw [hav] at h9; exact h9) ⟨g_B X hk hR hlk, gK1 X _ hkt⟩ ⟨gPc.blind, fun U hU hW => g_pre X hw hC hnd U hU hW⟩ rfl hna hls hst (lv_room hrest) hd hcs
theorem g_runSN {host : String} (X : gC p s m meth c args own cc nL g A) (hw : gW g A s.heap gs H locs) (hM : gM l y b n r rm av gc Qq) (hav : av g = As) (hk : kM y b n r na) (hkt : Cond.static y ∈ lwG) (hlk : Cond.methodLinkNest own index y host ∈ lwN)
    (hR : rm.frames + 1 ≤ R.frames ∧ 8 + (n + 11) + rm.locals ≤ R.locals) (hcs : cells + rm.cells ≤ R.cells ∧ slots + rm.slots ≤ R.slots) (hC : isC.map (fun i => gs[i]?) = (gc g).map some) (hnd : va_nd isC = true) (hna : As.length = na) (hls : ls.size = nL) (hst : st = As.reverse ++ rest) (hrest : (rest.map fun v => v.category).sum ≤ 8) (hd : decode cc pc = .ok (.invokestatic index, 3)) :
    va_Run p l e R s m args below meth c H locs cells slots rm.cells rm.slots (F0 m pc ls st) rest (Qq g (gA (gc g) H.size) As.toArray) (gA (gc g) H.size) :=
  va_runSN X.1 (by have h9 := hM g H.size; rw [hav] at h9; exact h9) ⟨g_CN X hk hR hlk, gK1 X _ hkt, trivial⟩ ⟨gPc.blind, fun U hU hW => g_pre X hw hC hnd U hU hW⟩ rfl hna hls hst (lv_room hrest) hd hcs
variable {a : Array Value} {S : Type} {gs' : gG → S → List va_W} {mc ms : Nat} {gn : S → List va_W} {gc0 : List va_W}
theorem g_calli {v : S → Int32} (hr : va_Run p l e R s m args below meth c H locs cells slots mc ms (F0 m pc ls st) rest (gQi v gs' g (gA gc0 H.size) a) (gA gc0 H.size)) (hw : gW g A H0 gs H locs) (hC : isC.map (fun i => gs[i]?) = gc0.map some) (hnd : va_nd isC = true) (hl : ∀ u, isC.length ≤ (gs' g u).length) (hg : ∀ u, gputs gs isC (gs' g u) = gn u)
    (kk : ∀ (u : S) (H1 : Heap) (locs1 : List Loc), gW g A H0 (gn u) H1 locs1 → W p l e R s m args below meth c H1 locs1 (cells + mc) (slots + ms) Q (F0 m (pc + 3) ls (.int (v u) :: rest))) : W p l e R s m args below meth c H locs cells slots Q (F0 m pc ls st) :=
  va_calli hr hw.2.2.1 (fun q _ h => g_sub hw hC q h) (fun q h => g_sub hw hC q h) (fun r u t H1 locs1 ht hvm hp hB hsz hk hS => by
    subst hp
    have hB1 := hB.1
    rw [ht] at hB1
    have hj := g_join hw hC hnd (hl u) hk hB1 hB.2
    rw [hg u] at hj
    exact kk u H1 locs1 ⟨hj.1, hj.2, hS, hw.2.2.2⟩)
theorem g_calli0 {v : S → Int32} (hr : va_Run p l e R s m args below meth c H locs cells slots mc ms (F0 m pc ls st) rest (gQi v gs' g (gA gc0 H.size) a) (gA gc0 H.size)) (hw : gW g A H0 gs H locs) (hC : isC.map (fun i => gs[i]?) = gc0.map some) (hnd : va_nd isC = true) (hl : ∀ u, isC.length ≤ (gs' g u).length) (hg : ∀ u, gputs gs isC (gs' g u) = gn u) (hmc : mc = 0) (hms : ms = 0)
    (kk : ∀ (u : S) (H1 : Heap) (locs1 : List Loc), gW g A H0 (gn u) H1 locs1 → W p l e R s m args below meth c H1 locs1 cells slots Q (F0 m (pc + 3) ls (.int (v u) :: rest))) : W p l e R s m args below meth c H locs cells slots Q (F0 m pc ls st) := by
  subst hmc
  subst hms
  exact g_calli hr hw hC hnd hl hg kk
theorem g_calll {v : S → Int64} (hr : va_Run p l e R s m args below meth c H locs cells slots mc ms (F0 m pc ls st) rest (gQl v gs' g (gA gc0 H.size) a) (gA gc0 H.size)) (hw : gW g A H0 gs H locs) (hC : isC.map (fun i => gs[i]?) = gc0.map some) (hnd : va_nd isC = true) (hl : ∀ u, isC.length ≤ (gs' g u).length) (hg : ∀ u, gputs gs isC (gs' g u) = gn u)
    (kk : ∀ (u : S) (H1 : Heap) (locs1 : List Loc), gW g A H0 (gn u) H1 locs1 → W p l e R s m args below meth c H1 locs1 (cells + mc) (slots + ms) Q (F0 m (pc + 3) ls (.long (v u) :: rest))) : W p l e R s m args below meth c H locs cells slots Q (F0 m pc ls st) :=
  va_calll hr hw.2.2.1 (fun q _ h => g_sub hw hC q h) (fun q h => g_sub hw hC q h) (fun r u t H1 locs1 ht hvm hp hB hsz hk hS => by
    subst hp
    have hB1 := hB.1
    rw [ht] at hB1
    have hj := g_join hw hC hnd (hl u) hk hB1 hB.2
    rw [hg u] at hj
    exact kk u H1 locs1 ⟨hj.1, hj.2, hS, hw.2.2.2⟩)
theorem g_calll0 {v : S → Int64} (hr : va_Run p l e R s m args below meth c H locs cells slots mc ms (F0 m pc ls st) rest (gQl v gs' g (gA gc0 H.size) a) (gA gc0 H.size)) (hw : gW g A H0 gs H locs) (hC : isC.map (fun i => gs[i]?) = gc0.map some) (hnd : va_nd isC = true) (hl : ∀ u, isC.length ≤ (gs' g u).length) (hg : ∀ u, gputs gs isC (gs' g u) = gn u) (hmc : mc = 0) (hms : ms = 0)
    (kk : ∀ (u : S) (H1 : Heap) (locs1 : List Loc), gW g A H0 (gn u) H1 locs1 → W p l e R s m args below meth c H1 locs1 cells slots Q (F0 m (pc + 3) ls (.long (v u) :: rest))) : W p l e R s m args below meth c H locs cells slots Q (F0 m pc ls st) := by
  subst hmc
  subst hms
  exact g_calll hr hw hC hnd hl hg kk
theorem g_callv (hr : va_Run p l e R s m args below meth c H locs cells slots mc ms (F0 m pc ls st) rest (gQv gs' g (gA gc0 H.size) a) (gA gc0 H.size)) (hw : gW g A H0 gs H locs) (hC : isC.map (fun i => gs[i]?) = gc0.map some) (hnd : va_nd isC = true) (hl : ∀ u, isC.length ≤ (gs' g u).length) (hg : ∀ u, gputs gs isC (gs' g u) = gn u)
    (kk : ∀ (u : S) (H1 : Heap) (locs1 : List Loc), gW g A H0 (gn u) H1 locs1 → W p l e R s m args below meth c H1 locs1 (cells + mc) (slots + ms) Q (F0 m (pc + 3) ls rest)) : W p l e R s m args below meth c H locs cells slots Q (F0 m pc ls st) :=
  va_callv hr hw.2.2.1 (fun q _ h => g_sub hw hC q h) (fun q h => g_sub hw hC q h) (fun u t H1 locs1 ht hvm hp hB hsz hk hS => by
    have hB1 := hB.1
    rw [ht] at hB1
    have hj := g_join hw hC hnd (hl u) hk hB1 hB.2
    rw [hg u] at hj
    exact kk u H1 locs1 ⟨hj.1, hj.2, hS, hw.2.2.2⟩)
theorem g_callv0 (hr : va_Run p l e R s m args below meth c H locs cells slots mc ms (F0 m pc ls st) rest (gQv gs' g (gA gc0 H.size) a) (gA gc0 H.size)) (hw : gW g A H0 gs H locs) (hC : isC.map (fun i => gs[i]?) = gc0.map some) (hnd : va_nd isC = true) (hl : ∀ u, isC.length ≤ (gs' g u).length) (hg : ∀ u, gputs gs isC (gs' g u) = gn u) (hmc : mc = 0) (hms : ms = 0)
    (kk : ∀ (u : S) (H1 : Heap) (locs1 : List Loc), gW g A H0 (gn u) H1 locs1 → W p l e R s m args below meth c H1 locs1 cells slots Q (F0 m (pc + 3) ls rest)) : W p l e R s m args below meth c H locs cells slots Q (F0 m pc ls st) := by
  subst hmc
  subst hms
  exact g_callv hr hw hC hnd hl hg kk
/-- returns -/
theorem g_iret {v : S → Int32} (X : gC p s m meth c args own cc nL g A) (hr : meth.sig.returnType = some .int) (u : S) {x : Int32} (hx : x = v u) (hw : gW g A s.heap gs H locs) (hg : gs = gs' g u) (hd : decode cc pc = .ok (.ireturn, 1)) : W p l e R s m args below meth c H locs cells slots (MQ below (gQi v gs' g A) args s cells slots A) (F0 m pc ls [.int x]) := by
  subst hg
  exact W.iret X.1.1 X.1.2.1 hr (fun t ht hW => ⟨⟨x, u, rfl, hx, by rw [ht]; exact hw.1, hw.2.1⟩, hw.2.2.1.F ht⟩) hw.2.2.1.2.2 hd X.2.1
theorem g_nb {x : Int32} (h : x = 0 ∨ x = 1) : narrow .boolean (.int x) = .int x := by rcases h with rfl | rfl <;> rfl
theorem g_zret {v : S → Int32} (X : gC p s m meth c args own cc nL g A) (hr : meth.sig.returnType = some .boolean) (u : S) {x : Int32} (h01 : x = 0 ∨ x = 1) (hx : x = v u) (hw : gW g A s.heap gs H locs) (hg : gs = gs' g u) (hd : decode cc pc = .ok (.ireturn, 1)) : W p l e R s m args below meth c H locs cells slots (MQ below (gQi v gs' g A) args s cells slots A) (F0 m pc ls [.int x]) := by
  subst hg
  exact W.zret X.1.1 X.1.2.1 hr (g_nb h01) (fun t ht hW => ⟨⟨x, u, rfl, hx, by rw [ht]; exact hw.1, hw.2.1⟩, hw.2.2.1.F ht⟩) hw.2.2.1.2.2 hd X.2.1
theorem g_lret {v : S → Int64} (X : gC p s m meth c args own cc nL g A) (hr : meth.sig.returnType = some .long) (u : S) {x : Int64} (hx : x = v u) (hw : gW g A s.heap gs H locs) (hg : gs = gs' g u) (hd : decode cc pc = .ok (.lreturn, 1)) : W p l e R s m args below meth c H locs cells slots (MQ below (gQl v gs' g A) args s cells slots A) (F0 m pc ls [.long x]) := by
  subst hg
  exact W.lret X.1.1 X.1.2.1 hr (fun t ht hW => ⟨⟨x, u, rfl, hx, by rw [ht]; exact hw.1, hw.2.1⟩, hw.2.2.1.F ht⟩) hw.2.2.1.2.2 hd X.2.1
theorem g_vret (X : gC p s m meth c args own cc nL g A) (hr : meth.sig.returnType = none) (u : S) (hw : gW g A s.heap gs H locs) (hg : gs = gs' g u) (hd : decode cc pc = .ok (.return_, 1)) : W p l e R s m args below meth c H locs cells slots (MQ below (gQv gs' g A) args s cells slots A) (F0 m pc ls []) := by
  subst hg
  exact W.vret X.1.1 X.1.2.1 hr (fun t ht hW => ⟨⟨u, rfl, trivial, by rw [ht]; exact hw.1, hw.2.1⟩, hw.2.2.1.F ht⟩) hw.2.2.1.2.2 hd X.2.1
end G2
/-! what a model's equation says, branch by branch -/
theorem itt {α : Type} {c : Prop} [Decidable c] {a b : α} {o : α} (k : c) (h : (if c then a else b) = o) : a = o := by rw [if_pos k] at h; exact h
theorem itf {α : Type} {c : Prop} [Decidable c] {a b : α} {o : α} (k : ¬ c) (h : (if c then a else b) = o) : b = o := by rw [if_neg k] at h; exact h
theorem chk {α : Type} {c : Prop} [Decidable c] {a : Option α} {o : α} (h : (if c then none else a) = some o) : ¬ c ∧ a = some o := by
  by_cases k : c
  · rw [if_pos k] at h; cases h
  · rw [if_neg k] at h; exact ⟨k, h⟩
theorem bnd {α β : Type} {x : Option α} {f : α → Option β} {o : β} (h : x.bind f = some o) : ∃ z, x = some z ∧ f z = some o := by
  cases x with
  | none => cases h
  | some z => exact ⟨z, rfl, h⟩
/-- a loop with fuel -/
def lp {S R : Type} (body : (S → Option R) → S → Option R) : Nat → S → Option R
  | 0, _ => none
  | n + 1, z => body (lp body n) z
theorem lp_ind {S R : Type} {body : (S → Option R) → S → Option R} {out : R} {P : S → Prop} (hs : ∀ rec : S → Option R, (∀ z, rec z = some out → P z) → ∀ z, body rec z = some out → P z) : ∀ (n : Nat) (z : S), lp body n z = some out → P z
  | 0, _, h => by cases h
  | n + 1, z, h => hs (lp body n) (fun z' h' => lp_ind hs n z' h') z h
section GE
variable {l : Launch} {y : MethodName} {b : ByteArray} {n : Nat} {rm : Room} {av : gG → List Value} {gs : gG → List va_W} {S : Type} {gs' : gG → S → List va_W}
theorem gM.ofi {v : S → Int32} (hy : plainName y.cls = true) (hn : ∀ g, (lg_sl (av g)).length ≤ n)
    (body : ∀ (g : gG) (p : Program) (e : Env) (s : State) (m : MethodId) (args : Array Value) (below : List Frame) (meth : Method) (c : Code) (A : Nat → Prop) (ls : Array Slot) (Q : State → Prop), gC p s m meth c args y.cls b n g A →
      (∀ (u : S) {x : Int32} {pc : Nat} {H : Heap} {locs : List Loc} {ls : Array Slot}, decode b pc = .ok (.ireturn, 1) → x = v u → gW g A s.heap (gs' g u) H locs → W p l e rm s m args below meth c H locs rm.cells rm.slots Q (F0 m pc ls [.int x])) →
      gW g A s.heap (gs g) s.heap [] → lv_has ls n (lv_args 0 (av g)) → W p l e rm s m args below meth c s.heap [] 0 0 Q (F0 m 0 ls [])) : gM l y b n (some .int) rm av gs (gQi v gs') :=
  gM.of hy hn fun g p e s m below meth c A ls X hr _ hw hl => body g p e s m (av g).toArray below meth c A ls _ X (fun u _ _ _ _ _ hd hx hw => g_iret X hr u hx hw rfl hd) hw hl
theorem gM.ofz {v : S → Int32} (hy : plainName y.cls = true) (hn : ∀ g, (lg_sl (av g)).length ≤ n)
    (body : ∀ (g : gG) (p : Program) (e : Env) (s : State) (m : MethodId) (args : Array Value) (below : List Frame) (meth : Method) (c : Code) (A : Nat → Prop) (ls : Array Slot) (Q : State → Prop), gC p s m meth c args y.cls b n g A →
      (∀ (u : S) {x : Int32} {pc : Nat} {H : Heap} {locs : List Loc} {ls : Array Slot}, decode b pc = .ok (.ireturn, 1) → (x = 0 ∨ x = 1) → x = v u → gW g A s.heap (gs' g u) H locs → W p l e rm s m args below meth c H locs rm.cells rm.slots Q (F0 m pc ls [.int x])) →
      gW g A s.heap (gs g) s.heap [] → lv_has ls n (lv_args 0 (av g)) → W p l e rm s m args below meth c s.heap [] 0 0 Q (F0 m 0 ls [])) : gM l y b n (some .boolean) rm av gs (gQi v gs') :=
  gM.of hy hn fun g p e s m below meth c A ls X hr _ hw hl => body g p e s m (av g).toArray below meth c A ls _ X (fun u _ _ _ _ _ hd h01 hx hw => g_zret X hr u h01 hx hw rfl hd) hw hl
theorem gM.ofl {v : S → Int64} (hy : plainName y.cls = true) (hn : ∀ g, (lg_sl (av g)).length ≤ n)
    (body : ∀ (g : gG) (p : Program) (e : Env) (s : State) (m : MethodId) (args : Array Value) (below : List Frame) (meth : Method) (c : Code) (A : Nat → Prop) (ls : Array Slot) (Q : State → Prop), gC p s m meth c args y.cls b n g A →
      (∀ (u : S) {x : Int64} {pc : Nat} {H : Heap} {locs : List Loc} {ls : Array Slot}, decode b pc = .ok (.lreturn, 1) → x = v u → gW g A s.heap (gs' g u) H locs → W p l e rm s m args below meth c H locs rm.cells rm.slots Q (F0 m pc ls [.long x])) →
      gW g A s.heap (gs g) s.heap [] → lv_has ls n (lv_args 0 (av g)) → W p l e rm s m args below meth c s.heap [] 0 0 Q (F0 m 0 ls [])) : gM l y b n (some .long) rm av gs (gQl v gs') :=
  gM.of hy hn fun g p e s m below meth c A ls X hr _ hw hl => body g p e s m (av g).toArray below meth c A ls _ X (fun u _ _ _ _ _ hd hx hw => g_lret X hr u hx hw rfl hd) hw hl
theorem gM.ofv (hy : plainName y.cls = true) (hn : ∀ g, (lg_sl (av g)).length ≤ n)
    (body : ∀ (g : gG) (p : Program) (e : Env) (s : State) (m : MethodId) (args : Array Value) (below : List Frame) (meth : Method) (c : Code) (A : Nat → Prop) (ls : Array Slot) (Q : State → Prop), gC p s m meth c args y.cls b n g A →
      (∀ (u : S) {pc : Nat} {H : Heap} {locs : List Loc} {ls : Array Slot}, decode b pc = .ok (.return_, 1) → gW g A s.heap (gs' g u) H locs → W p l e rm s m args below meth c H locs rm.cells rm.slots Q (F0 m pc ls [])) →
      gW g A s.heap (gs g) s.heap [] → lv_has ls n (lv_args 0 (av g)) → W p l e rm s m args below meth c s.heap [] 0 0 Q (F0 m 0 ls [])) : gM l y b n none rm av gs (gQv gs') :=
  gM.of hy hn fun g p e s m below meth c A ls X hr _ hw hl => body g p e s m (av g).toArray below meth c A ls _ X (fun u _ _ _ _ hd hw => g_vret X hr u hw rfl hd) hw hl
end GE
