/-! contracts and calls over groups -/
def gPc (g : gG) (gs : List va_W) (sz : Nat) (av : List Value) : Array Value → State → Prop := va_Pc av (fun U => U.heap.size = sz ∧ gP g gs U.heap ∧ va_K g.1 vwCl (gty g) U ∧ gD (fun _ => True) gs ∧ gN U ∧ gT g (gA gs sz) U U.heap)
theorem gPc.blind {g : gG} {gs : List va_W} {sz : Nat} {av : List Value} : FrameBlind (gPc g gs sz av) := fun a U f mk q => by
  obtain ⟨q0, q1, qP, qK, qD, qN, qT⟩ := q
  exact ⟨q0, q1, qP, va_K.moved (u := U) (U := U.calling f mk a) (Vm.Alike.refl U.vm) qK, qD, gN.same (s := U) (U := U.calling f mk a) rfl qN, gT.moved (u := U) (U := U.calling f mk a) (Vm.Alike.refl U.vm) (gR12.same (u := U) (U := U.calling f mk a) rfl qT.2.2.2) qT⟩
abbrev gQ : Type := gG → (Nat → Prop) → Array Value → State → Outcome → State → Prop
def gQi {S : Type} (v : S → Int32) (gs' : gG → S → List va_W) : gQ := fun g A => va_Qi (fun r u => r = v u) (fun u t => gP g (gs' g u) t.heap ∧ gD A (gs' g u)) A
def gQl {S : Type} (v : S → Int64) (gs' : gG → S → List va_W) : gQ := fun g A => va_Ql (fun r u => r = v u) (fun u t => gP g (gs' g u) t.heap ∧ gD A (gs' g u)) A
def gQv {S : Type} (gs' : gG → S → List va_W) : gQ := fun g A => va_Qv (fun _ : S => True) (fun u t => gP g (gs' g u) t.heap ∧ gD A (gs' g u)) A
def gQr {S : Type} (v : S → Nat) (gs' : gG → S → List va_W) : gQ := fun g A => va_Qr (fun _ : S => True) (fun u a t => a = v u ∧ gP g (gs' g u) t.heap ∧ gD A (gs' g u)) A
def gM (l : Launch) (y : MethodName) (b : ByteArray) (n : Nat) (r : Option FieldType) (rm : Room) (av : gG → List Value) (gs : gG → List va_W) (Q : gQ) : Prop :=
  ∀ (g : gG) (sz : Nat), Met l y (.code y b n r :: lwG) rm (gPc g (gs g) sz (av g)) (Q g (gA (gs g) sz)) rm.cells rm.slots (gA (gs g) sz)
/-- the entry of a method -/
theorem gM.of {l : Launch} {y : MethodName} {b : ByteArray} {n : Nat} {r : Option FieldType} {rm : Room} {av : gG → List Value} {gs : gG → List va_W} {Qq : gQ} (hy : plainName y.cls = true) (hn : ∀ g, (lg_sl (av g)).length ≤ n)
    (body : ∀ (g : gG) (p : Program) (e : Env) (s : State) (m : MethodId) (below : List Frame) (meth : Method) (c : Code) (A : Nat → Prop) (ls : Array Slot), gC p s m meth c (av g).toArray y.cls b n g A → meth.sig.returnType = r → meth.name = y.name →
      gW g A s.heap (gs g) s.heap [] → lv_has ls n (lv_args 0 (av g)) → W p l e (headSpec (.code y b n r :: lwG) rm).room s m (av g).toArray below meth c s.heap [] 0 0 (MQ below (Qq g A) (av g).toArray s rm.cells rm.slots A) (F0 m 0 ls [])) : gM l y b n r rm av gs Qq := by
  intro g sz
  refine Met.ofW (cc := b) (maxL := n) (ret := r) hy rfl ?_
  intro p e s m args below meth c s₁ B hml hv
  obtain ⟨rfl, hsz, hP, hK, hD, hN, hT⟩ := hv
  subst hsz
  have hl := lv_entry (av g) (n := n) (hn g)
  rw [lg_entry_eq]
  generalize (lg_sl (av g) ++ List.replicate (n - (lg_sl (av g)).length) Slot.unset).toArray = ls at hl ⊢
  have hts : ∀ w ∈ (Cond.code y b n r :: lwG), w.before (av g).toArray s = true := atoms_spec B.pre
  refine body g p e s m below meth c (gA (gs g) s.heap.size) ls ⟨⟨B.exec, B.bytes, hml, findClass_of_methodNamed B.named, fun w h => hts w (List.mem_cons_of_mem _ h)⟩, B.notSynchronized, hK, hN, hT⟩ B.returns (name_of_methodNamed B.named B.method).1 ⟨hP, hD.self, va_S.rf, fun q h => Or.inr h⟩ hl
section G1
variable {p : Program} {l : Launch} {e : Env} {R : Room} {s : State} {m : MethodId} {args : Array Value} {below : List Frame} {meth : Method} {c : Code} {H : Heap} {locs : List Loc} {cells slots : Nat} {Q : State → Prop}
variable {cc : ByteArray} {pc : Nat} {ls : Array Slot} {rest : List Value} {own : String} {nL : Nat} {g : gG} {A : Nat → Prop} {H0 : Heap} {gs : List va_W}
theorem gK1 (X : gC p s m meth c args own cc nL g A) : ∀ w ∈ lwG, w.before args s = true := X.1.2.2.2.2
/-- getfield -/
theorem g_get (X : gC p s m meth c args own cc nL g A) (hw : gW g A H0 gs H locs) (i k0 : Nat) {wi : va_W} (hi : gs[i]? = some wi) {a ci : Nat} {fs : List Value} (he : wi[k0]? = some (a, .inr (ci, fs))) {C : String} {T : u_T} {N : Nat} (hc : vwCl[ci]? = some (C, T, N)) (hin : ∀ w ∈ u_ws C T N, w ∈ lwG)
    (k : Nat) (hk : k < N) {index : Nat} (hl : Cond.fieldLink own index (T k).1 (T k).2.1 (T k).2.2.1 ∈ lwG) {v : Value} (hv : fs[k]? = some v) (hd : decode cc pc = .ok (.getfield index, 3))
    (kk : W p l e R s m args below meth c H locs cells slots Q (F0 m (pc + 3) ls (v :: rest))) : W p l e R s m args below meth c H locs cells slots Q (F0 m pc ls (.ref a :: rest)) :=
  va_get X.1.1 X.1.2.1 (gK1 X) hin X.1.2.2.2.1 X.2.2.1 (hw.1 i wi hi) k0 he hc k hk (gK1 X _ hl) (fun _ h => h) hv hd kk
theorem g_getN (X : gC p s m meth c args own cc nL g A) (hw : gW g A H0 gs H locs) (i k0 : Nat) {wi : va_W} (hi : gs[i]? = some wi) {a ci : Nat} {fs : List Value} (he : wi[k0]? = some (a, .inr (ci, fs))) {C : String} {T : u_T} {N : Nat} (hc : vwCl[ci]? = some (C, T, N)) (hin : ∀ w ∈ u_ws C T N, w ∈ lwG)
    (k : Nat) (hk : k < N) {index : Nat} {host : String} (hl : Cond.fieldLinkNest own index (T k).1 (T k).2.1 (T k).2.2.1 host ∈ lwN) {v : Value} (hv : fs[k]? = some v) (hd : decode cc pc = .ok (.getfield index, 3))
    (kk : W p l e R s m args below meth c H locs cells slots Q (F0 m (pc + 3) ls (v :: rest))) : W p l e R s m args below meth c H locs cells slots Q (F0 m pc ls (.ref a :: rest)) :=
  va_getN X.1.1 X.1.2.1 (gK1 X) hin X.1.2.2.2.1 X.2.2.1 (hw.1 i wi hi) k0 he hc k hk (va_Nw.use rfl (X.2.2.2.1.1 _ hl)) (fun _ h => h) hv hd kk
theorem gW.back {H1 : Heap} {locs1 : List Loc} (hw : gW g A H0 gs H locs) {i k0 : Nat} {wi : va_W} (hi : gs[i]? = some wi) {x c1 : Nat × va_E} (he : wi[k0]? = some x) {gs' : List va_W} (hg : gs.set i (wi.set k0 c1) = gs') (hP : va_P g.1 vwCl (gs.flatten.set (goff gs i + k0) c1) H1) (hD : va_D A (gs.flatten.set (goff gs i + k0) c1)) (hS : va_S A H0 H1 locs1) : gW g A H0 gs' H1 locs1 := by
  rw [flat_set gs i wi k0 c1 hi (List.getElem?_eq_some_iff.mp he).1, hg] at hP hD
  exact ⟨gP.of hP, gD.of hD, hS, hw.2.2.2⟩
/-- putfield -/
theorem g_put (X : gC p s m meth c args own cc nL g A) (hw : gW g A H0 gs H locs) (i k0 : Nat) {wi : va_W} (hi : gs[i]? = some wi) {a ci : Nat} {fs : List Value} (he : wi[k0]? = some (a, .inr (ci, fs))) {C : String} {T : u_T} {N : Nat} (hc : vwCl[ci]? = some (C, T, N)) (hin : ∀ w ∈ u_ws C T N, w ∈ lwG) (ty0 : Nat → FieldType) (hty : ∀ k, k < N → parseFieldDescriptor (T k).2.2.1 = some (ty0 k)) (hnm : ∀ a, a < N → ∀ b, b < N → a ≠ b → (T a).2.1 ≠ (T b).2.1)
    (k : Nat) (hk : k < N) {index : Nat} (hl : Cond.fieldLink own index (T k).1 (T k).2.1 (T k).2.2.1 ∈ lwG) (hfin : (T k).2.2.2 = false) {ty : FieldType} {v : Value} (hdt : parseFieldDescriptor (T k).2.2.1 = some ty) (hn : narrow ty v = v) (hfit : fits ty v = true) (hlen : k < fs.length) (hd : decode cc pc = .ok (.putfield index, 3))
    {gs' : List va_W} (hg : gs.set i (wi.set k0 (a, .inr (ci, fs.set k v))) = gs') (kk : ∀ (H1 : Heap) (locs1 : List Loc), gW g A H0 gs' H1 locs1 → W p l e R s m args below meth c H1 locs1 cells slots Q (F0 m (pc + 3) ls rest)) : W p l e R s m args below meth c H locs cells slots Q (F0 m pc ls (v :: .ref a :: rest)) :=
  va_put X.1.1 X.1.2.1 (gK1 X) hin ty0 hty hnm X.1.2.2.2.1 X.2.2.1 hw.1.flat hw.2.1.flat hw.2.2.1 (goff gs i + k0) (flat_at gs i wi k0 _ hi he) hc k hk (gK1 X _ hl) (fun _ h => h) hfin hdt hn hfit hlen hd (fun H1 locs1 hP hD hS => kk H1 locs1 (hw.back hi he hg hP hD hS))
theorem g_putN (X : gC p s m meth c args own cc nL g A) (hw : gW g A H0 gs H locs) (i k0 : Nat) {wi : va_W} (hi : gs[i]? = some wi) {a ci : Nat} {fs : List Value} (he : wi[k0]? = some (a, .inr (ci, fs))) {C : String} {T : u_T} {N : Nat} (hc : vwCl[ci]? = some (C, T, N)) (hin : ∀ w ∈ u_ws C T N, w ∈ lwG) (ty0 : Nat → FieldType) (hty : ∀ k, k < N → parseFieldDescriptor (T k).2.2.1 = some (ty0 k)) (hnm : ∀ a, a < N → ∀ b, b < N → a ≠ b → (T a).2.1 ≠ (T b).2.1)
    (k : Nat) (hk : k < N) {index : Nat} {host : String} (hl : Cond.fieldLinkNest own index (T k).1 (T k).2.1 (T k).2.2.1 host ∈ lwN) (hfin : (T k).2.2.2 = false) {ty : FieldType} {v : Value} (hdt : parseFieldDescriptor (T k).2.2.1 = some ty) (hn : narrow ty v = v) (hfit : fits ty v = true) (hlen : k < fs.length) (hd : decode cc pc = .ok (.putfield index, 3))
    {gs' : List va_W} (hg : gs.set i (wi.set k0 (a, .inr (ci, fs.set k v))) = gs') (kk : ∀ (H1 : Heap) (locs1 : List Loc), gW g A H0 gs' H1 locs1 → W p l e R s m args below meth c H1 locs1 cells slots Q (F0 m (pc + 3) ls rest)) : W p l e R s m args below meth c H locs cells slots Q (F0 m pc ls (v :: .ref a :: rest)) :=
  va_putN X.1.1 X.1.2.1 (gK1 X) hin ty0 hty hnm X.1.2.2.2.1 X.2.2.1 hw.1.flat hw.2.1.flat hw.2.2.1 (goff gs i + k0) (flat_at gs i wi k0 _ hi he) hc k hk (va_Nw.use rfl (X.2.2.2.1.1 _ hl)) (fun _ h => h) hfin hdt hn hfit hlen hd (fun H1 locs1 hP hD hS => kk H1 locs1 (hw.back hi he hg hP hD hS))
/-- arrays -/
theorem g_iald (X : gC p s m meth c args own cc nL g A) (hw : gW g A H0 gs H locs) (i k0 : Nat) {wi : va_W} (hi : gs[i]? = some wi) {a n : Nat} {f : Nat → Int32} (he : wi[k0]? = some (a, .inl (g.2.1, n, .inl f))) {j : Int32} (hin : vp_in j n) (hd : decode cc pc = .ok (.iaload, 1))
    (kk : W p l e R s m args below meth c H locs cells slots Q (F0 m (pc + 1) ls (.int (f j.toNatClampNeg) :: rest))) : W p l e R s m args below meth c H locs cells slots Q (F0 m pc ls (.int j :: .ref a :: rest)) :=
  va_iald X.1.1 X.1.2.1 X.2.2.1 (hw.1 i wi hi) k0 0 he rfl hin hd kk
theorem g_lald (X : gC p s m meth c args own cc nL g A) (hw : gW g A H0 gs H locs) (i k0 : Nat) {wi : va_W} (hi : gs[i]? = some wi) {a n : Nat} {f : Nat → Int64} (he : wi[k0]? = some (a, .inl (g.2.2.1, n, .inr (.inl f)))) {j : Int32} (hin : vp_in j n) (hd : decode cc pc = .ok (.laload, 1))
    (kk : W p l e R s m args below meth c H locs cells slots Q (F0 m (pc + 1) ls (.long (f j.toNatClampNeg) :: rest))) : W p l e R s m args below meth c H locs cells slots Q (F0 m pc ls (.int j :: .ref a :: rest)) :=
  va_lald X.1.1 X.1.2.1 X.2.2.1 (hw.1 i wi hi) k0 1 he rfl hin hd kk
theorem g_iast (X : gC p s m meth c args own cc nL g A) (hw : gW g A H0 gs H locs) (i k0 : Nat) {wi : va_W} (hi : gs[i]? = some wi) {a n : Nat} {f : Nat → Int32} (he : wi[k0]? = some (a, .inl (g.2.1, n, .inl f))) {j x : Int32} (hin : vp_in j n) (hd : decode cc pc = .ok (.iastore, 1))
    {gs' : List va_W} (hg : gs.set i (wi.set k0 (a, .inl (g.2.1, n, .inl (upd f j.toNatClampNeg x)))) = gs') (kk : ∀ (H1 : Heap) (locs1 : List Loc), gW g A H0 gs' H1 locs1 → W p l e R s m args below meth c H1 locs1 cells slots Q (F0 m (pc + 1) ls rest)) : W p l e R s m args below meth c H locs cells slots Q (F0 m pc ls (.int x :: .int j :: .ref a :: rest)) :=
  va_iast X.1.1 X.1.2.1 X.2.2.1 hw.1.flat hw.2.1.flat hw.2.2.1 (goff gs i + k0) 0 (flat_at gs i wi k0 _ hi he) rfl hin hd (fun H1 locs1 hP hD hS => kk H1 locs1 (hw.back hi he hg hP hD hS))
theorem g_last (X : gC p s m meth c args own cc nL g A) (hw : gW g A H0 gs H locs) (i k0 : Nat) {wi : va_W} (hi : gs[i]? = some wi) {a n : Nat} {f : Nat → Int64} (he : wi[k0]? = some (a, .inl (g.2.2.1, n, .inr (.inl f)))) {j : Int32} {x : Int64} (hin : vp_in j n) (hd : decode cc pc = .ok (.lastore, 1))
    {gs' : List va_W} (hg : gs.set i (wi.set k0 (a, .inl (g.2.2.1, n, .inr (.inl (vp_updL f j.toNatClampNeg x))))) = gs') (kk : ∀ (H1 : Heap) (locs1 : List Loc), gW g A H0 gs' H1 locs1 → W p l e R s m args below meth c H1 locs1 cells slots Q (F0 m (pc + 1) ls rest)) : W p l e R s m args below meth c H locs cells slots Q (F0 m pc ls (.long x :: .int j :: .ref a :: rest)) :=
  va_last X.1.1 X.1.2.1 X.2.2.1 hw.1.flat hw.2.1.flat hw.2.2.1 (goff gs i + k0) 1 (flat_at gs i wi k0 _ hi he) rfl hin hd (fun H1 locs1 hP hD hS => kk H1 locs1 (hw.back hi he hg hP hD hS))
theorem g_alen (X : gC p s m meth c args own cc nL g A) (hw : gW g A H0 gs H locs) (i k0 : Nat) {wi : va_W} (hi : gs[i]? = some wi) {a n : Nat} {f : Nat → Int32} (he : wi[k0]? = some (a, .inl (g.2.1, n, .inl f))) (hd : decode cc pc = .ok (.arraylength, 1))
    (kk : W p l e R s m args below meth c H locs cells slots Q (F0 m (pc + 1) ls (.int (nI n) :: rest))) : W p l e R s m args below meth c H locs cells slots Q (F0 m pc ls (.ref a :: rest)) :=
  va_alen X.1.1 X.1.2.1 X.2.2.1 (hw.1 i wi hi) k0 0 he rfl rfl hd kk
theorem g_aald (X : gC p s m meth c args own cc nL g A) (hw : gW g A H0 gs H locs) (i k0 t0 : Nat) {wi : va_W} (hi : gs[i]? = some wi) {a n : Nat} {cA : ClassId} {ty : FieldType} {f : Nat → Option Nat} (he : wi[k0]? = some (a, .inl (cA, n, .inr (.inr (.inr (.inr f)))))) (ht : (gty g)[t0]? = some (cA, .array ty)) {j : Int32} (hin : vp_in j n) (hd : decode cc pc = .ok (.aaload, 1)) {b : Nat} (hf : f j.toNatClampNeg = some b)
    (kk : W p l e R s m args below meth c H locs cells slots Q (F0 m (pc + 1) ls (.ref b :: rest))) : W p l e R s m args below meth c H locs cells slots Q (F0 m pc ls (.int j :: .ref a :: rest)) := by
  have hlt : j.toNatClampNeg < n := Nat.not_le.mp fun q => hin (Or.inr q)
  refine W.aald (v := va_rf (f j.toNatClampNeg)) (ty := .array ty) X.1.1 X.1.2.1 (hw.1 i wi hi k0 _ he) ((X.2.2.1.2 t0 _ ht).1 n (fun j => va_rf (f j))) rfl (fun q => by cases q) (by show ¬ (j < 0 ∨ (arrV _ _ _).slots.size ≤ _); rw [arrV_size]; exact hin) (by show (arrV _ _ _).slots[_]? = _; rw [arrV_read _ _ hlt]) rfl rfl hd ?_
  rw [hf]
  exact kk
end G1
