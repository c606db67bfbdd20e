def jushr (x y : Int32) : Int32 := (x.toUInt32 >>> (y.toUInt32 &&& Int32.toUInt32 31)).toInt32
def jlushr (x : Int64) (y : Int32) : Int64 := (x.toUInt64 >>> (y.toInt64.toUInt64 &&& Int64.toUInt64 63)).toInt64
def jlshl (x : Int64) (y : Int32) : Int64 := x <<< (y.toInt64 &&& 63)
def jlshr (x : Int64) (y : Int32) : Int64 := x >>> (y.toInt64 &&& 63)
theorem ofI_m1 : Int32.ofInt (-1) = -1 := by decide +kernel
def jmax (x y : Int32) : Int32 := if x < y then y else x
def jmin (x y : Int32) : Int32 := if y < x then y else x
def fillf (n : Nat) (v : Int32) (f : Nat → Int32) : Nat → Int32 := fun j => if j < n then v else f j
theorem g_out {lo hi : Int} (x : Int32) (h : ∀ q : Int, lo ≤ q → q ≤ hi → ¬ x.toInt = q) : x.toInt < lo ∨ hi < x.toInt := by
  rcases Int.lt_or_le x.toInt lo with h1 | h1
  · exact Or.inl h1
  · rcases Int.lt_or_le hi x.toInt with h2 | h2
    · exact Or.inr h2
    · exact absurd rfl (h _ h1 h2)
section G9
variable {p : Program} {l : Launch} {e : Env} {R : Room} {s : State} {m : MethodId} {args : Array Value} {below : List Frame} {meth : Method} {c : Code} {H : Heap} {locs : List Loc} {cells slots : Nat} {Q : State → Prop}
variable {cc : ByteArray} {pc index : Nat} {ls : Array Slot} {rest : List Value} {own : String} {nL : Nat} {g : gG} {A : Nat → Prop} {H0 : Heap} {gs gs' : List va_W}
/-- System.arraycopy over ints, and over longs -/
theorem g_copyi (X : gC p s m meth c args own cc nL g A) (hw : gW g A H0 gs H locs) (i k0 j k1 : Nat) {wi wj : va_W} (hi : gs[i]? = some wi) (hj : gs[j]? = some wj) {a b n0 n1 : Nat} {f f1 : Nat → Int32} (he : wi[k0]? = some (a, .inl (g.2.1, n0, .inl f))) (he1 : wj[k1]? = some (b, .inl (g.2.1, n1, .inl f1))) {sp dp n : Int32}
    (hq : ¬ (sp < 0 ∨ dp < 0 ∨ n < 0 ∨ n0 < sp.toNatClampNeg + n.toNatClampNeg ∨ n1 < dp.toNatClampNeg + n.toNatClampNeg)) (hlk : Cond.methodLink own index arraycopyName ∈ lwG) (hls : ls.size = nL) (hf : 1 ≤ R.frames) (hlo : (rest.map fun v => v.category).sum + (nativeFrameWords "java/lang/System" "arraycopy" 5 + 11) ≤ R.locals) (hd : decode cc pc = .ok (.invokestatic index, 3))
    (hg : gs.set j (wj.set k1 (b, .inl (g.2.1, n1, .inl (va_cpy f f1 sp.toNatClampNeg dp.toNatClampNeg n.toNatClampNeg)))) = gs') (kk : ∀ (H1 : Heap) (locs1 : List Loc), gW g A H0 gs' H1 locs1 → W p l e R s m args below meth c H1 locs1 cells slots Q (F0 m (pc + 3) ls rest)) : W p l e R s m args below meth c H locs cells slots Q (F0 m pc ls (.int n :: .int dp :: .ref b :: .int sp :: .ref a :: rest)) := by
  refine va_copyi X.1.1 X.1.2.1 (X.1.2.2.1.trans hls.symm) X.1.2.2.2.1 (gK1 X _ hlk) (gK1 X _ kna_arraycopy) (gK1 X _ kst_arraycopy) (gK1 X _ kn_java_lang_System) X.2.2.1 hw.1.flat hw.2.1.flat hw.2.2.1 (goff gs i + k0) (goff gs j + k1) 0 0 (flat_at gs i wi k0 _ hi he) (flat_at gs j wj k1 _ hj he1) rfl rfl rfl (fun z => hq (Or.inl z)) (fun z => hq (Or.inr (Or.inl z))) (fun z => hq (Or.inr (Or.inr (Or.inl z)))) (Nat.not_lt.mp fun z => hq (Or.inr (Or.inr (Or.inr (Or.inl z))))) (Nat.not_lt.mp fun z => hq (Or.inr (Or.inr (Or.inr (Or.inr z))))) (fun _ _ => rfl) hf hlo hd (fun H1 locs1 hP hD hS => kk H1 locs1 (hw.back hj he1 hg hP hD hS))
theorem g_copyl (X : gC p s m meth c args own cc nL g A) (hw : gW g A H0 gs H locs) (i k0 j k1 : Nat) {wi wj : va_W} (hi : gs[i]? = some wi) (hj : gs[j]? = some wj) {a b n0 n1 : Nat} {f f1 : Nat → Int64} (he : wi[k0]? = some (a, .inl (g.2.2.1, n0, .inr (.inl f)))) (he1 : wj[k1]? = some (b, .inl (g.2.2.1, n1, .inr (.inl f1)))) {sp dp n : Int32}
    (hq : ¬ (sp < 0 ∨ dp < 0 ∨ n < 0 ∨ n0 < sp.toNatClampNeg + n.toNatClampNeg ∨ n1 < dp.toNatClampNeg + n.toNatClampNeg)) (hlk : Cond.methodLink own index arraycopyName ∈ lwG) (hls : ls.size = nL) (hf : 1 ≤ R.frames) (hlo : (rest.map fun v => v.category).sum + (nativeFrameWords "java/lang/System" "arraycopy" 5 + 11) ≤ R.locals) (hd : decode cc pc = .ok (.invokestatic index, 3))
    (hg : gs.set j (wj.set k1 (b, .inl (g.2.2.1, n1, .inr (.inl (va_cpy f f1 sp.toNatClampNeg dp.toNatClampNeg n.toNatClampNeg))))) = gs') (kk : ∀ (H1 : Heap) (locs1 : List Loc), gW g A H0 gs' H1 locs1 → W p l e R s m args below meth c H1 locs1 cells slots Q (F0 m (pc + 3) ls rest)) : W p l e R s m args below meth c H locs cells slots Q (F0 m pc ls (.int n :: .int dp :: .ref b :: .int sp :: .ref a :: rest)) := by
  refine va_copyl X.1.1 X.1.2.1 (X.1.2.2.1.trans hls.symm) X.1.2.2.2.1 (gK1 X _ hlk) (gK1 X _ kna_arraycopy) (gK1 X _ kst_arraycopy) (gK1 X _ kn_java_lang_System) X.2.2.1 hw.1.flat hw.2.1.flat hw.2.2.1 (goff gs i + k0) (goff gs j + k1) 1 1 (flat_at gs i wi k0 _ hi he) (flat_at gs j wj k1 _ hj he1) rfl rfl rfl (fun z => hq (Or.inl z)) (fun z => hq (Or.inr (Or.inl z))) (fun z => hq (Or.inr (Or.inr (Or.inl z)))) (Nat.not_lt.mp fun z => hq (Or.inr (Or.inr (Or.inr (Or.inl z))))) (Nat.not_lt.mp fun z => hq (Or.inr (Or.inr (Or.inr (Or.inr z))))) (fun _ _ => rfl) hf hlo hd (fun H1 locs1 hP hD hS => kk H1 locs1 (hw.back hj he1 hg hP hD hS))
end G9
theorem fillf_succ (n : Nat) (v : Int32) (f : Nat → Int32) : upd (fillf n v f) n v = fillf (n + 1) v f := by
  funext j
  by_cases h : j = n
  · subst h
    rw [pk_us, fillf, if_pos (Nat.lt_succ_self j)]
  · rw [pk_un h, fillf, fillf]
    by_cases h2 : j < n
    · rw [if_pos h2, if_pos (by omega)]
    · rw [if_neg h2, if_neg (by omega)]
theorem kM_J7_fill_53178 : kM yJ7_fill_53178 cJ7_fill_53178 4 none 2 := ⟨kc_J7_fill_53178, kn_java_util_Arrays, by decide +kernel⟩
abbrev R_J7_fill_53178 : Room := { frames := 0, cells := 0, slots := 0, locals := 0 }
set_option maxHeartbeats 4000000 in
set_option maxRecDepth 100000 in
theorem c_fill (l : Launch) {gs : gG → List va_W} {w : gG → va_W} (i k0 : Nat) {a n : Nat} {f : Nat → Int32} {v : Int32} (hi : ∀ g, (gs g)[i]? = some (w g)) (he : ∀ g, (w g)[k0]? = some (a, .inl (g.2.1, n, .inl f))) (hn : n < 2 ^ 31) :
    gM l yJ7_fill_53178 cJ7_fill_53178 4 none R_J7_fill_53178 (fun _ => [.ref a, .int v]) gs (gQv (fun g (_ : Unit) => (gs g).set i ((w g).set k0 (a, .inl (g.2.1, n, .inl (fillf n v f)))))) := by
  refine gM.ofv (by decide +kernel) (fun _ => Nat.le_of_ble_eq_true rfl) (fun g p e s m args below meth c A ls Q X hret hw hl => ?_)
  have hx := X.1.1
  have hb := X.1.2.1
  have hl : lv_has ls 4 [(0, .ref a), (1, .int v)] := hl
  have hli : i < (gs g).length := (List.getElem?_eq_some_iff.mp (hi g)).1
  have hlk : k0 < (w g).length := (List.getElem?_eq_some_iff.mp (he g)).1
  have L5 : ∀ (r q : Nat), q ≤ n → n ≤ q + r → ∀ (H : Heap) (locs : List Loc) (ls : Array Slot), gW g A s.heap ((gs g).set i ((w g).set k0 (a, .inl (g.2.1, n, .inl (fillf q v f))))) H locs → lv_has ls 4 [(3, .int (nI n)), (2, .int (nI q)), (0, .ref a), (1, .int v)] → W p l e R_J7_fill_53178 s m args below meth c H locs 0 0 Q (F0 m 5 ls []) := by
    intro r
    induction r with
    | zero =>
      intro q h1 h2 H locs ls hw hl
      have hq : q = n := by omega
      subst hq
      refine lv_iload_n hx hb dJ7_fill_53178_5 rfl (lv_at hl 1 rfl) ?_
      refine lv_iload_n hx hb dJ7_fill_53178_6 rfl (lv_at hl 0 rfl) ?_
      refine lv_icmp_ge (tgt := 20) hx hb dJ7_fill_53178_7 (by decide) (fun k7 => ?_) (fun k7 => absurd (nI_le (Nat.le_refl _) hn) k7)
      exact hret () dJ7_fill_53178_20 hw
    | succ r ih =>
      intro q h1 h2 H locs ls hw hl
      refine lv_iload_n hx hb dJ7_fill_53178_5 rfl (lv_at hl 1 rfl) ?_
      refine lv_iload_n hx hb dJ7_fill_53178_6 rfl (lv_at hl 0 rfl) ?_
      refine lv_icmp_ge (tgt := 20) hx hb dJ7_fill_53178_7 (by decide) (fun k7 => ?_) (fun k7 => ?_)
      · have hq : q = n := by
          rcases Nat.lt_or_ge q n with h | h
          · exact absurd k7 (nI_ge h hn)
          · omega
        subst hq
        exact hret () dJ7_fill_53178_20 hw
      · have hlt : q < n := by
          rcases Nat.lt_or_ge q n with h | h
          · exact h
          · exact absurd (nI_le h (by omega)) k7
        refine lv_aload_n hx hb dJ7_fill_53178_10 rfl (lv_at hl 2 rfl) ?_
        refine lv_iload_n hx hb dJ7_fill_53178_11 rfl (lv_at hl 1 rfl) ?_
        refine lv_iload_n hx hb dJ7_fill_53178_12 rfl (lv_at hl 3 rfl) ?_
        refine g_iast (gs' := (gs g).set i ((w g).set k0 (a, .inl (g.2.1, n, .inl (fillf (q + 1) v f))))) X hw i k0 (List.getElem?_set_self hli) (List.getElem?_set_self hlk) (nI_in hlt hn) dJ7_fill_53178_13 (by rw [List.set_set, List.set_set, nI_clamp (by omega), fillf_succ]) (fun H locs hw => ?_)
        refine lv_iinc (v := nI (q + 1)) (lv' := [(2, .int (nI (q + 1))), (3, .int (nI n)), (0, .ref a), (1, .int v)]) hx hb dJ7_fill_53178_14 hl (k := 1) rfl (nI_1 q) (by decide) rfl (fun ls hl => ?_)
        refine lv_goto (tgt := 5) hx hb dJ7_fill_53178_17 (by decide) ?_
        exact ih (q + 1) hlt (by omega) H locs ls hw (lv_sub hl [1, 0, 2, 3] rfl)
  refine lv_iconst (v := 0) hx hb dJ7_fill_53178_0 (by decide) ?_
  refine lv_istore_n (lv' := [(2, .int 0), (0, .ref a), (1, .int v)]) hx hb dJ7_fill_53178_1 rfl hl (by decide) rfl (fun ls hl => ?_)
  refine lv_aload_n hx hb dJ7_fill_53178_2 rfl (lv_at hl 1 rfl) ?_
  refine g_alen X hw i k0 (hi g) (he g) dJ7_fill_53178_3 ?_
  refine lv_istore_n (lv' := [(3, .int (nI n)), (2, .int 0), (0, .ref a), (1, .int v)]) hx hb dJ7_fill_53178_4 rfl hl (by decide) rfl (fun ls hl => ?_)
  refine L5 n 0 (Nat.zero_le _) (by omega) _ _ _ ?_ hl
  have e0 : (gs g).set i ((w g).set k0 (a, .inl (g.2.1, n, .inl (fillf 0 v f)))) = gs g := by
    have e1 : fillf 0 v f = f := by funext j; rw [fillf, if_neg (Nat.not_lt_zero j)]
    rw [e1]
    have e2 : (w g).set k0 (a, .inl (g.2.1, n, .inl f)) = w g := by
      apply List.ext_getElem?
      intro j
      by_cases h : j = k0
      · subst h; rw [List.getElem?_set_self hlk, he g]
      · rw [List.getElem?_set_ne (Ne.symm h)]
    rw [e2]
    apply List.ext_getElem?
    intro j
    by_cases h : j = i
    · subst h; rw [List.getElem?_set_self hli, hi g]
    · rw [List.getElem?_set_ne (Ne.symm h)]
  rw [e0]
  exact hw
/-- the same cells in other groups -/
theorem gW.regroup {g : gG} {A : Nat → Prop} {H0 H : Heap} {gs gs' : List va_W} {locs : List Loc} (hw : gW g A H0 gs H locs) (is : List Nat) (hn : va_nd is = true) (he : is.map (fun i => gs.flatten[i]?) = gs'.flatten.map some) : gW g A H0 gs' H locs := by
  refine ⟨gP.of (hw.1.flat.sub is ?_), gD.of (hw.2.1.flat.sub is hn he), hw.2.2⟩
  have h : ∀ (l : List Nat) (w : va_W), l.map (fun i => gs.flatten[i]?) = w.map some → l.filterMap (fun i => gs.flatten[i]?) = w := by
    intro l
    induction l with
    | nil => intro w h; cases w with
      | nil => rfl
      | cons x w => simp at h
    | cons i l ih =>
      intro w h
      cases w with
      | nil => simp at h
      | cons x w =>
        simp only [List.map_cons, List.cons.injEq] at h
        rw [List.filterMap_cons, h.1]
        simp only
        rw [ih w h.2]
  exact h is _ he
def ovf (n : Nat) (f k : Nat → Int32) : Nat → Int32 := fun j => if j < n then f j else k j
theorem ovf_succ (n : Nat) (f k : Nat → Int32) : upd (ovf n f k) n (f n) = ovf (n + 1) f k := by
  funext j
  by_cases h : j = n
  · subst h
    rw [pk_us, ovf, if_pos (Nat.lt_succ_self j)]
  · rw [pk_un h, ovf, ovf]
    by_cases h2 : j < n
    · rw [if_pos h2, if_pos (by omega)]
    · rw [if_neg h2, if_neg (by omega)]
theorem kM_X6_over : kM yX6_over cX6_over 3 none 2 := ⟨kc_X6_over, kn_RingsOffModel, by decide +kernel⟩
abbrev R_X6_over : Room := { frames := 0, cells := 0, slots := 0, locals := 0 }
set_option maxHeartbeats 4000000 in
set_option maxRecDepth 100000 in
theorem c_over (l : Launch) {gs : gG → List va_W} {w v : gG → va_W} (i k0 j k1 : Nat) {a b n : Nat} {f k : Nat → Int32} (hi : ∀ g, (gs g)[i]? = some (w g)) (he : ∀ g, (w g)[k0]? = some (a, .inl (g.2.1, n, .inl f))) (hj : ∀ g, (gs g)[j]? = some (v g)) (he1 : ∀ g, (v g)[k1]? = some (b, .inl (g.2.1, n, .inl k))) (hij : i ≠ j) (hn : n < 2 ^ 31) :
    gM l yX6_over cX6_over 3 none R_X6_over (fun _ => [.ref a, .ref b]) gs (gQv (fun g (_ : Unit) => (gs g).set j ((v g).set k1 (b, .inl (g.2.1, n, .inl (ovf n f k)))))) := by
  refine gM.ofv (by decide +kernel) (fun _ => Nat.le_of_ble_eq_true rfl) (fun g p e s m args below meth c A ls Q X hret hw hl => ?_)
  have hx := X.1.1
  have hb := X.1.2.1
  have hl : lv_has ls 3 [(0, .ref a), (1, .ref b)] := hl
  have hlj : j < (gs g).length := (List.getElem?_eq_some_iff.mp (hj g)).1
  have hlk : k1 < (v g).length := (List.getElem?_eq_some_iff.mp (he1 g)).1
  have L2 : ∀ (r q : Nat), q ≤ n → n ≤ q + r → ∀ (H : Heap) (locs : List Loc) (ls : Array Slot), gW g A s.heap ((gs g).set j ((v g).set k1 (b, .inl (g.2.1, n, .inl (ovf q f k))))) H locs → lv_has ls 3 [(2, .int (nI q)), (0, .ref a), (1, .ref b)] → W p l e R_X6_over s m args below meth c H locs 0 0 Q (F0 m 2 ls []) := by
    intro r
    induction r with
    | zero =>
      intro q h1 h2 H locs ls hw hl
      have hq : q = n := by omega
      subst hq
      refine lv_iload_n hx hb dX6_over_2 rfl (lv_at hl 0 rfl) ?_
      refine lv_aload_n hx hb dX6_over_3 rfl (lv_at hl 1 rfl) ?_
      refine g_alen X hw i k0 ((List.getElem?_set_ne (Ne.symm hij)).trans (hi g)) (he g) dX6_over_4 ?_
      refine lv_icmp_ge (tgt := 20) hx hb dX6_over_5 (by decide) (fun k7 => ?_) (fun k7 => absurd (nI_le (Nat.le_refl _) hn) k7)
      exact hret () dX6_over_20 hw
    | succ r ih =>
      intro q h1 h2 H locs ls hw hl
      refine lv_iload_n hx hb dX6_over_2 rfl (lv_at hl 0 rfl) ?_
      refine lv_aload_n hx hb dX6_over_3 rfl (lv_at hl 1 rfl) ?_
      refine g_alen X hw i k0 ((List.getElem?_set_ne (Ne.symm hij)).trans (hi g)) (he g) dX6_over_4 ?_
      refine lv_icmp_ge (tgt := 20) hx hb dX6_over_5 (by decide) (fun k7 => ?_) (fun k7 => ?_)
      · have hq : q = n := by
          rcases Nat.lt_or_ge q n with h | h
          · exact absurd k7 (nI_ge h hn)
          · omega
        subst hq
        exact hret () dX6_over_20 hw
      · have hlt : q < n := by
          rcases Nat.lt_or_ge q n with h | h
          · exact h
          · exact absurd (nI_le h (by omega)) k7
        refine lv_aload_n hx hb dX6_over_8 rfl (lv_at hl 2 rfl) ?_
        refine lv_iload_n hx hb dX6_over_9 rfl (lv_at hl 0 rfl) ?_
        refine lv_aload_n hx hb dX6_over_10 rfl (lv_at hl 1 rfl) ?_
        refine lv_iload_n hx hb dX6_over_11 rfl (lv_at hl 0 rfl) ?_
        refine g_iald X hw i k0 ((List.getElem?_set_ne (Ne.symm hij)).trans (hi g)) (he g) (nI_in hlt hn) dX6_over_12 ?_
        refine g_iast (gs' := (gs g).set j ((v g).set k1 (b, .inl (g.2.1, n, .inl (ovf (q + 1) f k))))) X hw j k1 (List.getElem?_set_self hlj) (List.getElem?_set_self hlk) (nI_in hlt hn) dX6_over_13 (by rw [List.set_set, List.set_set, nI_clamp (by omega), ovf_succ]) (fun H locs hw => ?_)
        refine lv_iinc (v := nI (q + 1)) (lv' := [(2, .int (nI (q + 1))), (0, .ref a), (1, .ref b)]) hx hb dX6_over_14 hl (k := 0) rfl (nI_1 q) (by decide) rfl (fun ls hl => ?_)
        refine lv_goto (tgt := 2) hx hb dX6_over_17 (by decide) ?_
        exact ih (q + 1) hlt (by omega) H locs ls hw hl
  refine lv_iconst (v := 0) hx hb dX6_over_0 (by decide) ?_
  refine lv_istore_n (lv' := [(2, .int 0), (0, .ref a), (1, .ref b)]) hx hb dX6_over_1 rfl hl (by decide) rfl (fun ls hl => ?_)
  refine L2 n 0 (Nat.zero_le _) (by omega) _ _ _ ?_ hl
  have e0 : (gs g).set j ((v g).set k1 (b, .inl (g.2.1, n, .inl (ovf 0 f k)))) = gs g := by
    have e1 : ovf 0 f k = k := by funext j; rw [ovf, if_neg (Nat.not_lt_zero j)]
    rw [e1]
    have e2 : (v g).set k1 (b, .inl (g.2.1, n, .inl k)) = v g := by
      apply List.ext_getElem?
      intro q
      by_cases h : q = k1
      · subst h; rw [List.getElem?_set_self hlk, he1 g]
      · rw [List.getElem?_set_ne (Ne.symm h)]
    rw [e2]
    apply List.ext_getElem?
    intro q
    by_cases h : q = j
    · subst h; rw [List.getElem?_set_self hlj, hj g]
    · rw [List.getElem?_set_ne (Ne.symm h)]
  rw [e0]
  exact hw
