/-! worlds as lists of groups; contracts over them -/
theorem g_good {y : MethodName} {b : ByteArray} {n : Nat} {r : Option FieldType} (h : Cond.code y b n r ∈ lwG) : GoodIn lwG (Cond.code y b n r :: lwG) := fun w hw => by
  have hm : w ∈ lwG := by
    rcases List.mem_cons.mp hw with h1 | h2
    · rw [h1]; exact h
    · exact h2
  exact ⟨hm, good_of_word (List.all_eq_true.mp lw_good w hm)⟩
abbrev gG : Type := va_G × ClassId × ClassId × ClassId × ClassId × (Nat → Nat) × (Nat → Nat)
abbrev gty (g : gG) : List (ClassId × FieldType) := [(g.2.1, .int), (g.2.2.1, .long), (g.2.2.2.1, .array .int), (g.2.2.2.2.1, .array .long)]
abbrev gK (g : gG) : Nat → Nat := g.2.2.2.2.2.1
abbrev gV (g : gG) : Nat → Nat := g.2.2.2.2.2.2
def gP (g : gG) (gs : List va_W) (H : Heap) : Prop := ∀ (i : Nat) (w : va_W), gs[i]? = some w → va_P g.1 vwCl w H
def gD (A : Nat → Prop) (gs : List va_W) : Prop := (∀ (i : Nat) (w : va_W), gs[i]? = some w → va_D A w) ∧ ∀ (i j : Nat) (w v : va_W), gs[i]? = some w → gs[j]? = some v → i ≠ j → ∀ (k l : Nat) (p q : Nat × va_E), w[k]? = some p → v[l]? = some q → p.1 ≠ q.1
def gA (gs : List va_W) (sz : Nat) : Nat → Prop := fun q => (∃ (i : Nat) (w : va_W) (k : Nat) (e : va_E), gs[i]? = some w ∧ w[k]? = some (q, e)) ∨ sz ≤ q
def gN (U : State) : Prop := (∀ w ∈ lwN, va_Nw w U) ∧ va_AOA .int U ∧ va_AOA .long U
theorem gN.warm {s U : State} (hW : s.WarmedH U.vm) (h : gN s) : gN U := by
  refine ⟨fun w hw => ?_, h.2.1.moved hW.alike, h.2.2.moved hW.alike⟩
  have h1 := h.1 w hw
  have h2 := (List.mem_filter.mp hw).2
  cases w <;> first | exact va_Nw.warmF hW h1 | exact va_Nw.warmM hW h1 | cases h2
theorem gN.same {s U : State} (hv : s.vm = U.vm) (h : gN s) : gN U := by
  have ha : s.vm.Alike U.vm := by rw [hv]; exact Vm.Alike.refl _
  refine ⟨fun w hw => ?_, h.2.1.moved ha, h.2.2.moved ha⟩
  have h1 := h.1 w hw
  have h2 := (List.mem_filter.mp hw).2
  cases w <;> first | (cases h2; done) | exact va_Nw.same rfl hv h1
/-- the words of the tape: bar, on, stuck, table, minutes, move -/
def kLen : List Nat := [3, 2, 5, 5, 7, 4]
def kByt : List (List Int32) := [[98, 97, 114], [111, 110], [115, 116, 117, 99, 107], [116, 97, 98, 108, 101], [109, 105, 110, 117, 116, 101, 115], [109, 111, 118, 101]]
def gR12 (ad : Nat → Nat) (U : State) : Prop :=
  (vk_R "RingsOff$Tape" 38 "bar" (ad 0) U ∧ vk_R "RingsOff$Tape" 81 "on" (ad 1) U ∧ vk_R "RingsOff$Tape" 48 "stuck" (ad 2) U ∧ vk_R "RingsOff$Tape" 53 "table" (ad 3) U ∧ vk_R "RingsOff$Tape" 58 "minutes" (ad 4) U ∧ vk_R "RingsOff$Tape" 63 "move" (ad 5) U) ∧
  (vk_R "RingsOffModel" 218 "bar" (ad 0) U ∧ vk_R "RingsOffModel" 205 "on" (ad 1) U ∧ vk_R "RingsOffModel" 223 "stuck" (ad 2) U ∧ vk_R "RingsOffModel" 224 "table" (ad 3) U ∧ vk_R "RingsOffModel" 229 "minutes" (ad 4) U ∧ vk_R "RingsOffModel" 230 "move" (ad 5) U)
theorem gR12.warm {ad : Nat → Nat} {s U : State} (hW : s.WarmedH U.vm) (h : gR12 ad s) : gR12 ad U := by
  obtain ⟨⟨a1, a2, a3, a4, a5, a6⟩, b1, b2, b3, b4, b5, b6⟩ := h
  exact ⟨⟨a1.warm hW, a2.warm hW, a3.warm hW, a4.warm hW, a5.warm hW, a6.warm hW⟩, b1.warm hW, b2.warm hW, b3.warm hW, b4.warm hW, b5.warm hW, b6.warm hW⟩
theorem gR12.same {ad : Nat → Nat} {u U : State} (hv : U.vm = u.vm) (h : gR12 ad u) : gR12 ad U := by
  obtain ⟨⟨a1, a2, a3, a4, a5, a6⟩, b1, b2, b3, b4, b5, b6⟩ := h
  exact ⟨⟨a1.same hv, a2.same hv, a3.same hv, a4.same hv, a5.same hv, a6.same hv⟩, b1.same hv, b2.same hv, b3.same hv, b4.same hv, b5.same hv, b6.same hv⟩
/-- what is there from the start: the words of the tape, two statics of the JDK -/
def gT (g : gG) (A : Nat → Prop) (U : State) (H : Heap) : Prop := vk_S 6 kLen kByt (gK g) (gV g) A U H ∧ va_Z "java/lang/String" "COMPACT_STRINGS" "Z" (.int 1) A U H ∧ va_Zq "jdk/internal/util/Preconditions" "SIOOBE_FORMATTER" "Ljava/util/function/BiFunction;" A U H ∧ gR12 (gK g) U
theorem gT.kept {g : gG} {A : Nat → Prop} {U : State} {H H1 : Heap} (h : gT g A U H) (hq : ∀ a : Nat, a < H.size → ¬ A a → H1[a]? = H[a]?) : gT g A U H1 := by
  obtain ⟨h1, h2, h3, h4⟩ := h
  refine ⟨h1.kept hq, h2.kept hq, ?_, h4⟩
  rcases h3 with h3 | ⟨t, h3⟩
  · exact Or.inl (h3.kept hq)
  · exact Or.inr ⟨t, h3.kept hq⟩
theorem gT.narrow {g : gG} {A B : Nat → Prop} {U : State} {H : Heap} (h : gT g A U H) (hAB : ∀ q, B q → A q) : gT g B U H := by
  obtain ⟨h1, h2, h3, h4⟩ := h
  refine ⟨h1.narrow hAB, h2.narrow hAB, ?_, h4⟩
  rcases h3 with h3 | ⟨t, h3⟩
  · exact Or.inl (h3.narrow hAB)
  · exact Or.inr ⟨t, h3.narrow hAB⟩
theorem gT.moved {g : gG} {A : Nat → Prop} {u U : State} {H : Heap} (hvm : u.vm.Alike U.vm) (hr : gR12 (gK g) U) (h : gT g A u H) : gT g A U H := by
  obtain ⟨h1, h2, h3, -⟩ := h
  refine ⟨h1.moved hvm, h2.moved hvm, ?_, hr⟩
  rcases h3 with h3 | ⟨t, h3⟩
  · exact Or.inl (h3.moved hvm)
  · exact Or.inr ⟨t, h3.moved hvm⟩
def gC (p : Program) (s : State) (m : MethodId) (meth : Method) (c : Code) (args : Array Value) (own : String) (cc : ByteArray) (nL : Nat) (g : gG) (A : Nat → Prop) : Prop := CallFix p m c cc nL s args lwG own ∧ meth.locks = false ∧ va_K g.1 vwCl (gty g) s ∧ gN s ∧ gT g A s s.heap
def gW (g : gG) (A : Nat → Prop) (H0 : Heap) (gs : List va_W) (H : Heap) (locs : List Loc) : Prop := gP g gs H ∧ gD A gs ∧ va_S A H0 H locs ∧ ∀ q, H0.size ≤ q → A q
def gputs : List va_W → List Nat → List va_W → List va_W
  | gs, [], xs => gs ++ xs
  | gs, _ :: _, [] => gs
  | gs, i :: is, x :: xs => gputs (gs.set i x) is xs
theorem gputs_spec : ∀ (isC : List Nat) (gn gs : List va_W), isC.length ≤ gn.length → (∀ i ∈ isC, i < gs.length) → ∀ (j : Nat) (w : va_W), (gputs gs isC gn)[j]? = some w →
    (j ∉ isC ∧ gs[j]? = some w) ∨ ∃ k, gn[k]? = some w ∧ (isC[k]? = some j ∨ (isC.length ≤ k ∧ j + isC.length = gs.length + k))
  | [], gn, gs, _, _, j, w, h => by
    have h' : (gs ++ gn)[j]? = some w := by rw [gputs] at h; exact h
    by_cases hl : j < gs.length
    · rw [List.getElem?_append_left hl] at h'
      exact Or.inl ⟨List.not_mem_nil, h'⟩
    · rw [List.getElem?_append_right (by omega)] at h'
      exact Or.inr ⟨j - gs.length, h', Or.inr ⟨Nat.zero_le _, by simp; omega⟩⟩
  | _ :: _, [], _, hl, _, _, _, _ => absurd hl (by simp)
  | i :: is, x :: xs, gs, hl, hb, j, w, h => by
    have h' : (gputs (gs.set i x) is xs)[j]? = some w := by rw [gputs] at h; exact h
    have hi : i < gs.length := hb i List.mem_cons_self
    rcases gputs_spec is xs (gs.set i x) (by simpa using hl) (fun q hq => by rw [List.length_set]; exact hb q (List.mem_cons_of_mem _ hq)) j w h' with ⟨h1, h2⟩ | ⟨k, h1, h2⟩
    · by_cases hj : j = i
      · subst hj
        rw [List.getElem?_set_self hi] at h2
        exact Or.inr ⟨0, by simpa using h2, Or.inl rfl⟩
      · rw [List.getElem?_set_ne (Ne.symm hj)] at h2
        exact Or.inl ⟨fun q => by rcases List.mem_cons.mp q with q | q; exact hj q; exact h1 q, h2⟩
    · rcases h2 with h2 | ⟨h2, h3⟩
      · exact Or.inr ⟨k + 1, by simpa using h1, Or.inl (by simpa using h2)⟩
      · refine Or.inr ⟨k + 1, by simpa using h1, Or.inr ⟨by simpa using h2, ?_⟩⟩
        rw [List.length_set] at h3
        simp only [List.length_cons]
        omega
theorem g_pick {gs gc : List va_W} {isC : List Nat} (hC : isC.map (fun i => gs[i]?) = gc.map some) {k : Nat} {w : va_W} (h : gc[k]? = some w) : ∃ i, isC[k]? = some i ∧ gs[i]? = some w := by
  have h1 : (isC.map (fun i => gs[i]?))[k]? = some (some w) := by rw [hC, List.getElem?_map, h]; rfl
  rw [List.getElem?_map] at h1
  cases hi : isC[k]? with
  | none => rw [hi] at h1; cases h1
  | some i => rw [hi] at h1; exact ⟨i, rfl, Option.some.inj h1⟩
theorem g_inC {gs gc : List va_W} {isC : List Nat} (hC : isC.map (fun i => gs[i]?) = gc.map some) {i : Nat} (hi : i ∈ isC) : ∃ (k : Nat) (w : va_W), isC[k]? = some i ∧ gc[k]? = some w ∧ gs[i]? = some w := by
  obtain ⟨k, hk⟩ := List.getElem?_of_mem hi
  have h1 : (gc.map some)[k]? = some (gs[i]?) := by rw [← hC, List.getElem?_map, hk]; rfl
  rw [List.getElem?_map] at h1
  cases hw : gc[k]? with
  | none => rw [hw] at h1; cases h1
  | some w => rw [hw] at h1; exact ⟨k, w, hk, hw, (Option.some.inj h1).symm⟩
theorem gP.pick {g : gG} {gs gc : List va_W} {H : Heap} (h : gP g gs H) {isC : List Nat} (hC : isC.map (fun i => gs[i]?) = gc.map some) : gP g gc H := fun k w hk => by
  obtain ⟨i, -, h2⟩ := g_pick hC hk
  exact h i w h2
theorem gD.pick {A : Nat → Prop} {gs gc : List va_W} (h : gD A gs) {isC : List Nat} (hC : isC.map (fun i => gs[i]?) = gc.map some) (hn : va_nd isC = true) : gD A gc := by
  refine ⟨fun k w hk => ?_, fun i j w v hi hj hij => ?_⟩
  · obtain ⟨i, -, h2⟩ := g_pick hC hk
    exact h.1 i w h2
  · obtain ⟨a, h1, h2⟩ := g_pick hC hi
    obtain ⟨b, h3, h4⟩ := g_pick hC hj
    exact h.2 a b w v h2 h4 (fun e => hij (va_nd_inj isC hn i j a h1 (by rw [e]; exact h3)))
theorem gD.weaken {A B : Nat → Prop} {gs : List va_W} (h : gD A gs) (hAB : ∀ q, A q → B q) : gD B gs := ⟨fun i w hi => (h.1 i w hi).weaken (fun _ _ _ => hAB _), h.2⟩
theorem gD.self {A : Nat → Prop} {gs : List va_W} {sz : Nat} (h : gD A gs) : gD (gA gs sz) gs := ⟨fun i w hi => (h.1 i w hi).weaken (fun k q hk _ => Or.inl ⟨i, w, k, q.2, hi, hk⟩), h.2⟩
theorem g_sub {g : gG} {A : Nat → Prop} {H0 H : Heap} {gs gc : List va_W} {locs : List Loc} (hw : gW g A H0 gs H locs) {isC : List Nat} (hC : isC.map (fun i => gs[i]?) = gc.map some) : ∀ q, gA gc H.size q → A q := by
  intro q h
  rcases h with ⟨k, w, l, e, h1, h2⟩ | h
  · obtain ⟨i, -, h4⟩ := g_pick hC h1
    exact (hw.2.1.1 i w h4).2 l (q, e) h2
  · exact hw.2.2.2 q (Nat.le_trans hw.2.2.1.1 h)
theorem g_join {g : gG} {A : Nat → Prop} {H0 H H1 : Heap} {gs gc gn : List va_W} {locs : List Loc} (hw : gW g A H0 gs H locs) {isC : List Nat} (hC : isC.map (fun i => gs[i]?) = gc.map some) (hn : va_nd isC = true)
    (hl : isC.length ≤ gn.length) (hk : ∀ q : Nat, q < H.size → ¬ gA gc H.size q → H1[q]? = H[q]?) (hP1 : gP g gn H1) (hD1 : gD (gA gc H.size) gn) : gP g (gputs gs isC gn) H1 ∧ gD A (gputs gs isC gn) := by
  have hb : ∀ i ∈ isC, i < gs.length := fun i hi => by
    obtain ⟨k, w, -, -, h3⟩ := g_inC hC hi
    exact (List.getElem?_eq_some_iff.mp h3).1
  have key := gputs_spec isC gn gs hl hb
  have apart : ∀ (j : Nat) (w : va_W), j ∉ isC → gs[j]? = some w → ∀ (k : Nat) (q : Nat × va_E), w[k]? = some q → q.1 < H.size ∧ ¬ gA gc H.size q.1 := by
    intro j w hj hw1 k q hq
    have hlt := (hw.1 j w hw1 k q hq).lt
    refine ⟨hlt, fun h => ?_⟩
    rcases h with ⟨k2, w2, l2, e2, h1, h2⟩ | h
    · obtain ⟨i, h3, h4⟩ := g_pick hC h1
      exact hw.2.1.2 j i w w2 hw1 h4 (fun e => hj (by rw [e]; exact List.mem_of_getElem? h3)) k l2 q (q.1, e2) hq h2 rfl
    · omega
  refine ⟨fun j w hj => ?_, fun j w hj => ?_, fun i j w v hi hj hij k l x y hx hy => ?_⟩
  · rcases key j w hj with ⟨h1, h2⟩ | ⟨k, h1, -⟩
    · exact fun k q hq => (hw.1 j w h2 k q hq).kept (hk q.1 (apart j w h1 h2 k q hq).1 (apart j w h1 h2 k q hq).2)
    · exact hP1 k w h1
  · rcases key j w hj with ⟨h1, h2⟩ | ⟨k, h1, -⟩
    · exact hw.2.1.1 j w h2
    · exact (hD1.1 k w h1).weaken (fun _ _ _ h => g_sub hw hC _ h)
  · rcases key i w hi with ⟨a1, a2⟩ | ⟨a, a1, a2⟩ <;> rcases key j v hj with ⟨b1, b2⟩ | ⟨b, b1, b2⟩
    · exact hw.2.1.2 i j w v a2 b2 hij k l x y hx hy
    · intro e
      exact (apart i w a1 a2 k x hx).2 (by rw [e]; exact (hD1.1 b v b1).2 l y hy)
    · intro e
      exact (apart j v b1 b2 l y hy).2 (by rw [← e]; exact (hD1.1 a w a1).2 k x hx)
    · refine hD1.2 a b w v a1 b1 (fun e => hij ?_) k l x y hx hy
      subst e
      rcases a2 with a2 | ⟨a2, a3⟩ <;> rcases b2 with b2 | ⟨b2, b3⟩
      · exact Option.some.inj (a2.symm.trans b2)
      · have := (List.getElem?_eq_some_iff.mp a2).1
        omega
      · have := (List.getElem?_eq_some_iff.mp b2).1
        omega
      · omega
def goff : List va_W → Nat → Nat
  | [], _ => 0
  | _ :: _, 0 => 0
  | w :: gs, i + 1 => w.length + goff gs i
theorem flat_at : ∀ (gs : List va_W) (i : Nat) (w : va_W) (l : Nat) (q : Nat × va_E), gs[i]? = some w → w[l]? = some q → gs.flatten[goff gs i + l]? = some q
  | [], i, w, l, q, h, _ => by simp at h
  | v :: gs, 0, w, l, q, h, hl => by
    have hv : v = w := by simpa using h
    subst hv
    have hlt := (List.getElem?_eq_some_iff.mp hl).1
    show (v ++ gs.flatten)[0 + l]? = some q
    rw [Nat.zero_add, List.getElem?_append_left hlt]
    exact hl
  | v :: gs, i + 1, w, l, q, h, hl => by
    have h' : gs[i]? = some w := by simpa using h
    show (v ++ gs.flatten)[v.length + goff gs i + l]? = some q
    rw [List.getElem?_append_right (by omega)]
    have e : v.length + goff gs i + l - v.length = goff gs i + l := by omega
    rw [e]
    exact flat_at gs i w l q h' hl
theorem flat_of : ∀ (gs : List va_W) (k : Nat) (q : Nat × va_E), gs.flatten[k]? = some q → ∃ (i : Nat) (w : va_W) (l : Nat), gs[i]? = some w ∧ w[l]? = some q ∧ k = goff gs i + l
  | [], k, q, h => by simp at h
  | v :: gs, k, q, h => by
    have h' : (v ++ gs.flatten)[k]? = some q := h
    by_cases hk : k < v.length
    · rw [List.getElem?_append_left hk] at h'
      exact ⟨0, v, k, rfl, h', by simp [goff]⟩
    · rw [List.getElem?_append_right (by omega)] at h'
      obtain ⟨i, w, l, h1, h2, h3⟩ := flat_of gs (k - v.length) q h'
      exact ⟨i + 1, w, l, by simpa using h1, h2, by show k = v.length + goff gs i + l; omega⟩
theorem flat_set : ∀ (gs : List va_W) (i : Nat) (w : va_W) (l : Nat) (c : Nat × va_E), gs[i]? = some w → l < w.length → gs.flatten.set (goff gs i + l) c = (gs.set i (w.set l c)).flatten
  | [], i, w, l, c, h, _ => by simp at h
  | v :: gs, 0, w, l, c, h, hl => by
    have hv : v = w := by simpa using h
    subst hv
    show (v ++ gs.flatten).set (0 + l) c = v.set l c ++ gs.flatten
    rw [Nat.zero_add, List.set_append_left _ _ hl]
  | v :: gs, i + 1, w, l, c, h, hl => by
    have h' : gs[i]? = some w := by simpa using h
    show (v ++ gs.flatten).set (v.length + goff gs i + l) c = v ++ (gs.set i (w.set l c)).flatten
    rw [List.set_append_right _ _ (by omega)]
    have e : v.length + goff gs i + l - v.length = goff gs i + l := by omega
    rw [e, flat_set gs i w l c h' hl]
theorem goff_lt : ∀ (gs : List va_W) (i j : Nat) (w : va_W), i < j → gs[i]? = some w → j < gs.length → goff gs i + w.length ≤ goff gs j
  | [], i, j, w, _, h, _ => by simp at h
  | v :: gs, 0, 0, w, h, _, _ => absurd h (by omega)
  | v :: gs, 0, j + 1, w, _, h, _ => by
    have hv : v = w := by simpa using h
    subst hv
    show 0 + v.length ≤ v.length + goff gs j
    omega
  | v :: gs, i + 1, 0, w, h, _, _ => absurd h (by omega)
  | v :: gs, i + 1, j + 1, w, h, h1, h2 => by
    have h3 : gs[i]? = some w := by simpa using h1
    have := goff_lt gs i j w (by omega) h3 (by simpa using h2)
    show v.length + goff gs i + w.length ≤ v.length + goff gs j
    omega
theorem gP.flat {g : gG} {gs : List va_W} {H : Heap} (h : gP g gs H) : va_P g.1 vwCl gs.flatten H := fun k q hk => by
  obtain ⟨i, w, l, h1, h2, -⟩ := flat_of gs k q hk
  exact h i w h1 l q h2
theorem gP.of {g : gG} {gs : List va_W} {H : Heap} (h : va_P g.1 vwCl gs.flatten H) : gP g gs H := fun i w hi l q hl => h _ q (flat_at gs i w l q hi hl)
theorem gD.flat {A : Nat → Prop} {gs : List va_W} (h : gD A gs) : va_D A gs.flatten := by
  refine ⟨fun a b p q ha hb hpq => ?_, fun k q hk => ?_⟩
  · obtain ⟨i, w, k, h1, h2, h3⟩ := flat_of gs a p ha
    obtain ⟨j, v, l, h4, h5, h6⟩ := flat_of gs b q hb
    by_cases hij : i = j
    · subst hij
      have hwv : w = v := Option.some.inj (h1.symm.trans h4)
      subst hwv
      have := (h.1 i w h1).1 k l p q h2 h5 hpq
      omega
    · exact absurd hpq (h.2 i j w v h1 h4 hij k l p q h2 h5)
  · obtain ⟨i, w, l, h1, h2, -⟩ := flat_of gs k q hk
    exact (h.1 i w h1).2 l q h2
theorem gD.of {A : Nat → Prop} {gs : List va_W} (h : va_D A gs.flatten) : gD A gs := by
  refine ⟨fun i w hi => ⟨fun k l p q hk hl hpq => ?_, fun k q hk => h.2 _ q (flat_at gs i w k q hi hk)⟩, fun i j w v hi hj hij k l p q hk hl hpq => ?_⟩
  · have := h.1 _ _ p q (flat_at gs i w k p hi hk) (flat_at gs i w l q hi hl) hpq
    omega
  · have e := h.1 _ _ p q (flat_at gs i w k p hi hk) (flat_at gs j v l q hj hl) hpq
    have l1 := (List.getElem?_eq_some_iff.mp hk).1
    have l2 := (List.getElem?_eq_some_iff.mp hl).1
    rcases Nat.lt_or_ge i j with hlt | hge
    · have := goff_lt gs i j w hlt hi (List.getElem?_eq_some_iff.mp hj).1
      omega
    · have := goff_lt gs j i v (by omega) hj (List.getElem?_eq_some_iff.mp hi).1
      omega
