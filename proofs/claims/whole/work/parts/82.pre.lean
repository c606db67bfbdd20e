theorem p_kn {s : State} {b : Nat} (hG : ∀ w ∈ lwG, w.before #[Value.ref b] s = true) : ∃ (f : Nat → ClassId) (h : Nat → Nat → Nat), ∀ (c : Nat) (q : vw_C), vwCl[c]? = some q → u_Kn s q.1 q.2.1 q.2.2 (f c) (h c) := by
  obtain ⟨c0, h0, k0⟩ := u_known hG in_X0 (hG _ kz_X0)
  obtain ⟨c1, h1, k1⟩ := u_known hG in_X1 (hG _ kz_X1)
  obtain ⟨c2, h2, k2⟩ := u_known hG in_X2 (hG _ kz_X2)
  obtain ⟨c3, h3, k3⟩ := u_known hG in_X3 (hG _ kz_X3)
  obtain ⟨c4, h4, k4⟩ := u_known hG in_X4 (hG _ kz_X4)
  obtain ⟨c5, h5, k5⟩ := u_known hG in_X5 (hG _ kz_X5)
  obtain ⟨c6, h6, k6⟩ := u_known hG in_X6 (hG _ kz_X6)
  refine ⟨fun i => match i with | 0 => c0 | 1 => c1 | 2 => c2 | 3 => c3 | 4 => c4 | 5 => c5 | _ => c6, fun i => match i with | 0 => h0 | 1 => h1 | 2 => h2 | 3 => h3 | 4 => h4 | 5 => h5 | _ => h6, fun c q hq => ?_⟩
  match c, hq with
  | 0, hq => cases hq; exact k0
  | 1, hq => cases hq; exact k1
  | 2, hq => cases hq; exact k2
  | 3, hq => cases hq; exact k3
  | 4, hq => cases hq; exact k4
  | 5, hq => cases hq; exact k5
  | 6, hq => cases hq; exact k6
  | n + 7, hq => cases hq
theorem p_known {p : Program} {s : State} {m : MethodId} {meth : Method} {c : Code} {b : Nat} (hx : p.tables.exec = Jvm.exec) (hb : c.code = code) (hml : c.maxLocals = 4) (hown : s.vm.findClass RL = some m.cls) (hts : ∀ w ∈ lw_tbl, w.before #[Value.ref b] s = true) (hlk : meth.locks = false) (hg : (Jvm.Cond.and given_1 narrow_1).before #[Value.ref b] s = true) : ∃ g : gG, gC p s m meth c #[Value.ref b] RL cL_law 4 g (fun q : Nat => s.heap.size ≤ q) := by
  have hG : ∀ w ∈ lwG, w.before #[Value.ref b] s = true := fun w hw => hts w (lwG_in w hw)
  obtain ⟨f, o, hkn⟩ := p_kn hG
  obtain ⟨aI, i1, i2⟩ := p_arr (ty := .int) (fun _ h => by cases h) (hG _ ka_int)
  obtain ⟨aJ, j1, j2⟩ := p_arr (ty := .long) (fun _ h => by cases h) (hG _ ka_long)
  obtain ⟨bI, m1, m2⟩ := p_arr2 (hts _ p_oi)
  obtain ⟨bJ, n1, n2⟩ := p_arr2 (hts _ p_ol)
  have hA : ∀ a : Nat, a < s.heap.size → ¬ (fun q : Nat => s.heap.size ≤ q) a := fun a ha => Nat.not_le.mpr ha
  obtain ⟨adK, adV, hS, hev⟩ := vk_Sof (args := #[Value.ref b]) (s := s) (N := 6) (tm := pTm) (len := kLen) (byt := kByt) (A := fun q : Nat => s.heap.size ≤ q) (fun i hi => (p_ga hi).2.2.2.2.2) (fun i hi => p_w hg (p_ga hi).1) (fun i hi => p_w hg (p_ga hi).2.1) (fun i hi => p_w hg (p_ga hi).2.2.1) (fun i hi => p_w hg (p_ga hi).2.2.2.1)
    (fun i hi j hj => p_w hg (p_gb hi hj)) (fun i j hi hj hne => (p_gc hi hj hne).imp (p_w hg) (p_w hg)) hA
  have hev2 : ∀ i : Nat, i < 6 → (pTn i).eval #[Value.ref b] s none [] s = some (.ref (adK i)) := fun i hi => p_eqr (p_w hg (p_ga hi).2.2.2.2.1) (hev i hi)
  have hz : va_Z "java/lang/String" "COMPACT_STRINGS" "Z" (.int 1) (fun q : Nat => s.heap.size ≤ q) s s.heap := va_Zof (hts _ p_ls1) (hG _ kn_java_lang_String) (Cond.eq_int (flat_of_before _ hg _ p_nr1) rfl) hA
  have hq : va_Zq "jdk/internal/util/Preconditions" "SIOOBE_FORMATTER" "Ljava/util/function/BiFunction;" (fun q : Nat => s.heap.size ≤ q) s s.heap := va_Zqof (hts _ p_ls2) (hG _ kn_jdk_internal_util_Preconditions) (flat_of_before _ hg _ p_nr2) hA
  refine ⟨((f, o), aI, aJ, bI, bJ, adK, adV), ⟨hx, hb, hml, hown, hG⟩, hlk, ⟨hkn, fun k q hk => ?_⟩, ⟨fun w hw => ?_, hts _ p_oi, hts _ p_ol⟩, hS, hz, hq, ?_⟩
  · match k, hk with
    | 0, hk => cases hk; exact ⟨i1, i2⟩
    | 1, hk => cases hk; exact ⟨j1, j2⟩
    | 2, hk => cases hk; exact ⟨m1, m2⟩
    | 3, hk => cases hk; exact ⟨n1, n2⟩
    | n + 4, hk => cases hk
  · have h2 := (List.mem_filter.mp hw).2
    have h3 := hts w (List.mem_filter.mp hw).1
    cases w <;> first | (cases h2; done) | exact va_Nw.of rfl h3
  · have r : ∀ i, i < 6 → vk_R "RingsOff$Tape" ([38, 81, 48, 53, 58, 63].getD i 0) (["bar", "on", "stuck", "table", "minutes", "move"].getD i "") (adK i) s := fun i hi => vk_R.of (hts _ (p_srT i hi)) (hev i hi)
    have r2 : ∀ i, i < 6 → vk_R "RingsOffModel" ([218, 205, 223, 224, 229, 230].getD i 0) (["bar", "on", "stuck", "table", "minutes", "move"].getD i "") (adK i) s := fun i hi => vk_R.of (hts _ (p_srM i hi)) (hev2 i hi)
    exact ⟨⟨r 0 (by decide), r 1 (by decide), r 2 (by decide), r 3 (by decide), r 4 (by decide), r 5 (by decide)⟩, r2 0 (by decide), r2 1 (by decide), r2 2 (by decide), r2 3 (by decide), r2 4 (by decide), r2 5 (by decide)⟩
