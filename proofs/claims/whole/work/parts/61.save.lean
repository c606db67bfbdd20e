/-! save, lock -/
def tz (g : Nat) : Nat := fa_first (fun i => g.testBit i) 10
theorem gr_ch : ∀ s, s < 1024 → ∀ m, m < 10 → ch s m = true → (gx 10 (s ^^^ 2 ^ m) + 1 = gx 10 s ∧ m = tz (gx 10 s)) ∨ gx 10 (s ^^^ 2 ^ m) = gx 10 s + 1 := by decide +kernel
theorem gr_tz : ∀ s, s < 1024 → s ≠ 0 → tz (gx 10 s) < 10 ∧ ch s (tz (gx 10 s)) = true ∧ gx 10 (s ^^^ 2 ^ tz (gx 10 s)) + 1 = gx 10 s ∧ 2 ^ tz (gx 10 s) ≤ gx 10 s := by decide +kernel
theorem gr_l : ∀ z, z < 11 → (nI (2 ^ z - 1)).toInt64 = lN (2 ^ z - 1) := by decide +kernel
theorem gr_i : ∀ g, g < 1024 → (lN g).toInt32 = nI g := by decide +kernel
theorem gr_ntz : ∀ g, g < 1024 → g ≠ 0 → tz g < 10 ∧ M_J6_numberOfTrailingZeros_0f7a4 NN (nI g) = some (nI (tz g)) := by decide +kernel
def cq (k z : Nat) : PL := (k, z, 0, fun _ => 0, fun _ => 0)
theorem cq_ok {k z : Nat} (hk : k ≤ 5) (h1 : 1 ≤ z) (hz : z ≤ 10) : OkQ (cq k z) := ⟨hk, h1, hz, Nat.two_pow_pos z⟩
theorem cq_lgl {z s m : Nat} : lgl (cq 1 z) s m = true ↔ m < z ∧ m ≠ 20 ∧ ch s m = true := by
  unfold lgl cq
  by_cases e : m = 20
  · rw [if_pos e]
    unfold bo
    simp [e]
  · rw [if_neg e]
    unfold bk
    simp [e, Nat.zero_testBit]
theorem cq_wk {z : Nat} (hz : z ≤ 10) : ∀ d v, v < 2 ^ z → gx 10 v = d → Wk (rev (lgl (cq 1 z))) d 0 v := by
  have hp : 2 ^ z ≤ 1024 := p10 hz
  intro d
  induction d with
  | zero =>
    intro v hv hg
    by_cases e : v = 0
    · exact e.symm
    · have := (gr_tz v (by omega) e).2.2.1
      omega
  | succ d ih =>
    intro v hv hg
    have e : v ≠ 0 := by
      intro e
      subst e
      rw [gx_z] at hg
      omega
    obtain ⟨t1, t2, t3, t4⟩ := gr_tz v (by omega) e
    have hlt : tz (gx 10 v) < z := by
      have : gx 10 v < 2 ^ z := gx_lt hv
      exact (Nat.pow_lt_pow_iff_right (by omega)).mp (Nat.lt_of_le_of_lt t4 this)
    generalize tz (gx 10 v) = m at t1 t2 t3 t4 hlt
    have em : mk m = 2 ^ m := mk_r (by omega)
    refine ⟨v ^^^ mk m, m, ih _ ?_ ?_, by omega, ?_, (xor_xor _ _).symm⟩
    · rw [em]
      exact Nat.xor_lt_two_pow hv (Nat.pow_lt_pow_right (by omega) hlt)
    · rw [em]
      omega
    · show lgl (cq 1 z) ((v ^^^ mk m) ^^^ mk m) m = true
      rw [xor_xor]
      exact cq_lgl.mpr ⟨hlt, by omega, t2⟩
theorem cq_kw {z : Nat} (hz : z ≤ 10) : ∀ d v, Wk (rev (lgl (cq 1 z))) d 0 v → v < 2 ^ z ∧ gx 10 v ≤ d := by
  have hp : 2 ^ z ≤ 1024 := p10 hz
  intro d
  induction d with
  | zero =>
    intro v hv
    have hv : 0 = v := hv
    subst hv
    exact ⟨Nat.two_pow_pos z, Nat.le_of_eq (gx_z 10)⟩
  | succ d ih =>
    intro v hv
    obtain ⟨w, m, h1, h2, h3, h4⟩ := hv
    obtain ⟨k1, k2⟩ := ih w h1
    have h3 : lgl (cq 1 z) (w ^^^ mk m) m = true := h3
    rw [← h4] at h3
    obtain ⟨g1, g2, g3⟩ := cq_lgl.mp h3
    have em : mk m = 2 ^ m := mk_r (by omega)
    have ew : w = v ^^^ 2 ^ m := by rw [h4, em, Nat.xor_assoc, Nat.xor_self, Nat.xor_zero]
    have hv : v < 2 ^ z := by
      rw [h4, em]
      exact Nat.xor_lt_two_pow k1 (Nat.pow_lt_pow_right (by omega) g1)
    refine ⟨hv, ?_⟩
    rcases gr_ch v (by omega) m (by omega) g3 with ⟨e, -⟩ | e
    · rw [← ew] at e
      omega
    · rw [← ew] at e
      omega
theorem cq_far {z : Nat} (h1 : 1 ≤ z) (hz : z ≤ 10) {v : Nat} (hv : v < 2 ^ z) : (sp1 (rev (lgl (cq 1 z))) 0).1 v = gx 10 v + 1 := by
  have hp : 2 ^ z ≤ 1024 := p10 hz
  obtain ⟨c, bj⟩ := sp1_BJ (lgl_rok (q := cq 1 z) hz) hp (Nat.two_pow_pos z)
  obtain ⟨u1, u2⟩ := Wk_far bj _ v (cq_wk hz _ v hv rfl)
  have u3 := (cq_kw hz _ v (far_Wk bj ((sp1 (rev (lgl (cq 1 z))) 0).1 v - 1) v (by omega))).2
  omega
theorem cq_nm {z : Nat} (hz1 : 1 ≤ z) (hz : z ≤ 10) {v : Nat} (hv : v < 2 ^ z) (h0 : gx 10 v ≠ 0) : nm (cq 1 z) (sp1 (rev (lgl (cq 1 z))) 0) v = tz (gx 10 v) := by
  have hp : 2 ^ z ≤ 1024 := p10 hz
  obtain ⟨c, bj⟩ := sp1_BJ (lgl_rok (q := cq 1 z) hz) hp (Nat.two_pow_pos z)
  have e := cq_far hz1 hz hv
  obtain ⟨k1, k2, k3, -⟩ := nm_ok bj (u := v) (by omega)
  generalize nm (cq 1 z) (sp1 (rev (lgl (cq 1 z))) 0) v = m at *
  obtain ⟨g1, g2, g3⟩ := cq_lgl.mp k2
  have em : mk m = 2 ^ m := mk_r (by omega)
  have hw : v ^^^ mk m < 2 ^ z := by
    rw [em]
    exact Nat.xor_lt_two_pow hv (Nat.pow_lt_pow_right (by omega) g1)
  rw [cq_far hz1 hz hw, e, em] at k3
  rcases gr_ch v (by omega) m (by omega) g3 with ⟨-, e2⟩ | e2
  · exact e2
  · omega
def sv (a : AE) (P : Nat) : Nat → Int32
  | 0 => 0
  | k + 1 => sv a P k + aU a (tz (P - k))
theorem cq_tt {a : AE} {z : Nat} (hz1 : 1 ≤ z) (hz : z ≤ 10) {v : Nat} (hv : v < 2 ^ z) : ∀ k, k ≤ gx 10 v → tt a (cq 1 z) (sp1 (rev (lgl (cq 1 z))) 0) v k = sv a (gx 10 v) k := by
  have hp : 2 ^ z ≤ 1024 := p10 hz
  obtain ⟨c, bj⟩ := sp1_BJ (lgl_rok (q := cq 1 z) hz) hp (Nat.two_pow_pos z)
  intro k
  induction k with
  | zero => exact fun _ => rfl
  | succ k ih =>
    intro hk
    obtain ⟨w1, w2⟩ := wk_ok (q := cq 1 z) hz bj hv k (by rw [cq_far hz1 hz hv]; omega)
    have w2' : wk (cq 1 z) (sp1 (rev (lgl (cq 1 z))) 0) v k < 2 ^ z := w2
    rw [cq_far hz1 hz hv, cq_far hz1 hz w2'] at w1
    show tt a (cq 1 z) (sp1 (rev (lgl (cq 1 z))) 0) v k + mi a (nm (cq 1 z) (sp1 (rev (lgl (cq 1 z))) 0) (wk (cq 1 z) (sp1 (rev (lgl (cq 1 z))) 0) v k)) = sv a (gx 10 v) k + aU a (tz (gx 10 v - k))
    rw [ih (by omega), cq_nm hz1 hz w2' (by omega), show gx 10 (wk (cq 1 z) (sp1 (rev (lgl (cq 1 z))) 0) v k) = gx 10 v - k by omega]
    have ht := (gr_ntz (gx 10 v - k) (by have : gx 10 v < 2 ^ 10 := gx_lt (by omega); omega) (by omega)).1
    unfold mi
    rw [if_neg (by omega)]
theorem R_lone {rm rt : RM} {a : AE} {k z : Nat} (h : RmA rm a) (ok : OkA a) (hk : k ≤ 5) (h1 : 1 ≤ z) (hz : z ≤ 10) : ∃ r, M_X6_lone_s NN rm rt (nI k) (nI z) = some r ∧ RmA r (aB (0, a.2) k z) ∧ OkA (aB (0, a.2) k z) ∧ aL (aB (0, a.2) k z) 0 = cq k z ∧ aZ (aB (0, a.2) k z) 0 = z ∧ aU (aB (0, a.2) k z) = aU a := by
  obtain ⟨r1, t1, t2, -⟩ := R_take (rm := rt) h
  have hl := t2.less (n := 0)
  have ol : OkA (0, a.2) := ok.less (Nat.zero_le _)
  obtain ⟨r2, s1, s2, -⟩ := R_addBar (k := k) hl (show 0 < 4 by decide) hz
  refine ⟨r2, ?_, s2, aB_ok ol (show 0 < 4 by decide) hk h1 hz, rfl, rfl, rfl⟩
  unfold M_X6_lone_s M_X6_lone_s_j18
  rw [t1, Option.bind_some]
  have s1' : M_X6_addBar NN (RM_s_bars r1 0) (nI k) (nI z) = some r2 := s1
  rw [s1', Option.bind_some]
theorem R_loneFew {rm rt : RM} {a : AE} {k z : Nat} (h : RmA rm a) (ok : OkA a) (hk : k ≤ 5) (h1 : 1 ≤ z) (hz : z ≤ 10) : ∃ r r', M_X6_lone_s NN rm rt (nI k) (nI z) = some r ∧ M_X6_fewestTo NN r 0 (nI (2 ^ z - 1)) 0 = some (fI ((sp1 (rev (lgl (cq k z))) 0).1 (2 ^ z - 1)), r') := by
  obtain ⟨r, e1, e2, e3, e4, e5, -⟩ := R_lone (rt := rt) h ok hk h1 hz
  have hp := Nat.two_pow_pos z
  obtain ⟨r', -, f⟩ := R_fewest (b := 0) e2 e3 (show 0 < 1 by decide) (u := 2 ^ z - 1) (v := 0) (by rw [e5]; omega) (by rw [e5]; omega)
  rw [e4] at f
  exact ⟨r, r', e1, f⟩
theorem R_loneTime {rm rt : RM} {a : AE} {z : Nat} (h : RmA rm a) (ok : OkA a) (h1 : 1 ≤ z) (hz : z ≤ 10) : ∃ r r', M_X6_lone_s NN rm rt 1 (nI z) = some r ∧ M_X6_timeTo NN r 0 (nI (2 ^ z - 1)) 0 = some (sv a (gx 10 (2 ^ z - 1)) (gx 10 (2 ^ z - 1)), r') := by
  obtain ⟨r, e1, e2, e3, e4, e5, e6⟩ := R_lone (rt := rt) (k := 1) h ok (by omega) h1 hz
  have hp := Nat.two_pow_pos z
  obtain ⟨r', -, f⟩ := R_timeTo (b := 0) e2 e3 (show 0 < 1 by decide) (u := 2 ^ z - 1) (v := 0) (by rw [e5]; omega) (by rw [e5]; omega)
  rw [e4, cq_far h1 hz (by omega), if_neg (Nat.succ_ne_zero _), Nat.add_sub_cancel, cq_tt h1 hz (by omega) _ (Nat.le_refl _)] at f
  refine ⟨r, r', e1, f.trans ?_⟩
  have : ∀ P k, sv (aB (0, a.2) 1 z) P k = sv a P k := by
    intro P k
    induction k with
    | zero => rfl
    | succ k ih =>
      show sv (aB (0, a.2) 1 z) P k + aU (aB (0, a.2) 1 z) (tz (P - k)) = sv a P k + aU a (tz (P - k))
      rw [ih, e6]
  rw [this]
theorem gr_all {z : Nat} (hz : z ≤ 10) : (1 : Int32) <<< (nI z &&& 31) - 1 = nI (2 ^ z - 1) := by
  rw [sh_1 (by omega), nI_s1 Nat.one_le_two_pow]
theorem gr_64 {v : Nat} (h : v < 1024) : gx 64 v = gx 10 v := gx_end (by rw [Nat.shiftRight_eq_div_pow]; exact Nat.div_eq_of_lt h) (by omega)
theorem C_save {ro : RO} {lw : LW} {se : SE} {z : Nat} (h1 : 1 ≤ z) (hz : z ≤ 10) : ∃ lw' se', M_X5_save NN ro lw se (nI z) = some (nI (gx 10 (2 ^ z - 1)) - fI ((sp1 (rev (lgl (cq 2 z))) 0).1 (2 ^ z - 1)), ro, lw', se') := by
  have hp := Nat.two_pow_pos z
  have hp2 : 2 ^ z ≤ 1024 := p10 hz
  have hg : gx 10 (2 ^ z - 1) < 2 ^ 10 := gx_lt (by omega)
  obtain ⟨lw', t1, t2⟩ : ∃ lw', M_X1_takePlain NN lw 2 (nI z) = some lw' ∧ LwQ lw' (cq 2 z) := ⟨_, rfl, rfl, rfl, rfl, fun e => by cases e⟩
  have ok := cq_ok (k := 2) (by omega) h1 hz
  obtain ⟨se1, l1, l2⟩ := C_learn t2 ok se
  obtain ⟨se2, f1, f2, f3⟩ := C_forget (N := NN) (q := cq 2 z) hz l2
  obtain ⟨se3, s1, s2, -, -, s5⟩ := C_spread (q := cq 2 z) hz (σ := 2) (by omega) f2 f3 (BI_0 rfl fun _ _ => rfl) (fun _ => Nat.le_refl 0) (st := 0) hp rfl
  refine ⟨lw', se3, ?_⟩
  have es : sp1 (rev (lgl (cq 2 z))) 0 = bfs (opS (cq 2 z) 2) 1025 0 (ins 0 1 (fun _ => 0, fun _ => 0, 0)) := rfl
  have s5' : M_X2_spread NN se2 0 2 = some se3 := s5
  unfold M_X5_save
  rw [if_neg (by rw [q_lt_1 (by omega)]; omega), if_pos (by rw [q_le_10 (by omega)]; omega), t1, Option.bind_some, l1, Option.bind_some, f1, Option.bind_some, s5', Option.bind_some, gr_all hz, gr_l z (by omega), C_gray (by omega), Option.bind_some, C_far s1 hz s2 (by omega), Option.bind_some, if_pos (show 2 ^ z - 1 < 2 ^ (cq 2 z).2.1 from (by show 2 ^ z - 1 < 2 ^ z; omega)), gr_64 (by omega), gr_i _ hg, es]
theorem pS_save : S_save INV := by
  intro ro nw kp dr sh tp lw se rm K T hI p1
  obtain ⟨a, h1, h2, h3, h4, h5, h6, h7, h8⟩ := id hI
  have ej : M_X5_save_j11 NN p1 (ro, lw, se) = some (-2, xRf ro 0, lw, se) := by unfold M_X5_save_j11; rw [xRf_ok.1]; rfl
  by_cases hv : 1 ≤ p1.toInt ∧ p1.toInt ≤ 10
  · obtain ⟨z, hz, rfl⟩ := of_int (p := p1) (by omega)
    rw [nI_toInt hz] at hv
    have hz1 : 1 ≤ z := by omega
    have hz2 : z ≤ 10 := by omega
    have hp := Nat.two_pow_pos z
    obtain ⟨lw', se', c⟩ := C_save (ro := ro) (lw := lw) (se := se) hz1 hz2
    have key : ∀ rt, ∃ r22 r32 r40 r50, M_X6_lone_s NN rm rt 1 (nI z) = some r22 ∧ M_X6_fewestTo NN r22 0 (nI (2 ^ z - 1)) 0 = some (nI (gx 10 (2 ^ z - 1)), r32) ∧ M_X6_lone_s NN rm r32 2 (nI z) = some r40 ∧ M_X6_fewestTo NN r40 0 (nI (2 ^ z - 1)) 0 = some (fI ((sp1 (rev (lgl (cq 2 z))) 0).1 (2 ^ z - 1)), r50) := by
      intro rt
      obtain ⟨r22, r32, e1, e2⟩ := R_loneFew (rt := rt) (k := 1) h2 h3 (by omega) hz1 hz2
      obtain ⟨r40, r50, e3, e4⟩ := R_loneFew (rt := r32) (k := 2) h2 h3 (by omega) hz1 hz2
      rw [cq_far hz1 hz2 (by omega), fI_s] at e2
      exact ⟨r22, r32, r40, r50, e1, e2, e3, e4⟩
    refine ⟨_, c, fun hT => ?_, fun rt hT => ?_⟩
    · obtain ⟨r22, r32, r40, r50, e1, e2, e3, e4⟩ := key RM0
      have e1' : M_X6_lone_n NN rm 1 (nI z) = some r22 := e1
      refine ⟨(nI (gx 10 (2 ^ z - 1)) - fI ((sp1 (rev (lgl (cq 2 z))) 0).1 (2 ^ z - 1)), rm, some r50), ?_, rfl, INV.any hI⟩
      unfold M_X6_save_n
      rw [R_k1 (by rw [nI_toInt hz]; exact hv.1) (by rw [nI_toInt hz]; exact hv.2), Option.bind_some, if_pos n10, e1', Option.bind_some, gr_all hz2, e2, Option.bind_some, e3, Option.bind_some, e4, Option.bind_some]
    · obtain ⟨r22, r32, r40, r50, e1, e2, e3, e4⟩ := key rt
      refine ⟨(nI (gx 10 (2 ^ z - 1)) - fI ((sp1 (rev (lgl (cq 2 z))) 0).1 (2 ^ z - 1)), rm, r50), ?_, rfl, INV.any hI⟩
      unfold M_X6_save_s
      rw [R_k1 (by rw [nI_toInt hz]; exact hv.1) (by rw [nI_toInt hz]; exact hv.2), Option.bind_some, if_pos n10, e1, Option.bind_some, gr_all hz2, e2, Option.bind_some, e3, Option.bind_some, e4, Option.bind_some]
  · refine ⟨(-2, xRf ro 0, lw, se), ?_, fun hT => ⟨(-2, mRf rm 0, none), ?_, rfl, hT ▸ hI.rf 0⟩, fun rt hT => ⟨(-2, mRf rm 0, rt), ?_, rfl, hI.rf 0⟩⟩
    · unfold M_X5_save
      rw [ej]
      by_cases l : p1 < 1
      · rw [if_pos l]
      · rw [if_neg l, if_neg]
        rw [lt_toInt, t_1] at l
        rw [le_toInt, show (10 : Int32).toInt = 10 from rfl]
        omega
    · unfold M_X6_save_n
      rw [R_k0 (l := 1) (z := 10) hv, Option.bind_some, if_neg n00, mRf_ok.1]
      rfl
    · unfold M_X6_save_s
      rw [R_k0 (l := 1) (z := 10) hv, Option.bind_some, if_neg n00, mRf_ok.1]
      rfl

/-! lock -/
def sw (a : AE) (z : Nat) : Int32 := sv a (gx 10 (2 ^ z - 1)) (gx 10 (2 ^ z - 1))
theorem C_chain {ev : EV} {a : AE} {z : Nat} (h : EvA ev a) (h1 : 1 ≤ z) (hz : z ≤ 10) : M_X0_minutesOfChain NN ev (nI z) = some (sw a z) := by
  have hp := Nat.two_pow_pos z
  have hp2 : 2 ^ z ≤ 1024 := p10 hz
  have hg : gx 10 (2 ^ z - 1) < 2 ^ 10 := gx_lt (by omega)
  unfold M_X0_minutesOfChain sw
  rw [gr_all hz, gr_l z (by omega), C_gray (by omega), Option.bind_some, gr_64 (by omega), gr_i _ hg]
  generalize gx 10 (2 ^ z - 1) = P at hg
  have hE : ∀ k, sv a P (k + 1) = sv a P k + aU a (tz (P - k)) := fun k => rfl
  have e0 : ((0, nI P) : Int32 × Int32) = (sv a P 0, nI (P - 0)) := rfl
  rw [e0]
  refine lp_for (fun i => (sv a P i, nI (P - i))) P (fun i hi rec => ?_) (fun rec => ?_) (by show P < 5000; omega)
  · show M_X0_minutesOfChain_l13 NN ev (nI z) rec (sv a P i, nI (P - i)) = rec (sv a P (i + 1), nI (P - (i + 1)))
    obtain ⟨t1, t2⟩ := gr_ntz (P - i) (by omega) (by omega)
    unfold M_X0_minutesOfChain_l13
    simp only []
    rw [if_neg (by rw [q_le_0 (by omega)]; omega), t2, Option.bind_some, E_min h t1, Option.bind_some, nI_m1 (by omega), hE, show P - (i + 1) = P - i - 1 by omega]
  · show M_X0_minutesOfChain_l13 NN ev (nI z) rec (sv a P P, nI (P - P)) = _
    unfold M_X0_minutesOfChain_l13
    simp only []
    rw [if_pos (by rw [q_le_0 (by omega)]; omega)]
theorem R_lockS {rm : RM} {a : AE} {p : Int32} (h : RmA rm a) (ok : OkA a) (W : Nat) (hW : W ≤ 11) (no : ∀ z, 1 ≤ z → z < W → sw a z < p) (yes : W = 11 ∨ ¬ sw a W < p) (s : Nat) (hs : 1 ≤ s) (hsW : s ≤ W) (rt : RM) : ∃ rt', lp (M_X6_lock_s_l21 NN p) NN (rm, rt, nI s) = some (if W = 11 then -1 else nI W, rm, rt') := by
  obtain ⟨o, ⟨rt', q1⟩, q2⟩ := lp_inv (body := M_X6_lock_s_l21 NN p) (N := NN) (P := fun k Z => ∃ rt, Z = (rm, rt, nI (s + k))) (Qr := fun o => ∃ rt, o = (if W = 11 then -1 else nI W, rm, rt)) (W - s)
    (fun k Z hk hP => by
      obtain ⟨rt, rfl⟩ := hP
      obtain ⟨r, r', e1, e2⟩ := R_loneTime (rt := rt) (z := s + k) h ok (by omega) (by omega)
      refine Or.inl ⟨(rm, r', nI (s + (k + 1))), ⟨r', rfl⟩, fun rec => ?_⟩
      unfold M_X6_lock_s_l21
      simp only []
      rw [if_neg (by rw [q_gt_10 (by omega)]; omega), e1, Option.bind_some, gr_all (by omega), e2, Option.bind_some]
      simp only []
      rw [if_pos (show sv a (gx 10 (2 ^ (s + k) - 1)) (gx 10 (2 ^ (s + k) - 1)) < p from no (s + k) (by omega) (by omega)), nI_1]
      rfl)
    (fun Z hP => by
      obtain ⟨rt, rfl⟩ := hP
      rw [show s + (W - s) = W by omega]
      by_cases l : W = 11
      · refine ⟨_, ⟨rt, rfl⟩, fun rec => ?_⟩
        unfold M_X6_lock_s_l21
        simp only []
        rw [if_pos (by rw [q_gt_10 (by omega)]; omega), if_pos l]
      · obtain ⟨r, r', e1, e2⟩ := R_loneTime (rt := rt) (z := W) h ok (by omega) (by omega)
        refine ⟨_, ⟨r', rfl⟩, fun rec => ?_⟩
        unfold M_X6_lock_s_l21
        simp only []
        rw [if_neg (by rw [q_gt_10 (by omega)]; omega), e1, Option.bind_some, gr_all (by omega), e2, Option.bind_some]
        simp only []
        rw [if_neg (show ¬ sv a (gx 10 (2 ^ W - 1)) (gx 10 (2 ^ W - 1)) < p from by rcases yes with y | y; exact absurd y l; exact y), if_neg l])
    (by show _ < 5000; omega) (z := (rm, rt, nI s)) ⟨rt, rfl⟩
  exact ⟨rt', by rw [q2, q1]⟩
theorem R_lockN {rm : RM} {a : AE} {p : Int32} (h : RmA rm a) (ok : OkA a) (W : Nat) (hW : W ≤ 11) (no : ∀ z, 1 ≤ z → z < W → sw a z < p) (yes : W = 11 ∨ ¬ sw a W < p) (s : Nat) (hs : 1 ≤ s) (hsW : s ≤ W) (rt : RM) : ∃ rt', lp (M_X6_lock_n_l100021 NN p) NN (rm, rt, nI s) = some (if W = 11 then -1 else nI W, rm, some rt') := by
  obtain ⟨o, ⟨rt', q1⟩, q2⟩ := lp_inv (body := M_X6_lock_n_l100021 NN p) (N := NN) (P := fun k Z => ∃ rt, Z = (rm, rt, nI (s + k))) (Qr := fun o => ∃ rt, o = (if W = 11 then -1 else nI W, rm, some rt)) (W - s)
    (fun k Z hk hP => by
      obtain ⟨rt, rfl⟩ := hP
      obtain ⟨r, r', e1, e2⟩ := R_loneTime (rt := rt) (z := s + k) h ok (by omega) (by omega)
      refine Or.inl ⟨(rm, r', nI (s + (k + 1))), ⟨r', rfl⟩, fun rec => ?_⟩
      unfold M_X6_lock_n_l100021
      simp only []
      rw [if_neg (by rw [q_gt_10 (by omega)]; omega), e1, Option.bind_some, gr_all (by omega), e2, Option.bind_some]
      simp only []
      rw [if_pos (show sv a (gx 10 (2 ^ (s + k) - 1)) (gx 10 (2 ^ (s + k) - 1)) < p from no (s + k) (by omega) (by omega)), nI_1]
      rfl)
    (fun Z hP => by
      obtain ⟨rt, rfl⟩ := hP
      rw [show s + (W - s) = W by omega]
      by_cases l : W = 11
      · refine ⟨_, ⟨rt, rfl⟩, fun rec => ?_⟩
        unfold M_X6_lock_n_l100021
        simp only []
        rw [if_pos (by rw [q_gt_10 (by omega)]; omega), if_pos l]
      · obtain ⟨r, r', e1, e2⟩ := R_loneTime (rt := rt) (z := W) h ok (by omega) (by omega)
        refine ⟨_, ⟨r', rfl⟩, fun rec => ?_⟩
        unfold M_X6_lock_n_l100021
        simp only []
        rw [if_neg (by rw [q_gt_10 (by omega)]; omega), e1, Option.bind_some, gr_all (by omega), e2, Option.bind_some]
        simp only []
        rw [if_neg (show ¬ sv a (gx 10 (2 ^ W - 1)) (gx 10 (2 ^ W - 1)) < p from by rcases yes with y | y; exact absurd y l; exact y), if_neg l])
    (by show _ < 5000; omega) (z := (rm, rt, nI s)) ⟨rt, rfl⟩
  exact ⟨rt', by rw [q2, q1]⟩
theorem C_lock {ro : RO} {ev : EV} {a : AE} {p : Int32} (h : EvA ev a) (W : Nat) (hW1 : 1 ≤ W) (hW : W ≤ 11) (no : ∀ z, 1 ≤ z → z < W → sw a z < p) (yes : W = 11 ∨ ¬ sw a W < p) : lp (M_X5_lock_l20 NN ev p) NN (ro, 1) = some (if W = 11 then -1 else nI W, ro) := by
  refine lp_for (fun i => (ro, nI (i + 1))) (W - 1) (fun i hi rec => ?_) (fun rec => ?_) (by show _ < 5000; omega)
  · show M_X5_lock_l20 NN ev p rec (ro, nI (i + 1)) = rec (ro, nI (i + 1 + 1))
    unfold M_X5_lock_l20
    simp only []
    rw [if_neg (by rw [q_gt_10 (by omega)]; omega), C_chain h (by omega) (by omega), Option.bind_some, if_pos (no (i + 1) (by omega) (by omega)), nI_1]
  · show M_X5_lock_l20 NN ev p rec (ro, nI (W - 1 + 1)) = _
    rw [show W - 1 + 1 = W by omega]
    unfold M_X5_lock_l20
    simp only []
    by_cases l : W = 11
    · rw [if_pos (by rw [q_gt_10 (by omega)]; omega), if_pos l]
    · rw [if_neg (by rw [q_gt_10 (by omega)]; omega), C_chain h (by omega) (by omega), Option.bind_some, if_neg (by rcases yes with y | y; exact absurd y l; exact y), if_neg l]
theorem pS_lock : S_lock INV := by
  intro ro nw kp dr sh tp lw se rm K T hI p1
  obtain ⟨a, h1, h2, h3, h4, h5, h6, h7, h8⟩ := id hI
  have ej : M_X5_lock_j11 NN nw p1 ro = some (-2, xRf ro 0) := by unfold M_X5_lock_j11; rw [xRf_ok.1]; rfl
  by_cases hv : 0 ≤ p1.toInt ∧ p1.toInt ≤ 99999
  · obtain ⟨W, w1, w2, no, yes⟩ : ∃ W, 1 ≤ W ∧ W ≤ 11 ∧ (∀ z, 1 ≤ z → z < W → sw a z < p1) ∧ (W = 11 ∨ ¬ sw a W < p1) := by
      have wle := fa_first_le (fun i => !decide (sw a (i + 1) < p1)) 10
      have wno := fa_first_no (fun i => !decide (sw a (i + 1) < p1)) 10
      have wyes := fa_first_yes (fun i => !decide (sw a (i + 1) < p1)) 10
      generalize fa_first (fun i => !decide (sw a (i + 1) < p1)) 10 = V at *
      refine ⟨V + 1, by omega, by omega, fun z hz1 hz2 => ?_, ?_⟩
      · have := wno (z - 1) (by omega)
        simp only [Bool.not_eq_false', decide_eq_true_eq] at this
        rwa [show z - 1 + 1 = z by omega] at this
      · by_cases l : V = 10
        · exact Or.inl (by omega)
        · have := wyes (by omega)
          simp only [Bool.not_eq_true', decide_eq_false_iff_not] at this
          exact Or.inr this
    refine ⟨(if W = 11 then -1 else nI W, ro), ?_, fun hT => ?_, fun rt hT => ?_⟩
    · unfold M_X5_lock
      rw [if_neg (by rw [lt_toInt, t_0]; omega), if_pos (by rw [le_toInt, show (99999 : Int32).toInt = 99999 from by decide +kernel]; omega), C_lock h1 W w1 w2 no yes]
    · obtain ⟨r, r', e1, e2⟩ := R_loneTime (rt := RM0) (z := 1) h2 h3 (by omega) (by omega)
      have e1' : M_X6_lone_n NN rm 1 1 = some r := e1
      have main : ∃ rt', M_X6_lock_n NN rm p1 = some (if W = 11 then -1 else nI W, rm, some rt') := by
        unfold M_X6_lock_n
        rw [R_k1 (l := 0) (z := 99999) hv.1 hv.2, Option.bind_some, if_pos n10, if_neg (show ¬ (10 : Int32) < 1 by decide), e1', Option.bind_some]
        have e2' : M_X6_timeTo NN r 0 ((1 : Int32) <<< ((1 : Int32) &&& 31) - 1) 0 = some (sw a 1, r') := e2
        rw [e2', Option.bind_some]
        by_cases l : sw a 1 < p1
        · have hW : 2 ≤ W := by
            rcases yes with y | y
            · omega
            · by_cases l2 : W = 1
              · rw [l2] at y
                exact absurd l y
              · omega
          obtain ⟨rt', g⟩ := R_lockN h2 h3 W w2 no yes 2 (by omega) hW r'
          exact ⟨rt', (if_pos l).trans g⟩
        · have hW : W = 1 := by
            by_cases l2 : W = 1
            · exact l2
            · exact absurd (no 1 (by omega) (by omega)) l
          refine ⟨r', (if_neg l).trans ?_⟩
          rw [hW]
          rfl
      obtain ⟨rt', g⟩ := main
      exact ⟨_, g, rfl, INV.any hI⟩
    · obtain ⟨rt', g⟩ := R_lockS h2 h3 W w2 no yes 1 (by omega) w1 rt
      refine ⟨(if W = 11 then -1 else nI W, rm, rt'), ?_, rfl, INV.any hI⟩
      unfold M_X6_lock_s
      rw [R_k1 (l := 0) (z := 99999) hv.1 hv.2, Option.bind_some, if_pos n10]
      exact g
  · refine ⟨(-2, xRf ro 0), ?_, fun hT => ⟨(-2, mRf rm 0, none), ?_, rfl, hT ▸ hI.rf 0⟩, fun rt hT => ⟨(-2, mRf rm 0, rt), ?_, rfl, hI.rf 0⟩⟩
    · unfold M_X5_lock
      rw [ej]
      by_cases l : p1 < 0
      · rw [if_pos l]
      · rw [if_neg l, if_neg]
        rw [lt_toInt, t_0] at l
        rw [le_toInt, show (99999 : Int32).toInt = 99999 from by decide +kernel]
        omega
    · unfold M_X6_lock_n
      rw [R_k0 (l := 0) (z := 99999) hv, Option.bind_some, if_neg n00, mRf_ok.1]
      rfl
    · unfold M_X6_lock_s
      rw [R_k0 (l := 0) (z := 99999) hv, Option.bind_some, if_neg n00, mRf_ok.1]
      rfl
