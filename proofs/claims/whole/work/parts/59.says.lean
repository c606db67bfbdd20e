/-! says -/
def un (k w : Nat) : Bool := w == 0 || k == w || (w == 1 && (k == 2 || k == 4))
theorem un5 : ∀ k, k < 6 → ∀ w, w < 6 → M_X5_isUnder 0 (nI k) (nI w) = some (oB (un k w)) := by decide +kernel
theorem un6 : ∀ k, k < 6 → ∀ w, w < 6 → M_X6_isUnder 0 (nI k) (nI w) = some (oB (un k w)) := by decide +kernel
def tr (s : Nat) : Nat → Int32
  | 0 => -1
  | n + 1 => if s.testBit n = true then nI n else tr s n
theorem tr_top {s z : Nat} (hs : s < 2 ^ z) : ∀ j, tr s (z + j) = tr s z
  | 0 => rfl
  | j + 1 => by
    show (if s.testBit (z + j) = true then nI (z + j) else tr s (z + j)) = tr s z
    rw [Nat.testBit_lt_two_pow (Nat.lt_of_lt_of_le hs (Nat.pow_le_pow_right (by omega) (by omega))), if_neg (by decide), tr_top hs j]
theorem n_m1 (n : Nat) : nI (n + 1) + (-1) = nI n := pk_m1 n
theorem C_last {s : Nat} : ∀ (n M : Nat), n ≤ 10 → n < M → lp (M_X5_lastRing_l3 NN (nI s)) M (nI n + (-1)) = some (tr s n)
  | n, 0, _, h => absurd h (Nat.not_lt_zero n)
  | 0, M + 1, _, _ => by
    rw [lp]
    unfold M_X5_lastRing_l3
    rw [if_pos (by decide)]
    rfl
  | n + 1, M + 1, hn, hM => by
    have ih := C_last (s := s) n M (by omega) (by omega)
    rw [lp]
    generalize lp (M_X5_lastRing_l3 NN (nI s)) M = rec at ih ⊢
    unfold M_X5_lastRing_l3
    rw [n_m1, if_neg (nI_pos (by omega)), C_bit _ (by omega), Option.bind_some, bt_nI, decide_eq_true (show n < 32 by omega), Bool.true_and]
    show _ = some (if s.testBit n = true then nI n else tr s n)
    cases s.testBit n
    · rw [if_pos (by decide), if_neg (by decide)]; exact ih
    · rw [if_neg (by decide), if_pos rfl]
theorem R_last {rm : RM} {a : AE} {b : Nat} {p1 p2 : Int32} (h2 : RmA rm a) (h3 : OkA a) (hb : b < aN a) : ∀ (n M : Nat), n ≤ 10 → n < M → lp (M_X6_says_l255 NN p1 p2) M (rm, nI b, nI n + (-1)) = some (tr (aO a b) n, rm)
  | n, 0, _, h => absurd h (Nat.not_lt_zero n)
  | 0, M + 1, _, _ => by
    rw [lp]
    unfold M_X6_says_l255
    simp only []
    rw [if_pos (by decide)]
    rfl
  | n + 1, M + 1, hn, hM => by
    have ih := R_last (p1 := p1) (p2 := p2) h2 h3 hb n M (by omega) (by omega)
    have hb4 : b < 4 := by have := h3.1; omega
    rw [lp]
    generalize lp (M_X6_says_l255 NN p1 p2) M = rec at ih ⊢
    have e := bit_0 (nI (aO a b)) (show n < 32 by omega)
    rw [bt_nI, decide_eq_true (show n < 32 by omega), Bool.true_and] at e
    unfold M_X6_says_l255 M_X6_has
    simp only []
    rw [n_m1, if_neg (nI_pos (by omega)), if_neg (E_in h3 hb), E_cl h3 hb, (h2.2.1 b hb4).2.2.1]
    show _ = some (if (aO a b).testBit n = true then nI n else tr (aO a b) n, rm)
    cases g : (aO a b).testBit n
    · rw [if_pos (e.mpr g), Option.bind_some, if_pos rfl, if_neg (by decide)]; exact ih
    · rw [if_neg (fun z => by rw [e, g] at z; cases z), Option.bind_some, if_neg n10, if_pos rfl]
def tbd (a : AE) (b r : Nat) : Bool := !(aM a b r == 0 && aX a b r == 0)
theorem says_ok {ro : RO} {nw : EV} {rm : RM} {a : AE} {s b w : Nat} (h1 : EvA nw a) (h2 : RmA rm a) (h3 : OkA a) (hs : s < 8) (hb : b < aN a) (hw : w < 6) (g1 : RM_shelf rm s = 2) (g2 : RM_shown rm s = nI b) (lw : LW) (se : SE) : ∃ v lw' se' rm', Sg rm rm' ∧ M_X5_sayingOf NN ro nw lw se (nI b) (nI w) (nI (aO a b)) = some (v, lw', se') ∧ M_X6_says_j76 NN (nI s) (nI w) rm = some (v, rm') := by
  have hb4 : b < 4 := by have := h3.1; omega
  obtain ⟨hk, hz1, hz2, ho, ht, -⟩ := h3.2 b hb
  have hp : 2 ^ aZ a b ≤ 1024 := p10 hz2
  obtain ⟨q1, q2, q3, q4, q5⟩ := h2.2.1 b hb4
  have pre : ∀ x, M_X6_says_j76 NN (nI s) (nI w) rm = x ↔ (if nI w = 0 then ((M_X6_bits NN (nI (aO a b))).bind fun r142 => some (r142, rm)) else if nI w = 1 then (if ¬ nI (aK a b) = 4 then M_X6_says_j182 NN (nI s) (nI w) (rm, (nI (aO a b)).toInt64) else ((M_X6_turned NN (nI (aO a b)) (nI (aZ a b))).bind fun r168 => M_X6_says_j182 NN (nI s) (nI w) (rm, r168.toInt64))) else if nI w = 2 then ((M_X6_fewestTo NN rm (nI b) (nI (aO a b)) 0).bind fun r196 => some (r196.1, r196.2)) else if nI w = 3 then lp (M_X6_says_l203 NN (nI s) (nI w)) NN (rm, nI b, 0, 0) else if nI w = 4 then lp (M_X6_says_l255 NN (nI s) (nI w)) NN (rm, nI b, nI (aZ a b) - 1) else lp (M_X6_says_l288 NN (nI s) (nI w)) NN (rm, nI b, 0, 0)) = x := by
    intro x
    unfold M_X6_says_j76
    simp only [S_cl hs, if_neg (S_ix hs), g1, g2, E_cl h3 hb, if_neg (E_ix h3 hb), q1, q2, q3]
    rw [if_pos (show ¬ (2 : Int32) = 0 by decide)]
  have hw6 : w = 0 ∨ w = 1 ∨ w = 2 ∨ w = 3 ∨ w = 4 ∨ w = 5 := by omega
  rcases hw6 with rfl | rfl | rfl | rfl | rfl | rfl
  · refine ⟨nI (pc (aO a b)), lw, se, rm, rfl, ?_, ?_⟩
    · unfold M_X5_sayingOf
      rw [if_neg (by decide), if_neg (by decide), if_neg (by decide), if_neg (by decide), if_neg (by decide), B_cnt _ (by omega)]
      rfl
    · rw [pre, if_pos (by decide), B_bits _ (by omega)]
      rfl
  · by_cases e : nI (aK a b) = (4 : Int32)
    · have htl := tu_lt (aZ a b) (aO a b)
      refine ⟨(lN (gx 64 (tu (aZ a b) (aO a b)))).toInt32, lw, se, rm, rfl, ?_, ?_⟩
      · unfold M_X5_sayingOf M_X5_sayingOf_j66
        rw [if_pos (by decide), E_kind h1 h3 hb, Option.bind_some, if_neg (not_not_intro e), E_size h1 h3 hb, Option.bind_some, L_turn5 _ (by omega) _ ho, Option.bind_some]
        simp only []
        rw [nI_l (by omega), C_gray (by omega)]
        rfl
      · rw [pre, if_neg (by decide), if_pos (by decide), if_neg (not_not_intro e), L_turn _ (by omega) _ ho, Option.bind_some]
        unfold M_X6_says_j182
        simp only []
        rw [nI_l (by omega), R_gray (by omega)]
        rfl
    · refine ⟨(lN (gx 64 (aO a b))).toInt32, lw, se, rm, rfl, ?_, ?_⟩
      · unfold M_X5_sayingOf M_X5_sayingOf_j66
        rw [if_pos (by decide), E_kind h1 h3 hb, Option.bind_some, if_pos e]
        simp only []
        rw [nI_l (by omega), C_gray (by omega)]
        rfl
      · rw [pre, if_neg (by decide), if_pos (by decide), if_pos e]
        unfold M_X6_says_j182
        simp only []
        rw [nI_l (by omega), R_gray (by omega)]
        rfl
  · have hp0 : 0 < 2 ^ aZ a b := Nat.two_pow_pos _
    obtain ⟨lw', se', c1, c2, c3⟩ := C_lead (ro := ro) h1 h3 hb lw se ho hp0
    obtain ⟨rm', r1, r2⟩ := R_fewest h2 h3 hb ho hp0
    have c1' : M_X5_leadTo NN ro nw lw se (nI b) (nI (aO a b)) 0 = _ := c1
    have r2' : M_X6_fewestTo NN rm (nI b) (nI (aO a b)) 0 = _ := r2
    refine ⟨fI ((sp1 (rev (lgl (aL a b))) 0).1 (aO a b)), lw', se', rm', r1, ?_, ?_⟩
    · unfold M_X5_sayingOf
      rw [if_neg (by decide), if_pos (by decide), c1']
      rfl
    · rw [pre, if_neg (by decide), if_neg (by decide), if_pos (by decide), r2']
      rfl
  · obtain ⟨lw', c1⟩ := C_legalNow (ro := ro) h1 h3 hb lw
    refine ⟨nI (fb_ct (lgl (aL a b) (aO a b)) 21), lw', se, rm, rfl, ?_, ?_⟩
    · unfold M_X5_sayingOf
      rw [if_neg (by decide), if_neg (by decide), if_pos (by decide), c1, Option.bind_some]
      simp only []
      rw [lg_cnt (q := aL a b) hz2]
      rfl
    · rw [pre, if_neg (by decide), if_neg (by decide), if_neg (by decide), if_pos (by decide)]
      refine lp_for (fun i => (rm, nI b, nI (fb_ct (lgl (aL a b) (aO a b)) i), nI i)) 21 (fun i hi rec => ?_) (fun rec => rfl) (by decide)
      show M_X6_says_l203 NN (nI s) (nI 3) rec (rm, nI b, nI (fb_ct (lgl (aL a b) (aO a b)) i), nI i) = _
      unfold M_X6_says_l203 M_X6_says_j233
      simp only []
      rw [if_neg (by rw [q_gt_20 (by omega)]; omega), if_neg (E_in h3 hb), E_cl h3 hb, q3, R_may h2 h3 hb ho (by omega), Option.bind_some, fb_ct_succ (lgl (aL a b) (aO a b)) i, nI_1, nI_1]
      cases lgl (aL a b) (aO a b) i
      · rw [if_pos (by decide), if_neg (by decide), Int32.add_zero]
        rfl
      · rw [if_neg (by decide), if_pos rfl]
  · refine ⟨tr (aO a b) (aZ a b), lw, se, rm, rfl, ?_, ?_⟩
    · have := C_last (s := aO a b) 10 NN (by omega) (by decide)
      have e10 : tr (aO a b) 10 = tr (aO a b) (aZ a b) := by
        have := tr_top ho (10 - aZ a b)
        rw [show aZ a b + (10 - aZ a b) = 10 by omega] at this
        exact this
      unfold M_X5_sayingOf M_X5_lastRing
      rw [if_neg (by decide), if_neg (by decide), if_neg (by decide), if_pos (by decide), show (9 : Int32) = nI 10 + (-1) by decide, this, e10]
      rfl
    · have := R_last (p1 := nI s) (p2 := nI 4) h2 h3 hb (aZ a b) NN hz2 (by show aZ a b < 5000; omega)
      rw [pre, if_neg (by decide), if_neg (by decide), if_neg (by decide), if_neg (by decide), if_pos (by decide), nI_s1 hz1, ← nI_m1 hz1]
      exact this
  · refine ⟨nI (fb_ct (tbd a b) (aZ a b)), lw, se, rm, rfl, ?_, ?_⟩
    · have e1 : M_X0_tabledRings NN nw (nI b) = some (nI (fb_ct (tbd a b) (aZ a b))) := by
        unfold M_X0_tabledRings
        refine lp_for (fun i => (nI (fb_ct (tbd a b) i), nI i)) (aZ a b) (fun i hi rec => ?_) (fun rec => ?_) (by show aZ a b < 5000; omega)
        · show M_X0_tabledRings_l4 NN nw (nI b) rec (nI (fb_ct (tbd a b) i), nI i) = _
          obtain ⟨m1, m2⟩ := (h3.2 b hb).2.2.2.2.2 i (by omega)
          unfold M_X0_tabledRings_l4 M_X0_tabledRings_j31 M_X0_tabledRings_j34
          simp only []
          rw [E_size h1 h3 hb, Option.bind_some, if_neg (by rw [nI_leI (by omega) (by omega)]; omega), E_must h1 h3 hb hi, Option.bind_some, E_not h1 h3 hb hi, Option.bind_some, fb_ct_succ (tbd a b) i, nI_1, nI_1]
          unfold tbd
          by_cases e : aM a b i = 0
          · rw [if_neg (by rw [q_eq_0 (by omega)]; exact not_not_intro e), b_eq e, Bool.true_and]
            by_cases e2 : aX a b i = 0
            · rw [if_pos (by rw [q_eq_0 (by omega)]; exact e2), b_eq e2, if_neg (by decide)]
              rfl
            · rw [if_neg (by rw [q_eq_0 (by omega)]; exact e2), b_ne e2, if_pos (by decide)]
          · rw [if_pos (by rw [q_eq_0 (by omega)]; exact e), b_ne e, Bool.false_and, if_pos (by decide)]
        · show M_X0_tabledRings_l4 NN nw (nI b) rec (nI (fb_ct (tbd a b) (aZ a b)), nI (aZ a b)) = _
          unfold M_X0_tabledRings_l4
          simp only []
          rw [E_size h1 h3 hb, Option.bind_some, if_pos (by exact Int32.le_refl _)]
      unfold M_X5_sayingOf
      rw [if_neg (by decide), if_neg (by decide), if_neg (by decide), if_neg (by decide), if_pos (by decide), e1]
      rfl
    · rw [pre, if_neg (by decide), if_neg (by decide), if_neg (by decide), if_neg (by decide), if_neg (by decide)]
      refine lp_for (fun i => (rm, nI b, nI (fb_ct (tbd a b) i), nI i)) (aZ a b) (fun i hi rec => ?_) (fun rec => ?_) (by show aZ a b < 5000; omega)
      · show M_X6_says_l288 NN (nI s) (nI 5) rec (rm, nI b, nI (fb_ct (tbd a b) i), nI i) = _
        obtain ⟨m1, m2⟩ := (h3.2 b hb).2.2.2.2.2 i (by omega)
        obtain ⟨k1, k2⟩ := q5 i (by omega)
        unfold M_X6_says_l288 M_X6_says_j325 M_X6_says_j330
        simp only [E_cl h3 hb, if_neg (E_ix h3 hb), nI_clamp (show i < 2 ^ 31 by omega), if_neg (ix (show i < 10 by omega) (show 10 < 2 ^ 31 by omega)), q2, k1, k2]
        rw [if_neg (by rw [nI_leI (by omega) (by omega)]; omega), fb_ct_succ (tbd a b) i, nI_1, nI_1]
        unfold tbd
        by_cases e : aM a b i = 0
        · rw [if_neg (by rw [q_eq_0 (by omega)]; exact not_not_intro e), b_eq e, Bool.true_and]
          by_cases e2 : aX a b i = 0
          · rw [if_pos (by rw [q_eq_0 (by omega)]; exact e2), b_eq e2, if_neg (by decide), Int32.add_zero]
            rfl
          · rw [if_neg (by rw [q_eq_0 (by omega)]; exact e2), b_ne e2, if_pos (by decide)]
        · rw [if_pos (by rw [q_eq_0 (by omega)]; exact e), b_ne e, Bool.false_and, if_pos (by decide)]
      · show M_X6_says_l288 NN (nI s) (nI 5) rec (rm, nI b, nI (fb_ct (tbd a b) (aZ a b)), nI (aZ a b)) = _
        unfold M_X6_says_l288
        simp only [E_cl h3 hb, if_neg (E_ix h3 hb), q2]
        rw [if_pos (by exact Int32.le_refl _)]
theorem pS_says : S_says INV := by
  intro ro nw kp dr sh tp lw se rm K T hI p1 p2
  obtain ⟨a, h1, h2, h3, h4, h5, h6, h7, h8⟩ := id hI
  have hn := h3.1
  have j1 : M_X5_says_j16 NN nw sh p1 p2 (ro, lw, se) = some (-2, xRf ro 0, lw, se) := by unfold M_X5_says_j16; rw [xRf_ok.1]; rfl
  have j2 : M_X5_says_j63 NN nw sh p1 p2 (ro, lw, se) = some (-3, xRf ro 1, lw, se) := by unfold M_X5_says_j63; rw [xRf_ok.2.1]; rfl
  have i1 : M_X6_says_j24 NN p1 p2 rm = some (-2, mRf rm 0) := by unfold M_X6_says_j24; rw [mRf_ok.1]; rfl
  have i2 : M_X6_says_j69 NN p1 p2 rm = some (-3, mRf rm 1) := by unfold M_X6_says_j69; rw [mRf_ok.2.1]; rfl
  unfold M_X5_says M_X6_says
  rw [j1, j2, i1, i2]
  by_cases hp : vI 8 p1
  · obtain ⟨s, hs, rfl⟩ := hp
    rw [S_is hs, Option.bind_some, if_neg n10, r_in7 hs, Option.bind_some, if_neg n10]
    by_cases hw : vI 6 p2
    · obtain ⟨w, hw, rfl⟩ := hw
      rw [if_neg (nI_pos (by omega)), if_pos (by rw [q_le_5 (by omega)]; omega), R_q1 (k := 6) ⟨w, hw, rfl⟩ rfl (by omega), Option.bind_some, if_pos n10]
      simp only [S_cl hs, if_neg (S_ix hs)]
      rcases sh_cases h4 hs with g | ⟨k, z, g⟩ | ⟨b, g⟩
      · rw [S_binF hs g, Option.bind_some, S_rowF hs g, Option.bind_some, if_neg n00, if_pos rfl, g.1, if_neg (show ¬ (0 : Int32) = 1 by decide), if_pos (show ¬ (0 : Int32) = 2 by decide)]
        unfold M_X5_says_j70 M_X6_says_j76
        simp only [S_cl hs, if_neg (S_ix hs), g.1]
        rw [E_nobar h1 h3 (fun ⟨b, hb, e⟩ => nI_nem b (by omega) e.symm), Option.bind_some, if_neg n00, xRf_ok.2.2.1, if_neg (not_not_intro trivial), mRf_ok.2.2.1]
        exact ⟨_, rfl, _, rfl, rfl, hI.rf 2⟩
      · rw [S_binR hs g, Option.bind_some, S_rowR hs g, Option.bind_some, if_pos n10, g.1, if_pos rfl]
        exact ⟨_, rfl, _, rfl, rfl, hI.rf 1⟩
      · have hb := g.2.1
        have hk := (h3.2 b hb).1
        obtain ⟨q1, q2, q3, q4, q5⟩ := h2.2.1 b (by omega)
        have u5 : M_X5_isUnder NN (nI (aK a b)) (nI w) = some (oB (un (aK a b) w)) := un5 _ (by omega) _ hw
        have u6 : M_X6_isUnder NN (nI (aK a b)) (nI w) = some (oB (un (aK a b) w)) := un6 _ (by omega) _ hw
        rw [S_binB hs g hn, Option.bind_some, S_rowB hs g hn, Option.bind_some, if_neg n00, if_neg (nI_nem b (by omega)), E_kind h1 h3 hb, Option.bind_some, u5, Option.bind_some, g.1, if_neg (show ¬ (2 : Int32) = 1 by decide), if_neg (show ¬ ¬ (2 : Int32) = 2 by decide), g.2.2.2, E_cl h3 hb, if_neg (E_ix h3 hb), q1, u6, Option.bind_some]
        cases un (aK a b) w
        · rw [if_neg (show ¬ ¬ oB false = 0 by decide), if_neg (show ¬ ¬ oB false = 0 by decide)]
          exact ⟨_, rfl, _, rfl, rfl, hI.rf 1⟩
        · rw [if_pos (show ¬ oB true = 0 by decide), if_pos (show ¬ oB true = 0 by decide)]
          obtain ⟨v, lw', se', rm', y0, y1, y2⟩ := says_ok (ro := ro) h1 h2 h3 hs hb hw g.1 g.2.2.2 lw se
          unfold M_X5_says_j70
          simp only []
          rw [E_bar h1 h3 hb, Option.bind_some, if_pos n10, E_on h1 h3 hb, Option.bind_some, y1, y2]
          exact ⟨_, rfl, _, rfl, rfl, hI.sg y0⟩
    · rw [R_q0 (k := 6) hw rfl (by omega)]
      refine ⟨(-2, xRf ro 0, lw, se), ?_, (-2, mRf rm 0), rfl, rfl, hI.rf 0⟩
      rw [vI_int (by omega)] at hw
      by_cases l : p2 < 0
      · rw [if_pos l]
      · rw [if_neg l, if_neg]
        rw [lt_toInt, t_0] at l
        rw [le_toInt, t_5]
        omega
  · rw [S_no hp, r_no7 hp]
    exact ⟨_, rfl, _, rfl, rfl, hI.rf 0⟩
