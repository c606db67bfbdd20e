/-! game, play -/
def bc (been : Nat) : Nat := fb_ct (fun i => been.testBit i) 8
theorem bc_or {been t : Nat} (ht : t < 8) (h : been.testBit t = false) : bc (been ||| 2 ^ t) = bc been + 1 := by
  have e := fb_ct_upd (fun i => been.testBit i) true ht
  rw [h, if_neg (by decide), if_pos rfl, Nat.add_zero] at e
  unfold bc
  rw [← e]
  apply fb_ct_cong
  intro k _
  rw [fb_bit_set]
  by_cases g : k = t
  · rw [if_pos g, decide_eq_true g, Bool.or_true]
  · rw [if_neg g, decide_eq_false g, Bool.or_false]
theorem bc_lt {been t : Nat} (ht : t < 8) (h : been.testBit t = false) : bc been < 8 := by
  have := bc_or ht h
  have h2 : bc (been ||| 2 ^ t) ≤ 8 := fb_ct_le _ 8
  omega
theorem win_step {rm : RM} {se : SE} {a : AE} {b : Nat} (h2 : RmA rm a) (h3 : OkA a) (hb : b < aN a) (hl : SeL se (aL a b)) (hz3 : aZ a b ≤ 3) {s been d D E : Nat} (hbn : been < 2 ^ 8) (hs : s < 2 ^ aZ a b) (hd : d ≤ 8) (rec : ∀ t, t < 2 ^ aZ a b → been.testBit t = false → ∃ v, M_X5_winningMove NN D se (nI t) (nI (been ||| 2 ^ t)) (nI (d + 1)) = some v ∧ M_X6_winning NN E rm (nI b) (nI t) (nI (been ||| 2 ^ t)) = some v) : ∃ v, M_X5_winningMove NN (D + 1) se (nI s) (nI been) (nI d) = some v ∧ M_X6_winning NN (E + 1) rm (nI b) (nI s) (nI been) = some v := by
  have hz := (h3.2 b hb).2.2.1
  have hp8 : 2 ^ aZ a b ≤ 8 := (Nat.pow_le_pow_right (by omega) hz3 : 2 ^ aZ a b ≤ 2 ^ 3)
  have hV : ∀ t, ∃ v, t < 2 ^ aZ a b → been.testBit t = false → M_X5_winningMove NN D se (nI t) (nI (been ||| 2 ^ t)) (nI (d + 1)) = some v ∧ M_X6_winning NN E rm (nI b) (nI t) (nI (been ||| 2 ^ t)) = some v := fun t => by
    by_cases c : t < 2 ^ aZ a b ∧ been.testBit t = false
    · obtain ⟨v, hv⟩ := rec t c.1 c.2
      exact ⟨v, fun _ _ => hv⟩
    · exact ⟨0, fun x y => absurd ⟨x, y⟩ c⟩
  obtain ⟨V, hV⟩ : ∃ V : Nat → Int32, ∀ t, t < 2 ^ aZ a b → been.testBit t = false → M_X5_winningMove NN D se (nI t) (nI (been ||| 2 ^ t)) (nI (d + 1)) = some (V t) ∧ M_X6_winning NN E rm (nI b) (nI t) (nI (been ||| 2 ^ t)) = some (V t) := ⟨fun t => (hV t).choose, fun t => (hV t).choose_spec⟩
  have wdef : ∃ w : Nat → Bool, ∀ m, w m = (lgl (aL a b) s m && !been.testBit (s ^^^ mk m) && decide (V (s ^^^ mk m) = -1)) := ⟨_, fun _ => rfl⟩
  obtain ⟨w, hw⟩ := wdef
  have wl : ∀ m, w m = true → lgl (aL a b) s m = true := fun m h => by
    rw [hw] at h
    simp only [Bool.and_eq_true] at h
    exact h.1.1
  have sh1 : ∀ t, t < 8 → (1 : Int32) <<< (nI t &&& 31) = nI (2 ^ t) := fun t ht => sh_1 (by omega)
  have rst : ∀ m, m < 21 → ∀ rec, M_X6_winning_l3 NN (M_X6_winning NN E) rm (nI b) (nI s) (nI been) rec (nI m) = if w m = true then some (nI m) else rec (nI (m + 1)) := by
    intro m hm rec
    unfold M_X6_winning_l3 M_X6_winning_j59
    rw [if_neg (by rw [q_gt_20 (by omega)]; omega), R_may h2 h3 hb hs (by omega), Option.bind_some, M_mask (by omega), Option.bind_some, fb_xorI, nI_1, hw]
    cases e : lgl (aL a b) s m
    · rw [if_pos (by decide), Bool.false_and, Bool.false_and, if_neg (by decide)]
    · have hto : s ^^^ mk m < 2 ^ aZ a b := mvb_mk (q := aL a b) hz (mvb_of e) hs
      have eb := bit_0 (nI been) (show s ^^^ mk m < 32 by omega)
      rw [bt_nI, decide_eq_true (show s ^^^ mk m < 32 by omega), Bool.true_and] at eb
      rw [if_neg (show ¬ oB true = 0 by decide), Bool.true_and]
      cases g : been.testBit (s ^^^ mk m)
      · rw [if_neg (not_not_intro (eb.mpr g)), sh1 _ (by omega), fa_or, (hV _ hto g).2, Option.bind_some, Bool.not_false, Bool.true_and]
        by_cases c : V (s ^^^ mk m) = -1
        · rw [if_neg (not_not_intro c), decide_eq_true c, if_pos rfl]
        · rw [if_pos c, decide_eq_false c, if_neg (show ¬ false = true by decide)]
      · rw [if_pos (fun z => by rw [eb, g] at z; cases z), Bool.not_true, Bool.false_and, if_neg (show ¬ false = true by decide)]
  have cst : ∀ j, j ≤ aZ a b → ∀ rec, M_X5_winningMove_l11 NN (M_X5_winningMove NN D) se (nI s) (nI been) (nI d) rec (nI j) = if w (if j < aZ a b then j else 20) = true then some (nI (if j < aZ a b then j else 20)) else rec (nI (j + 1)) := by
    intro j hj rec
    have hm : (if j < aZ a b then j else 20) < 10 ∨ (if j < aZ a b then j else 20) = 20 := by split <;> omega
    have emv : M_X2_moveOf NN se (nI j) = some (nI (if j < aZ a b then j else 20)) := C_moveOf hl hz (by omega)
    have esz : SE_size se = nI (aZ a b) := hl.1
    unfold M_X5_winningMove_l11 M_X5_winningMove_j78
    rw [esz, if_neg (by rw [nI_ltI (by omega) (by omega)]; omega), emv, Option.bind_some]
    generalize (if j < aZ a b then j else 20) = m at hm ⊢
    rw [C_rings hm, Option.bind_some, C_mayGo hl hz (show s < 2 ^ (aL a b).2.1 from hs) (by omega), Option.bind_some, fb_xorI, nI_1, hw]
    cases e : lgl (aL a b) s m
    · rw [if_pos (by decide), Bool.false_and, Bool.false_and, if_neg (by decide)]
    · have hto : s ^^^ mk m < 2 ^ aZ a b := mvb_mk (q := aL a b) hz (mvb_of e) hs
      rw [if_neg (show ¬ oB true = 0 by decide), Bool.true_and, C_bit _ (by omega), Option.bind_some, bt_nI, decide_eq_true (show s ^^^ mk m < 32 by omega), Bool.true_and, nI_1]
      cases g : been.testBit (s ^^^ mk m)
      · rw [if_neg (show ¬ ¬ oB false = 0 by decide), sh1 _ (by omega), fa_or, (hV _ hto g).1, Option.bind_some, Bool.not_false, Bool.true_and]
        by_cases c : V (s ^^^ mk m) = -1
        · rw [if_neg (not_not_intro c), decide_eq_true c, if_pos rfl]
        · rw [if_pos c, decide_eq_false c, if_neg (show ¬ false = true by decide)]
      · rw [if_pos (show ¬ oB true = 0 by decide), Bool.not_true, Bool.false_and, if_neg (show ¬ false = true by decide)]
  have c0 : M_X5_winningMove NN (D + 1) se (nI s) (nI been) (nI d) = lp (M_X5_winningMove_l11 NN (M_X5_winningMove NN D) se (nI s) (nI been) (nI d)) NN 0 := by
    show (if nI d ≤ (8 : Int32) then lp (M_X5_winningMove_l11 NN (M_X5_winningMove NN D) se (nI s) (nI been) (nI d)) NN 0 else some (-1)) = _
    rw [if_pos (by rw [q_le_8 (by omega)]; exact hd)]
  have r0 : M_X6_winning NN (E + 1) rm (nI b) (nI s) (nI been) = lp (M_X6_winning_l3 NN (M_X6_winning NN E) rm (nI b) (nI s) (nI been)) NN 0 := rfl
  rw [c0, r0]
  by_cases ex : ∃ m, m < 21 ∧ w m = true
  · obtain ⟨m, hm, hx, he⟩ := fb_first (p := fun m => w m = true) ex
    have hmz : m < aZ a b ∨ m = 20 := by
      have := mvb_of (wl m hx)
      unfold mvb at this
      simp only [Bool.or_eq_true, Bool.and_eq_true, decide_eq_true_eq, beq_iff_eq] at this
      rcases this with h | h
      · exact Or.inl h
      · exact Or.inr h.1.1
    refine ⟨nI m, ?_, lp_for (fun i => nI i) m (fun j hj rec => (rst j (by omega) rec).trans (if_neg (he j hj))) (fun rec => (rst m hm rec).trans (if_pos hx)) (by show m < 5000; omega)⟩
    refine lp_for (fun j => nI j) (if m < aZ a b then m else aZ a b) (fun j hj rec => ?_) (fun rec => ?_) (by show _ < 5000; split <;> omega)
    · have hj2 : j < aZ a b ∧ j < m := by
        by_cases l : m < aZ a b
        · rw [if_pos l] at hj; omega
        · rw [if_neg l] at hj; omega
      rw [cst j (by omega), if_pos hj2.1, if_neg (he j hj2.2)]
    · have ej : (if (if m < aZ a b then m else aZ a b) < aZ a b then (if m < aZ a b then m else aZ a b) else 20) = m := by
        by_cases l : m < aZ a b
        · rw [if_pos l, if_pos l]
        · rw [if_neg l, if_neg (Nat.lt_irrefl _)]
          omega
      rw [cst _ (by split <;> omega), ej, if_pos hx]
  · have he : ∀ m, m < 21 → ¬ w m = true := fun m hm z => ex ⟨m, hm, z⟩
    refine ⟨-1, ?_, lp_for (fun i => nI i) 21 (fun j hj rec => (rst j hj rec).trans (if_neg (he j hj))) (fun rec => rfl) (by decide)⟩
    refine lp_for (fun j => nI j) (aZ a b + 1) (fun j hj rec => ?_) (fun rec => ?_) (by show _ < 5000; omega)
    · rw [cst j (by omega), if_neg (he _ (by split <;> omega))]
    · unfold M_X5_winningMove_l11
      rw [show SE_size se = nI (aZ a b) from hl.1, if_pos (by rw [nI_ltI (by omega) (by omega)]; omega)]
theorem win_ok {rm : RM} {se : SE} {a : AE} {b : Nat} (h2 : RmA rm a) (h3 : OkA a) (hb : b < aN a) (hl : SeL se (aL a b)) (hz3 : aZ a b ≤ 3) : ∀ (k s been D E : Nat), bc been + k = 8 → 1 ≤ bc been → been < 2 ^ 8 → s < 2 ^ aZ a b → k < D → k < E → ∃ v, M_X5_winningMove NN D se (nI s) (nI been) (nI (bc been - 1)) = some v ∧ M_X6_winning NN E rm (nI b) (nI s) (nI been) = some v := by
  have hp8 : 2 ^ aZ a b ≤ 8 := (Nat.pow_le_pow_right (by omega) hz3 : 2 ^ aZ a b ≤ 2 ^ 3)
  intro k
  induction k with
  | zero =>
    intro s been D E hk h1 hbn hs hD hE
    obtain ⟨D, rfl⟩ : ∃ D', D = D' + 1 := ⟨D - 1, by omega⟩
    obtain ⟨E, rfl⟩ : ∃ E', E = E' + 1 := ⟨E - 1, by omega⟩
    refine win_step h2 h3 hb hl hz3 hbn hs (by omega) fun t ht hb0 => ?_
    have := bc_lt (show t < 8 by omega) hb0
    omega
  | succ k ih =>
    intro s been D E hk h1 hbn hs hD hE
    obtain ⟨D, rfl⟩ : ∃ D', D = D' + 1 := ⟨D - 1, by omega⟩
    obtain ⟨E, rfl⟩ : ∃ E', E = E' + 1 := ⟨E - 1, by omega⟩
    refine win_step h2 h3 hb hl hz3 hbn hs (by omega) fun t ht hb0 => ?_
    have e := bc_or (show t < 8 by omega) hb0
    have := ih t (been ||| 2 ^ t) D E (by omega) (by omega) (Nat.or_lt_two_pow hbn (Nat.pow_lt_pow_right (by omega) (by omega))) ht (by omega) (by omega)
    rw [e] at this
    rw [show bc been - 1 + 1 = bc been + 1 - 1 by omega]
    exact this
theorem pS_game : S_game INV := by
  intro ro nw kp dr sh tp lw se rm K T hI p1 p2
  obtain ⟨a, h1, h2, h3, h4, h5, h6, h7, h8⟩ := id hI
  have hn := h3.1
  have ej : M_X5_game_j20 NN nw p1 p2 (ro, lw, se) = some (-2, xRf ro 0, lw, se) := by unfold M_X5_game_j20; rw [xRf_ok.1]; rfl
  have ej2 : M_X6_game_j18 NN p1 p2 rm = some (-2, mRf rm 0) := by unfold M_X6_game_j18; rw [mRf_ok.1]; rfl
  unfold M_X5_game M_X6_game
  rw [ej, ej2]
  by_cases hb : vB a p1
  · obtain ⟨b, hb, rfl⟩ := hb
    have hb4 : b < 4 := by omega
    obtain ⟨hk, hz1, hz2, ho, ht, -⟩ := h3.2 b hb
    rw [E_bar h1 h3 hb, Option.bind_some, if_neg n10, R_bar h2 h3 hb, Option.bind_some, if_neg n10]
    by_cases hw : vI 2 p2
    · obtain ⟨w, hw, rfl⟩ := hw
      simp only [E_cl h3 hb, if_neg (E_ix h3 hb), (h2.2.1 b hb4).2.1, (h2.2.1 b hb4).2.2.1]
      rw [if_neg (nI_pos (by omega)), if_pos (by rw [q_le_1 (by omega)]; omega), E_size h1 h3 hb, Option.bind_some, R_q1 (k := 2) ⟨w, hw, rfl⟩ rfl (by omega), Option.bind_some, if_pos n10]
      by_cases l3 : nI (aZ a b) ≤ (3 : Int32)
      · rw [if_pos l3, if_pos l3]
        have hz3 : aZ a b ≤ 3 := by rw [q_le_3 (by omega)] at l3; exact l3
        have hp8 : 2 ^ aZ a b ≤ 8 := (Nat.pow_le_pow_right (by omega) hz3 : 2 ^ aZ a b ≤ 2 ^ 3)
        obtain ⟨lw', se', c1, c2⟩ := C_study (ro := ro) h1 h3 hb lw se
        have e1 : bc (2 ^ aO a b) = 1 := by
          have : ∀ t, t < 8 → bc (2 ^ t) = 1 := by decide +kernel
          exact this _ (by omega)
        obtain ⟨v, v1, v2⟩ := win_ok h2 h3 hb c2 hz3 7 (aO a b) (2 ^ aO a b) 12 12 (by omega) (by omega) (Nat.pow_lt_pow_right (by omega) (by omega)) ho (by omega) (by omega)
        rw [e1] at v1
        have v1' : M_X5_winningMove NN 12 se' (nI (aO a b)) (nI (2 ^ aO a b)) 0 = some v := v1
        rw [c1, Option.bind_some, E_on h1 h3 hb, Option.bind_some, sh_1 (by omega), v1', Option.bind_some, v2, Option.bind_some]
        by_cases e : nI w = (1 : Int32)
        · rw [if_neg (not_not_intro e), if_neg (not_not_intro e)]
          exact ⟨_, rfl, _, rfl, rfl, hI⟩
        · rw [if_pos e, if_pos e]
          by_cases e2 : v = -1
          · rw [if_neg (not_not_intro e2), if_neg (not_not_intro e2)]
            exact ⟨_, rfl, _, rfl, rfl, hI⟩
          · rw [if_pos e2, if_pos e2]
            exact ⟨_, rfl, _, rfl, rfl, hI⟩
      · rw [if_neg l3, if_neg l3, xRf_ok.2.2.2.1, mRf_ok.2.2.2.1]
        exact ⟨_, rfl, _, rfl, rfl, hI.rf 3⟩
    · rw [R_q0 (k := 2) hw rfl (by omega)]
      refine ⟨(-2, xRf ro 0, lw, se), ?_, (-2, mRf rm 0), rfl, rfl, hI.rf 0⟩
      rw [vI_int (by omega)] at hw
      by_cases l : p2 < 0
      · rw [if_pos l]
      · rw [if_neg l, if_neg]
        rw [lt_toInt, t_0] at l
        rw [le_toInt, t_1]
        omega
  · rw [E_nobar h1 h3 hb, R_nobar h2 h3 hb]
    exact ⟨_, rfl, _, rfl, rfl, hI.rf 0⟩
/-! play -/
def kth (p : Nat → Bool) (x : Nat) : Nat := fa_first (fun i => p i && fb_ct p i == x) 21
theorem kth_ok {p : Nat → Bool} {x : Nat} (h : x < fb_ct p 21) : kth p x < 21 ∧ p (kth p x) = true ∧ fb_ct p (kth p x) = x ∧ ∀ j, j < kth p x → ¬ (p j = true ∧ fb_ct p j = x) := by
  obtain ⟨i, hi, hp, hc⟩ := fb_ct_kth h
  have hlt : kth p x < 21 := by
    have hle := fa_first_le (fun i => p i && fb_ct p i == x) 21
    by_cases e : fa_first (fun i => p i && fb_ct p i == x) 21 = 21
    · have := fa_first_no (fun i => p i && fb_ct p i == x) 21 i (by omega)
      simp [hp, hc] at this
    · unfold kth
      omega
  have hy := fa_first_yes (fun i => p i && fb_ct p i == x) 21 hlt
  simp only [Bool.and_eq_true, beq_iff_eq] at hy
  refine ⟨hlt, hy.1, hy.2, fun j hj z => ?_⟩
  have := fa_first_no (fun i => p i && fb_ct p i == x) 21 j hj
  simp [z.1, z.2] at this
theorem kth_le {p : Nat → Bool} {x i : Nat} (h : x < fb_ct p 21) (hi : i ≤ kth p x) : fb_ct p i ≤ x := by
  have := fb_ct_mono p hi
  rw [(kth_ok h).2.2.1] at this
  exact this
theorem C_kth {q : PL} {s x : Nat} (h : x < fb_ct (lgl q s) 21) : M_X5_bitByNumber NN (nI (lg q s)) (nI x) = some (nI (kth (lgl q s) x)) := by
  obtain ⟨k1, k2, k3, k4⟩ := kth_ok h
  have hx : x < 21 := by have := fb_ct_le (lgl q s) 21; omega
  unfold M_X5_bitByNumber
  refine lp_for (fun i => (nI (x - fb_ct (lgl q s) i), nI i)) (kth (lgl q s) x) (fun i hi rec => ?_) (fun rec => ?_) (by show _ < 5000; omega)
  · show M_X5_bitByNumber_l4 NN (nI (lg q s)) (nI x) rec (nI (x - fb_ct (lgl q s) i), nI i) = _
    have hle := kth_le h (Nat.le_of_lt hi)
    have hle2 := kth_le h hi
    unfold M_X5_bitByNumber_l4 M_X5_bitByNumber_j27
    simp only []
    rw [if_neg (by rw [q_gt_20 (by omega)]; omega), C_hasBit (by omega), Option.bind_some, nI_1, fb_ct_succ (lgl q s) i]
    rw [fb_ct_succ (lgl q s) i] at hle2
    cases e : lgl q s i
    · rw [if_pos (by decide), if_neg (by decide)]
      rfl
    · rw [e, if_pos rfl] at hle2
      rw [if_neg (by decide), if_pos (by rw [q_eq_0 (by omega)]; omega), nI_m1 (by omega), if_pos rfl, show x - (fb_ct (lgl q s) i + 1) = x - fb_ct (lgl q s) i - 1 by omega]
  · show M_X5_bitByNumber_l4 NN (nI (lg q s)) (nI x) rec (nI (x - fb_ct (lgl q s) (kth (lgl q s) x)), nI (kth (lgl q s) x)) = _
    unfold M_X5_bitByNumber_l4
    simp only []
    rw [if_neg (by rw [q_gt_20 (by omega)]; omega), C_hasBit (by omega), Option.bind_some, k2, if_neg (by decide), k3, Nat.sub_self, if_neg (show ¬ ¬ nI 0 = 0 from not_not_intro rfl)]
def rx (s : Int32) (n : Nat) : Nat := s.toBitVec.toNat / 65536 % n
theorem rx_ok {s : Int32} {n : Nat} (h0 : 0 < n) (hn : n < 2 ^ 31) : jushr s 16 - jushr s 16 / nI n * nI n = nI (rx s n) := by
  have hb := s.toBitVec.isLt
  have e : jushr s 16 = nI (s.toBitVec.toNat / 65536) := by
    apply Int32.toBitVec_inj.mp
    apply BitVec.eq_of_toNat_eq
    have := pk_ushr s 16 16 (by decide +kernel)
    rw [pk_tn (by omega)]
    exact this
  rw [e, pk_rem (by omega) h0 hn]
  rfl
def nx (w : Int32) : Int32 := w * 1103515245 + 12345
def nxs (a : AE) : Int32 := nx (aW a)
theorem C_draw {ev : EV} {w : Int32} {n : Nat} (h : EV_seed ev = w) (h0 : 0 < n) (hn : n < 2 ^ 31) : M_X0_draw NN ev (nI n) = some (nI (rx (nx w) n), EV_s_seed ev (nx w)) := by
  unfold M_X0_draw
  rw [if_neg (by rw [q_le_0 hn]; omega), if_neg (by rw [q_eq_0 hn]; omega), h, ← rx_ok h0 hn]
  unfold nx
  rfl
theorem R_below {r : RM} {w : Int32} {n : Nat} (h : RM_seed r = w) (h0 : 0 < n) (hn : n < 2 ^ 31) : M_X6_below NN r (nI n) = some (nI (rx (nx w) n), RM_s_seed r (nx w)) := by
  unfold M_X6_below
  rw [if_neg (by rw [q_eq_0 hn]; omega), h, ← rx_ok h0 hn]
  unfold nx
  rfl
def pmv (a : AE) (b : Nat) : Nat := kth (lgl (aL a b) (aO a b)) (rx (nxs a) (fb_ct (lgl (aL a b) (aO a b)) 21))
def pa (a : AE) (b : Nat) : Nat → AE
  | 0 => a
  | k + 1 => aMv (sW (pa a b k) (nxs (pa a b k))) b (pmv (pa a b k) b)
def pst (a : AE) (b k : Nat) : Bool := fb_ct (lgl (aL (pa a b k) b) (aO (pa a b k) b)) 21 == 0
theorem lg_0 (q : PL) (s : Nat) : lg q s = 0 ↔ fb_ct (lgl q s) 21 = 0 := by
  rw [fb_ct_zero]
  constructor
  · intro h k hk
    rw [← lg_bit (q := q) (s := s) (by omega), h, Nat.zero_testBit]
  · intro h
    apply Nat.eq_of_testBit_eq
    intro i
    unfold lg
    rw [bs_bit, Nat.zero_testBit]
    by_cases l : i < 21
    · rw [h i l, Bool.and_false]
    · rw [decide_eq_false l, Bool.false_and]
theorem sw_n (a : AE) (s : Int32) : aN (sW a s) = aN a := rfl
theorem sw_o (a : AE) (s : Int32) (b : Nat) : aO (sW a s) b = aO a b := rfl
theorem sw_l (a : AE) (s : Int32) (b : Nat) : aL (sW a s) b = aL a b := rfl
theorem sw_ok {a : AE} (s : Int32) (h : OkA a) : OkA (sW a s) := h
theorem sw_E {ev : EV} {a : AE} (s : Int32) (h : EvA ev a) : EvA (EV_s_seed ev s) (sW a s) := ⟨h.1, h.2.1, h.2.2.1, h.2.2.2.1, rfl⟩
theorem sw_R {r : RM} {a : AE} (s : Int32) (h : RmA r a) : RmA (RM_s_seed r s) (sW a s) := ⟨h.1, h.2.1, h.2.2.1, h.2.2.2.1, rfl⟩
theorem sw_on (r : RM) (s : Int32) (b : Nat) : RM_on (RM_s_seed r s) b = RM_on r b := rfl
theorem sw_may {r : RM} {a : AE} (w : Int32) {b s m : Nat} (h : RmA r a) (ok : OkA a) (hb : b < aN a) (hs : s < 2 ^ aZ a b) (hm : m ≤ 20) : M_X6_mayAt NN (RM_s_seed r w) (nI b) (nI s) (nI m) = some (oB (lgl (aL a b) s m)) := R_may (sw_R w h) (sw_ok w ok) hb hs (by omega)
theorem mv_n (a : AE) (b m : Nat) : aN (aMv a b m) = aN a := rfl
theorem mv_l (a : AE) (b m : Nat) : aL (aMv a b m) b = aL a b := rfl
theorem pa_s (a : AE) (b k : Nat) : pa a b (k + 1) = aMv (sW (pa a b k) (nxs (pa a b k))) b (pmv (pa a b k) b) := rfl
theorem pa_stp {c : AE} {b m : Nat} (s : Int32) (ok : OkA c) (hb : b < aN c) (hm : mvb (aL c b) m = true) : OkA (aMv (sW c s) b m) := aMv_ok (sw_ok s ok) (by rw [sw_n]; exact hb) (by rw [sw_l]; exact hm)
theorem pa_ok {a : AE} {b : Nat} (ok : OkA a) (hb : b < aN a) (k : Nat) : (∀ j, j < k → pst a b j = false) → OkA (pa a b k) ∧ aN (pa a b k) = aN a ∧ aL (pa a b k) b = aL a b := by
  induction k with
  | zero => exact fun _ => ⟨ok, rfl, rfl⟩
  | succ k ih =>
    intro h
    obtain ⟨g1, g2, g3⟩ := ih (fun j hj => h j (by omega))
    have hk := h k (by omega)
    unfold pst at hk
    have hpos : 0 < fb_ct (lgl (aL (pa a b k) b) (aO (pa a b k) b)) 21 := by
      have := beq_eq_false_iff_ne.mp hk
      omega
    have hx : rx (nxs (pa a b k)) (fb_ct (lgl (aL (pa a b k) b) (aO (pa a b k) b)) 21) < fb_ct (lgl (aL (pa a b k) b) (aO (pa a b k) b)) 21 := Nat.mod_lt _ hpos
    have hm : mvb (aL (pa a b k) b) (pmv (pa a b k) b) = true := mvb_of (kth_ok hx).2.1
    rw [pa_s, mv_n, mv_l, sw_n, sw_l]
    exact ⟨pa_stp _ g1 (by rw [g2]; exact hb) hm, g2, g3⟩
def cn (c : AE) (b : Nat) : Nat := fb_ct (lgl (aL c b) (aO c b)) 21
theorem cn_le (c : AE) (b : Nat) : cn c b ≤ 21 := fb_ct_le _ 21
theorem pl_live {c : AE} {b : Nat} (ok : OkA c) (hb : b < aN c) (h : 0 < cn c b) : rx (nxs c) (cn c b) < cn c b ∧ (pmv c b < 10 ∨ pmv c b = 20) := by
  have hx : rx (nxs c) (cn c b) < cn c b := Nat.mod_lt _ h
  exact ⟨hx, (mvb_20 (ok.2 b hb).2.2.1 (mvb_of (kth_ok hx).2.1)).2⟩
theorem C_play_go {ro : RO} {ev : EV} {lw : LW} {c : AE} {b n k : Nat} (hev : EvA ev c) (ok : OkA c) (hb : b < aN c) (hlw : LwQ lw (aL c b)) (h : 0 < cn c b) (hk : k < n) (hn : n ≤ 60) : ∃ ev', EvA ev' (aMv (sW c (nxs c)) b (pmv c b)) ∧ ∀ rec, M_X5_play_l43 NN (nI b) (nI n) rec (ro, ev, lw, nI k) = rec (ro, ev', lw, nI (k + 1)) := by
  obtain ⟨x1, x3⟩ := pl_live ok hb h
  have hc := cn_le c b
  have okq := aL_ok ok hb
  obtain ⟨ev', d1, d2⟩ := C_make (N := NN) (sw_E (nxs c) hev) (sw_ok _ ok) (by rw [sw_n]; exact hb) x3
  refine ⟨ev', d2, fun rec => ?_⟩
  have e1 := L_legal hlw okq (ok.2 b hb).2.2.2.1
  have e2 := lg_cnt (q := aL c b) (s := aO c b) okq.2.2.1
  have e3 : ¬ nI (lg (aL c b) (aO c b)) = 0 := by
    have := lg_lt (aL c b) (aO c b)
    rw [q_eq_0 (by omega), lg_0]
    unfold cn at h
    omega
  have e4 : M_X0_draw NN ev (nI (cn c b)) = some (nI (rx (nxs c) (cn c b)), EV_s_seed ev (nxs c)) := C_draw hev.2.2.2.2 h (by omega)
  have e5 : M_X5_bitByNumber NN (nI (lg (aL c b) (aO c b))) (nI (rx (nxs c) (cn c b))) = some (nI (pmv c b)) := C_kth x1
  unfold M_X5_play_l43
  simp only []
  rw [if_neg (by rw [nI_leI (by omega) (by omega)]; omega), E_on hev ok hb, Option.bind_some, e1, Option.bind_some, if_pos e3, e2, Option.bind_some]
  show ((M_X0_draw NN ev (nI (cn c b))).bind _) = _
  rw [e4, Option.bind_some]
  simp only []
  rw [e5, Option.bind_some, d1, Option.bind_some, nI_1]
theorem C_play_end {ro : RO} {ev : EV} {lw : LW} {c : AE} {b n k : Nat} (hev : EvA ev c) (ok : OkA c) (hb : b < aN c) (hlw : LwQ lw (aL c b)) (h : k = n ∨ cn c b = 0) (hk : k ≤ n) (hn : n ≤ 60) : ∀ rec, M_X5_play_l43 NN (nI b) (nI n) rec (ro, ev, lw, nI k) = some (nI k, ro, ev, lw) := by
  intro rec
  unfold M_X5_play_l43
  simp only []
  by_cases l : k = n
  · rw [l, if_pos (by exact Int32.le_refl _)]
  · have hy : cn c b = 0 := by omega
    rw [if_neg (by rw [nI_leI (by omega) (by omega)]; omega), E_on hev ok hb, Option.bind_some, L_legal hlw (aL_ok ok hb) (ok.2 b hb).2.2.2.1, Option.bind_some, (lg_0 _ _).mpr hy, if_neg (show ¬ ¬ nI 0 = 0 from not_not_intro rfl)]
theorem R_play_walk {r r' : RM} {c : AE} {b n k : Nat} (w : Int32) (hr : RmA r c) (ok : OkA c) (hb : b < aN c) {x : Nat} (hx : x < cn c b) (d1 : M_X6_makes NN (RM_s_seed r w) (nI b) (nI (kth (lgl (aL c b) (aO c b)) x)) = some r') (rec : (RM × Int32) → Option (Int32 × RM)) : lp (M_X6_play_l97 NN (nI b) (nI n) rec) NN (RM_s_seed r w, nI k, nI x, 0) = rec (r', nI (k + 1)) := by
  have hb4 : b < 4 := by have := ok.1; omega
  have ho := (ok.2 b hb).2.2.2.1
  have hc := cn_le c b
  obtain ⟨k1, k2, k3, k4⟩ := kth_ok hx
  have hkl := fun i => kth_le (i := i) hx
  have hon : RM_on (RM_s_seed r w) b = nI (aO c b) := (sw_on r _ b).trans (hr.2.1 b hb4).2.2.1
  have hmy : ∀ i, i < 21 → M_X6_mayAt NN (RM_s_seed r w) (nI b) (nI (aO c b)) (nI i) = some (oB (lgl (aL c b) (aO c b) i)) := fun i hi => sw_may _ hr ok hb ho (by omega)
  generalize RM_s_seed r w = rs at *
  generalize kth (lgl (aL c b) (aO c b)) x = K at *
  refine lp_for (fun i => (rs, nI k, nI (x - fb_ct (lgl (aL c b) (aO c b)) i), nI i)) K (fun i hi rec97 => ?_) (fun rec97 => ?_) (by show _ < 5000; omega)
  · show M_X6_play_l97 NN (nI b) (nI n) rec rec97 (rs, nI k, nI (x - fb_ct (lgl (aL c b) (aO c b)) i), nI i) = _
    have hle := hkl i (Nat.le_of_lt hi)
    have hle2 := hkl (i + 1) hi
    rw [fb_ct_succ (lgl (aL c b) (aO c b)) i] at hle2
    unfold M_X6_play_l97 M_X6_play_j121
    simp only []
    rw [if_neg (E_in ok hb), E_cl ok hb, hon, hmy i (by omega), Option.bind_some, nI_1, fb_ct_succ (lgl (aL c b) (aO c b)) i]
    cases e : lgl (aL c b) (aO c b) i
    · rw [if_pos (by decide), if_neg (by decide)]
      rfl
    · rw [e, if_pos rfl] at hle2
      rw [if_neg (by decide), if_neg (by rw [q_le_0 (by omega)]; omega), nI_m1 (by omega), if_pos rfl, show x - (fb_ct (lgl (aL c b) (aO c b)) i + 1) = x - fb_ct (lgl (aL c b) (aO c b)) i - 1 by omega]
  · show M_X6_play_l97 NN (nI b) (nI n) rec rec97 (rs, nI k, nI (x - fb_ct (lgl (aL c b) (aO c b)) K), nI K) = _
    unfold M_X6_play_l97
    simp only []
    rw [if_neg (E_in ok hb), E_cl ok hb, hon, hmy _ k1, Option.bind_some, k2, if_neg (by decide), k3, Nat.sub_self, if_pos (by decide), d1, Option.bind_some, nI_1]
theorem R_play_cnt {r : RM} {c : AE} {b n k : Nat} (hr : RmA r c) (ok : OkA c) (hb : b < aN c) {rec : (RM × Int32) → Option (Int32 × RM)} {Y : Option (Int32 × RM)} (hY : M_X6_play_l40 NN (nI b) (nI n) rec (fun _ => none) (r, nI k, nI (cn c b), nI 21) = Y) : lp (M_X6_play_l40 NN (nI b) (nI n) rec) NN (r, nI k, 0, 0) = Y := by
  have hb4 : b < 4 := by have := ok.1; omega
  have ho := (ok.2 b hb).2.2.2.1
  refine lp_for (fun i => (r, nI k, nI (fb_ct (lgl (aL c b) (aO c b)) i), nI i)) 21 (fun i hi rec40 => ?_) (fun rec40 => ?_) (by decide)
  · show M_X6_play_l40 NN (nI b) (nI n) rec rec40 (r, nI k, nI (fb_ct (lgl (aL c b) (aO c b)) i), nI i) = _
    unfold M_X6_play_l40 M_X6_play_j70
    simp only []
    rw [if_neg (by rw [q_gt_20 (by omega)]; omega), if_neg (E_in ok hb), E_cl ok hb, (hr.2.1 b hb4).2.2.1, R_may hr ok hb ho (by omega), Option.bind_some, fb_ct_succ (lgl (aL c b) (aO c b)) i, nI_1, nI_1]
    cases lgl (aL c b) (aO c b) i
    · rw [if_pos (by decide), if_neg (by decide), Int32.add_zero]
      rfl
    · rw [if_neg (by decide), if_pos rfl]
  · show M_X6_play_l40 NN (nI b) (nI n) rec rec40 (r, nI k, nI (cn c b), nI 21) = _
    rw [← hY]
    unfold M_X6_play_l40
    simp only []
    rw [if_pos (show (20 : Int32) < nI 21 by decide), if_pos (show (20 : Int32) < nI 21 by decide)]
theorem R_make_w {r : RM} {c : AE} (w : Int32) {b m : Nat} (hr : RmA r c) (ok : OkA c) (hb : b < aN c) (hm : m ≤ 20) : ∃ r', M_X6_makes NN (RM_s_seed r w) (nI b) (nI m) = some r' ∧ RmA r' (aMv (sW c w) b m) ∧ NE r r' := by
  obtain ⟨r', d1, d2, d3⟩ := R_make (N := NN) (sw_R w hr) (sw_ok w ok) (by rw [sw_n]; exact hb) (m := m) hm
  exact ⟨r', d1, d2, NE.trans (show NE r (RM_s_seed r w) from ne_seed r w) d3⟩
theorem R_play_go {r : RM} {c : AE} {b n k : Nat} (hr : RmA r c) (ok : OkA c) (hb : b < aN c) (h : 0 < cn c b) (hk : k < n) (hn : n ≤ 60) : ∃ r', RmA r' (aMv (sW c (nxs c)) b (pmv c b)) ∧ NE r r' ∧ ∀ rec, M_X6_play_l29 NN (nI b) (nI n) rec (r, nI k) = rec (r', nI (k + 1)) := by
  obtain ⟨x1, x3⟩ := pl_live ok hb h
  have hc := cn_le c b
  obtain ⟨r', d1, d2, d3⟩ := R_make_w (nxs c) hr ok hb (m := pmv c b) (by omega)
  refine ⟨r', d2, d3, fun rec => ?_⟩
  have e4 : M_X6_below NN r (nI (cn c b)) = some (nI (rx (nxs c) (cn c b)), RM_s_seed r (nxs c)) := R_below hr.2.2.2.2 h (by omega)
  unfold M_X6_play_l29
  simp only []
  rw [if_neg (by rw [nI_leI (by omega) (by omega)]; omega)]
  refine R_play_cnt hr ok hb ?_
  unfold M_X6_play_l40
  simp only []
  rw [if_pos (show (20 : Int32) < nI 21 by decide), if_pos (by rw [q_eq_0 (by omega)]; omega), e4, Option.bind_some]
  exact R_play_walk (nxs c) hr ok hb x1 d1 rec
theorem R_play_end {r : RM} {c : AE} {b n k : Nat} (hr : RmA r c) (ok : OkA c) (hb : b < aN c) (h : k = n ∨ cn c b = 0) (hk : k ≤ n) (hn : n ≤ 60) : ∀ rec, M_X6_play_l29 NN (nI b) (nI n) rec (r, nI k) = some (nI k, r) := by
  intro rec
  unfold M_X6_play_l29
  simp only []
  by_cases l : k = n
  · rw [l, if_pos (by exact Int32.le_refl _)]
  · have hy : cn c b = 0 := by omega
    rw [if_neg (by rw [nI_leI (by omega) (by omega)]; omega)]
    refine R_play_cnt hr ok hb ?_
    unfold M_X6_play_l40
    simp only []
    rw [if_pos (show (20 : Int32) < nI 21 by decide), hy, if_neg (show ¬ ¬ nI 0 = 0 from not_not_intro rfl)]
theorem pS_play : S_play INV := by
  intro ro nw kp dr sh tp lw se rm K T hI p1 p2
  obtain ⟨a, h1, h2, h3, h4, h5, h6, h7, h8⟩ := id hI
  have hn := h3.1
  have ej : M_X5_play_j22 NN p1 p2 (ro, nw, lw) = some (-2, xRf ro 0, nw, lw) := by unfold M_X5_play_j22; rw [xRf_ok.1]; rfl
  have ej2 : M_X6_play_j20 NN p1 p2 rm = some (-2, mRf rm 0) := by unfold M_X6_play_j20; rw [mRf_ok.1]; rfl
  unfold M_X5_play M_X6_play
  rw [ej, ej2]
  by_cases hb : vB a p1
  · obtain ⟨b, hb, rfl⟩ := hb
    have hb4 : b < 4 := by omega
    rw [E_bar h1 h3 hb, Option.bind_some, if_neg n10, R_bar h2 h3 hb, Option.bind_some, if_neg n10]
    by_cases hv : 1 ≤ p2.toInt ∧ p2.toInt ≤ 60
    · obtain ⟨n, hn2, rfl⟩ := of_int (p := p2) (by omega)
      rw [nI_toInt hn2] at hv
      obtain ⟨lw', t1, t2⟩ := C_take (N := NN) h1 h3 hb lw
      rw [if_neg (by rw [q_lt_1 hn2]; omega), if_pos (by rw [q_le_60 hn2]; omega), t1, Option.bind_some, R_k1 (by rw [nI_toInt hn2]; exact hv.1) (by rw [nI_toInt hn2]; exact hv.2), Option.bind_some, if_pos n10]
      have wle := fa_first_le (pst a b) n
      have wno := fa_first_no (pst a b) n
      have wyes := fa_first_yes (pst a b) n
      generalize fa_first (pst a b) n = W at wle wno wyes
      have pok := fun k (hk : k ≤ W) => pa_ok h3 hb k (fun j hj => wno j (by omega))
      have live : ∀ k, k < W → 0 < cn (pa a b k) b := fun k hk => by
        have h := beq_eq_false_iff_ne.mp (wno k hk)
        show 0 < fb_ct (lgl (aL (pa a b k) b) (aO (pa a b k) b)) 21
        omega
      have dead : W = n ∨ cn (pa a b W) b = 0 := by
        by_cases l : W = n
        · exact Or.inl l
        · exact Or.inr (beq_iff_eq.mp (wyes (by omega)))
      have hn60 : n ≤ 60 := by omega
      obtain ⟨o1, ⟨nw', q1, q2⟩, q3⟩ := lp_inv (body := M_X5_play_l43 NN (nI b) (nI n)) (N := NN) (P := fun k Z => ∃ ev, Z = (ro, ev, lw', nI k) ∧ EvA ev (pa a b k)) (Qr := fun o => ∃ ev, o = (nI W, ro, ev, lw') ∧ EvA ev (pa a b W)) W
        (fun k Z hk hP => by
          obtain ⟨ev, rfl, hev⟩ := hP
          obtain ⟨g1, g2, g3⟩ := pok k (by omega)
          obtain ⟨ev', d2, d1⟩ := C_play_go (ro := ro) hev g1 (by rw [g2]; exact hb) (by rw [g3]; exact t2) (live k hk) (show k < n by omega) hn60
          rw [← pa_s] at d2
          exact Or.inl ⟨_, ⟨ev', rfl, d2⟩, fun rec => d1 rec⟩)
        (fun Z hP => by
          obtain ⟨ev, rfl, hev⟩ := hP
          obtain ⟨g1, g2, g3⟩ := pok W (Nat.le_refl _)
          exact ⟨_, ⟨ev, rfl, hev⟩, fun rec => C_play_end hev g1 (by rw [g2]; exact hb) (by rw [g3]; exact t2) dead wle hn60 rec⟩)
        (by show W < 5000; omega) (z := (ro, nw, lw', 0)) ⟨nw, rfl, h1⟩
      subst q1
      obtain ⟨o2, ⟨rm2, s1, s2, s3⟩, s4⟩ := lp_inv (body := M_X6_play_l29 NN (nI b) (nI n)) (N := NN) (P := fun k Z => ∃ r, Z = (r, nI k) ∧ RmA r (pa a b k) ∧ NE rm r) (Qr := fun o => ∃ r, o = (nI W, r) ∧ RmA r (pa a b W) ∧ NE rm r) W
        (fun k Z hk hP => by
          obtain ⟨r, rfl, hr1, hr2⟩ := hP
          obtain ⟨g1, g2, g3⟩ := pok k (by omega)
          obtain ⟨r', d2, d3, d1⟩ := R_play_go hr1 g1 (by rw [g2]; exact hb) (live k hk) (show k < n by omega) hn60
          rw [← pa_s] at d2
          exact Or.inl ⟨_, ⟨r', rfl, d2, hr2.trans d3⟩, fun rec => d1 rec⟩)
        (fun Z hP => by
          obtain ⟨r, rfl, hr1, hr2⟩ := hP
          obtain ⟨g1, g2, g3⟩ := pok W (Nat.le_refl _)
          exact ⟨_, ⟨r, rfl, hr1, hr2⟩, fun rec => R_play_end hr1 g1 (by rw [g2]; exact hb) dead wle hn60 rec⟩)
        (by show W < 5000; omega) (z := (rm, 0)) ⟨rm, rfl, h2, rfl⟩
      subst s1
      obtain ⟨g1, g2, g3⟩ := pok W (Nat.le_refl _)
      rw [q3, s4]
      refine ⟨_, rfl, _, rfl, rfl, pa a b W, q2, s2, g1, ?_, h5.ne s3, h6.ne s3, h7, h8.ne s3⟩
      rw [g2]
      exact h4.ne s3 (Nat.le_refl _)
    · rw [R_k0 (l := 1) (z := 60) hv]
      refine ⟨(-2, xRf ro 0, nw, lw), ?_, (-2, mRf rm 0), rfl, rfl, hI.rf 0⟩
      by_cases l : p2 < 1
      · rw [if_pos l]
      · rw [if_neg l, if_neg]
        rw [lt_toInt, t_1] at l
        rw [le_toInt, t_60]
        omega
  · rw [E_nobar h1 h3 hb, R_nobar h2 h3 hb]
    exact ⟨_, rfl, _, rfl, rfl, hI.rf 0⟩
