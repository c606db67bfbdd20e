/-! the next move of the way; way, time, bell, goes -/
def np (q : PL) (B : BB) (u m : Nat) : Bool := lgl q u m && (B.1 (u ^^^ mk m) + 1 == B.1 u)
def nm (q : PL) (B : BB) (u : Nat) : Nat := fa_first (np q B u) 21
theorem nm_ok {q : PL} {n v i c : Nat} {B : BB} (h : BJ (rev (lgl q)) n v i c B) {u : Nat} (hu : 2 ≤ B.1 u) : nm q B u < 21 ∧ lgl q u (nm q B u) = true ∧ B.1 (u ^^^ mk (nm q B u)) + 1 = B.1 u ∧ ∀ j, j < nm q B u → np q B u j = false := by
  obtain ⟨w, m, h1, h2, h3, h4⟩ := h.2.2.2.2.1 u (B.1 u - 2) (by omega)
  have ew : w = u ^^^ mk m := by rw [h3, xor_xor]
  subst ew
  have h2' : lgl q u m = true := by
    have : lgl q ((u ^^^ mk m) ^^^ mk m) m = true := h2
    rw [xor_xor] at this
    exact this
  have hp : np q B u m = true := by
    unfold np
    rw [h2', b_eq (show B.1 (u ^^^ mk m) + 1 = B.1 u by omega)]
    rfl
  have hlt : nm q B u < 21 := by
    have hle := fa_first_le (np q B u) 21
    by_cases e : fa_first (np q B u) 21 = 21
    · have := fa_first_no (np q B u) 21 m (by omega)
      rw [hp] at this
      cases this
    · unfold nm
      omega
  have hy := fa_first_yes (np q B u) 21 hlt
  refine ⟨hlt, ?_, ?_, fun j hj => fa_first_no (np q B u) 21 j hj⟩
  · show lgl q u (fa_first (np q B u) 21) = true
    unfold np at hy
    simp only [Bool.and_eq_true] at hy
    exact hy.1
  · show B.1 (u ^^^ mk (fa_first (np q B u) 21)) + 1 = B.1 u
    unfold np at hy
    simp only [Bool.and_eq_true, beq_iff_eq] at hy
    exact hy.2
theorem fI_pred {F : Nat} (h : 2 ≤ F) : fI F - 1 = fI (F - 1) := by
  unfold fI
  rw [if_neg (by omega), if_neg (by omega), nI_s1 (by omega)]
theorem R_next {rm : RM} {a : AE} {b n v i c : Nat} {B : BB} (h : RmA rm a) (ok : OkA a) (hb : b < aN a) (hB : RmB rm (aL a b) B) (bj : BJ (rev (lgl (aL a b))) n v i c B) (hn : n ≤ 1024) {u : Nat} (hu : u < 2 ^ aZ a b) (hF : 2 ≤ B.1 u) : M_X6_nextMove NN rm (nI b) (nI u) = some (nI (nm (aL a b) B u)) := by
  have hz := (ok.2 b hb).2.2.1
  have h2 := p10 hz
  obtain ⟨k1, k2, k3, k4⟩ := nm_ok bj hF
  have hf : ∀ s, B.1 s ≤ 1024 := fun s => Nat.le_trans (BJ_bound bj s) hn
  have step : ∀ m, m < 21 → ∀ rec, M_X6_nextMove_l2 NN rm (nI b) (nI u) rec (nI m) = if np (aL a b) B u m = true then some (nI m) else rec (nI (m + 1)) := by
    intro m hm rec
    unfold M_X6_nextMove_l2 M_X6_nextMove_j34 np
    rw [R_may h ok hb hu (by omega), Option.bind_some, M_mask (by omega), Option.bind_some, fb_xorI, nI_1]
    cases e : lgl (aL a b) u m
    · rw [if_pos (show oB false = 0 by decide), Bool.false_and, if_neg (show ¬ false = true by decide)]
    · have hto : u ^^^ mk m < 2 ^ aZ a b := mvb_mk (q := aL a b) hz (mvb_of e) hu
      rw [if_neg (show ¬ oB true = 0 by decide), Bool.true_and, if_neg (nI_in (by omega) (by omega)), if_neg (nI_in (by omega) (by omega)), nI_clamp (n := u ^^^ mk m) (by omega), nI_clamp (n := u) (by omega), hB.1 _ hto, hB.1 _ hu, fI_pred hF]
      have q1 := hf (u ^^^ mk m)
      have q2 := hf u
      by_cases l : B.1 (u ^^^ mk m) + 1 = B.1 u
      · rw [if_pos ((fI_eq (by omega) (by omega)).mpr (by omega)), b_eq l, if_pos rfl]
      · rw [if_neg (fun z => l (by have := (fI_eq (by omega) (by omega)).mp z; omega)), b_ne l, if_neg (show ¬ false = true by decide)]
  unfold M_X6_nextMove
  refine lp_for (fun m => nI m) (nm (aL a b) B u) (fun m hm rec => ?_) (fun rec => ?_) (by show _ < 5000; omega)
  · rw [step m (by omega), k4 m hm, if_neg (by decide)]
  · rw [step _ k1]
    unfold np
    rw [k2, b_eq k3, if_pos (by decide)]
theorem C_mayGo {N : Nat} {se : SE} {q : PL} (h : SeL se q) (hz : q.2.1 ≤ 10) {u m : Nat} (hu : u < 2 ^ q.2.1) (hm : m ≤ 20) : M_X2_mayGo N se (nI u) (nI m) = some (oB (lgl q u m)) := by
  have h2 := p10 hz
  unfold M_X2_mayGo
  rw [C_legalAt h hz (by omega), Option.bind_some, if_pos hu]
  have e := bit_0 (nI (lg q u)) (show m < 32 by omega)
  rw [bt_nI, decide_eq_true (show m < 32 by omega), Bool.true_and, lg_bit hm] at e
  cases g : lgl q u m
  · rw [if_pos (e.mpr g)]; rfl
  · rw [if_neg (fun z => by rw [e, g] at z; cases z)]; rfl
theorem C_next {se : SE} {q : PL} {n v i c : Nat} {B : BB} (h : SeL se q) (hz : q.2.1 ≤ 10) (hB : SeB se q B) (bj : BJ (rev (lgl q)) n v i c B) (hn : n ≤ 1024) {u : Nat} (hu : u < 2 ^ q.2.1) (hF : 2 ≤ B.1 u) : M_X2_nextMove NN se (nI u) = some (nI (nm q B u)) := by
  have h2 := p10 hz
  obtain ⟨k1, k2, k3, k4⟩ := nm_ok bj hF
  have hf : ∀ s, B.1 s ≤ 1024 := fun s => Nat.le_trans (BJ_bound bj s) hn
  have q2 := hf u
  have eF : fI (B.1 u) = nI (B.1 u - 1) := by
    unfold fI
    rw [if_neg (by omega)]
  have hmv := mvb_20 hz (mvb_of k2)
  have hmz : nm q B u < q.2.1 ∨ nm q B u = 20 := by
    have := mvb_of k2
    unfold mvb at this
    simp only [Bool.or_eq_true, Bool.and_eq_true, decide_eq_true_eq, beq_iff_eq] at this
    omega
  have step : ∀ j, j ≤ q.2.1 → ∀ rec, M_X2_nextMove_l8 NN se (nI u) rec (nI (B.1 u - 1), nI j) = if np q B u (if j < q.2.1 then j else 20) = true then some (nI (if j < q.2.1 then j else 20)) else rec (nI (B.1 u - 1), nI (j + 1)) := by
    intro j hj rec
    have hm : (if j < q.2.1 then j else 20) < 10 ∨ (if j < q.2.1 then j else 20) = 20 := by split <;> omega
    unfold M_X2_nextMove_l8 M_X2_nextMove_j57
    simp only []
    rw [h.1, if_neg (by rw [nI_ltI (by omega) (by omega)]; omega), if_neg (by rw [q_le_0 (by omega)]; omega), C_moveOf h hz (by omega), Option.bind_some]
    generalize (if j < q.2.1 then j else 20) = m at hm ⊢
    have hv : u ^^^ mk m < 2 ^ 10 := by
      refine Nat.xor_lt_two_pow (by omega) ?_
      rcases hm with hm | rfl
      · rw [mk_r (by omega)]; exact Nat.pow_lt_pow_right (by omega) hm
      · decide
    rw [C_mayGo h hz hu (by omega), Option.bind_some, C_rings hm, Option.bind_some, fb_xorI, C_far h hz hB (by omega), Option.bind_some, nI_1]
    unfold np
    cases e : lgl q u m
    · rw [if_pos (show oB false = 0 by decide), Bool.false_and, if_neg (show ¬ false = true by decide)]
    · have hto : u ^^^ mk m < 2 ^ q.2.1 := mvb_mk hz (mvb_of e) hu
      rw [if_neg (show ¬ oB true = 0 by decide), Bool.true_and, if_pos hto, ← eF, fI_pred hF]
      have q1 := hf (u ^^^ mk m)
      by_cases l : B.1 (u ^^^ mk m) + 1 = B.1 u
      · rw [if_neg (not_not_intro ((fI_eq (by omega) (by omega)).mpr (by omega))), b_eq l, if_pos rfl]
      · rw [if_pos (fun z => l (by have := (fI_eq (by omega) (by omega)).mp z; omega)), b_ne l, if_neg (show ¬ false = true by decide)]
  unfold M_X2_nextMove
  rw [C_far h hz hB (by omega), if_pos hu, Option.bind_some, eF]
  refine lp_for (fun j => (nI (B.1 u - 1), nI j)) (if nm q B u < q.2.1 then nm q B u else q.2.1) (fun j hj rec => ?_) (fun rec => ?_) (by show _ < 5000; split <;> omega)
  · have hj2 : j < q.2.1 ∧ j < nm q B u := by
      by_cases l : nm q B u < q.2.1
      · rw [if_pos l] at hj; omega
      · rw [if_neg l] at hj; omega
    rw [step j (by omega), if_pos hj2.1, k4 j hj2.2, if_neg (by decide)]
  · have ej : (if (if nm q B u < q.2.1 then nm q B u else q.2.1) < q.2.1 then (if nm q B u < q.2.1 then nm q B u else q.2.1) else 20) = nm q B u := by
      by_cases l : nm q B u < q.2.1
      · rw [if_pos l, if_pos l]
      · rw [if_neg l, if_neg (Nat.lt_irrefl _)]
        omega
    rw [step _ (by split <;> omega), ej]
    unfold np
    rw [k2, b_eq k3, if_pos (by decide)]
/-- where one is behind so many moves of the way -/
def wk (q : PL) (B : BB) (u : Nat) : Nat → Nat
  | 0 => u
  | k + 1 => wk q B u k ^^^ mk (nm q B (wk q B u k))
theorem wk_ok {q : PL} (hz : q.2.1 ≤ 10) {v i c : Nat} {B : BB} (bj : BJ (rev (lgl q)) (2 ^ q.2.1) v i c B) {u : Nat} (hu : u < 2 ^ q.2.1) : ∀ k, k < B.1 u → B.1 (wk q B u k) + k = B.1 u ∧ wk q B u k < 2 ^ q.2.1
  | 0, _ => ⟨rfl, hu⟩
  | k + 1, hk => by
    obtain ⟨h1, h2⟩ := wk_ok hz bj hu k (by omega)
    obtain ⟨k1, k2, k3, k4⟩ := nm_ok bj (show 2 ≤ B.1 (wk q B u k) by omega)
    refine ⟨?_, mvb_mk hz (mvb_of k2) h2⟩
    show B.1 (wk q B u k ^^^ mk (nm q B (wk q B u k))) + (k + 1) = B.1 u
    omega
theorem nm_20 {q : PL} (hz : q.2.1 ≤ 10) {n v i c : Nat} {B : BB} (bj : BJ (rev (lgl q)) n v i c B) {u : Nat} (hF : 2 ≤ B.1 u) : nm q B u < 10 ∨ nm q B u = 20 := (mvb_20 hz (mvb_of (nm_ok bj hF).2.1)).2
theorem INV.sr {ro : RO} {nw kp dr dr' : EV} {sh : SH} {tp : TP} {lw lw' : LW} {se se' : SE} {rm rm' : RM} {K T T' : Option RM} (j : Nat) (h : INV ro nw kp dr sh tp lw se rm K T) (k : Sg rm rm') : INV (xRf ro j) nw kp dr' sh tp lw' se' (mRf rm' j) K T' := INV.rf (dr := dr) (lw := lw) (se := se) (T := T) j (INV.sg h k)
theorem pS_way : S_way INV := by
  intro ro nw kp dr sh tp lw se rm K T hI p1 p2 p3
  obtain ⟨a, h1, h2, h3, h4, h5, h6, h7, h8⟩ := id hI
  have hn := h3.1
  have ej : M_X5_way_j17 NN nw p1 p2 p3 (ro, lw, se) = some (-2, xRf ro 0, lw, se) := by
    unfold M_X5_way_j17
    rw [xRf_ok.1]
    rfl
  have ej2 : M_X6_way_j22 NN p1 p2 p3 rm = some (-2, mRf rm 0) := by
    unfold M_X6_way_j22
    rw [mRf_ok.1]
    rfl
  unfold M_X5_way M_X6_way
  rw [ej, ej2]
  rcases p_set_cases a p1 p2 with ⟨b, s, hb, rfl, hs, rfl⟩ | hno
  · rw [E_setI h1 h3 hb hs, Option.bind_some, if_neg n10, R_bar h2 h3 hb, Option.bind_some, if_neg n10, R_setI h2 h3 hb hs, Option.bind_some, if_neg n10]
    by_cases l0 : 0 ≤ p3
    · rw [if_pos l0, if_pos l0]
      obtain ⟨i, hi, rfl⟩ := of_int (p := p3) (by rw [le_toInt, t_0] at l0; exact l0)
      have hz := (h3.2 b hb).2.2.1
      have hp : 2 ^ aZ a b ≤ 1024 := p10 hz
      have ho := (h3.2 b hb).2.2.2.1
      obtain ⟨lw', se', c1, c2, c3⟩ := C_lead (ro := ro) h1 h3 hb lw se ho hs
      obtain ⟨rm', r1, r2, r3⟩ := R_back h2 h3 hb hs
      obtain ⟨cc, bj⟩ := sp_BJr h3 hb hs
      generalize hB : sp1 (rev (lgl (aL a b))) s = B at *
      have hf := BJ_bound bj (aO a b)
      rw [E_on h1 h3 hb, Option.bind_some, c1, Option.bind_some, r3, Option.bind_some, if_neg (E_in h3 hb), E_cl h3 hb, ((h2.sg r1).2.1 b (by omega)).2.2.1, if_neg (nI_in (by omega) (by omega)), nI_clamp (by omega), r2.1 _ ho]
      by_cases l : nI i < fI (B.1 (aO a b))
      · rw [if_pos (show nI i < (fI (B.1 (aO a b)), lw', se').1 from l), if_pos l]
        have l' : i + 2 ≤ B.1 (aO a b) := by
          have l2 := l
          cases hF : B.1 (aO a b) with
          | zero =>
            rw [hF, fI_0, lt_toInt, t_m1, nI_toInt hi] at l2
            omega
          | succ d =>
            rw [hF, fI_s, nI_ltI hi (by omega)] at l2
            omega
        have hw : ∀ k, k ≤ i → 2 ≤ B.1 (wk (aL a b) B (aO a b) k) ∧ wk (aL a b) B (aO a b) k < 2 ^ aZ a b := fun k hk => by
          have := wk_ok (q := aL a b) hz bj (u := aO a b) ho k (by omega)
          exact ⟨by omega, this.2⟩
        have e1 : lp (M_X5_way_l56 NN nw (nI b) (nI s) (nI i)) NN (ro, lw', se', nI (aO a b), 0) = some (nI (nm (aL a b) B (wk (aL a b) B (aO a b) i)), ro, lw', se') := by
          refine lp_for (fun k => (ro, lw', se', nI (wk (aL a b) B (aO a b) k), nI k)) i (fun k hk rec => ?_) (fun rec => ?_) (by show i < 5000; omega)
          · have g := hw k (by omega)
            show M_X5_way_l56 NN nw (nI b) (nI s) (nI i) rec (ro, lw', se', nI (wk (aL a b) B (aO a b) k), nI k) = rec (ro, lw', se', nI (wk (aL a b) B (aO a b) k ^^^ mk (nm (aL a b) B (wk (aL a b) B (aO a b) k))), nI (k + 1))
            unfold M_X5_way_l56
            simp only []
            rw [if_neg (by rw [nI_leI (by omega) (by omega)]; omega), C_next c2 hz c3 bj hp g.2 g.1, Option.bind_some, C_rings (nm_20 (q := aL a b) hz bj g.1), Option.bind_some, fb_xorI, nI_1]
          · have g := hw i (Nat.le_refl _)
            show M_X5_way_l56 NN nw (nI b) (nI s) (nI i) rec (ro, lw', se', nI (wk (aL a b) B (aO a b) i), nI i) = _
            unfold M_X5_way_l56
            simp only []
            rw [if_pos (by exact Int32.le_refl _), C_next c2 hz c3 bj hp g.2 g.1]
            rfl
        have e2 : lp (M_X6_way_l65 NN (nI b) (nI s) (nI i)) NN (rm', nI (aO a b), 0) = some (nI (nm (aL a b) B (wk (aL a b) B (aO a b) i)), rm') := by
          refine lp_for (fun k => (rm', nI (wk (aL a b) B (aO a b) k), nI k)) i (fun k hk rec => ?_) (fun rec => ?_) (by show i < 5000; omega)
          · have g := hw k (by omega)
            show M_X6_way_l65 NN (nI b) (nI s) (nI i) rec (rm', nI (wk (aL a b) B (aO a b) k), nI k) = rec (rm', nI (wk (aL a b) B (aO a b) k ^^^ mk (nm (aL a b) B (wk (aL a b) B (aO a b) k))), nI (k + 1))
            unfold M_X6_way_l65
            simp only []
            rw [if_neg (by rw [nI_leI (by omega) (by omega)]; omega), R_next (h2.sg r1) h3 hb r2 bj hp g.2 g.1, Option.bind_some, M_mask (by have := nm_20 (q := aL a b) hz bj g.1; omega), Option.bind_some, fb_xorI, nI_1]
          · have g := hw i (Nat.le_refl _)
            show M_X6_way_l65 NN (nI b) (nI s) (nI i) rec (rm', nI (wk (aL a b) B (aO a b) i), nI i) = _
            unfold M_X6_way_l65
            simp only []
            rw [if_pos (by exact Int32.le_refl _), R_next (h2.sg r1) h3 hb r2 bj hp g.2 g.1]
            rfl
        rw [e1, e2]
        exact ⟨_, rfl, _, rfl, rfl, hI.sg r1⟩
      · rw [if_neg (show ¬ nI i < (fI (B.1 (aO a b)), lw', se').1 from l), if_neg l, xRf_ok.2.2.2.1, mRf_ok.2.2.2.1]
        exact ⟨_, rfl, _, rfl, rfl, hI.sr 3 r1⟩
    · rw [if_neg l0, if_neg l0]
      exact ⟨_, rfl, _, rfl, rfl, hI.rf 0⟩
  · rw [E_nosetI h1 h3 hno]
    refine ⟨(-2, xRf ro 0, lw, se), rfl, (-2, mRf rm 0), ?_, rfl, hI.rf 0⟩
    rcases R_setnot (N := NN) h2 h3 hno with e | ⟨e, e'⟩
    · rw [e]; rfl
    · rw [e, Option.bind_some, if_neg n10, e']; rfl
def mi (a : AE) (m : Nat) : Int32 := if m = 20 then jmax (aU a 0) (aU a 1) else aU a m
theorem C_mi {N : Nat} {ev : EV} {a : AE} {m : Nat} (h : EvA ev a) (hm : m < 10 ∨ m = 20) : M_X0_minutesOfMove N ev (nI m) = some (mi a m) := by
  unfold M_X0_minutesOfMove mi
  by_cases e : m = 20
  · rw [if_neg (by rw [q_eq_20 (by omega)]; exact not_not_intro e), show (0 : Int32) = nI 0 from rfl, E_min h (by omega), Option.bind_some, show (1 : Int32) = nI 1 from rfl, E_min h (by omega), Option.bind_some, if_pos e]
  · rw [if_pos (by rw [q_eq_20 (by omega)]; exact e), E_min h (by omega), Option.bind_some, if_neg e]
theorem R_mi {N : Nat} {rm : RM} {a : AE} {m : Nat} (h : RmA rm a) (hm : m < 10 ∨ m = 20) : M_X6_minutesOf N rm (nI m) = some (mi a m) := by
  have g0 := h.2.2.1 0 (by omega)
  have g1 := h.2.2.1 1 (by omega)
  unfold M_X6_minutesOf mi
  by_cases e : m = 20
  · rw [if_pos (by rw [q_eq_20 (by omega)]; exact e), if_neg (by decide), if_neg (by decide), c_0, c_1, g0, g1, if_pos e]
    unfold jmax
    by_cases l : aU a 0 ≤ aU a 1
    · rw [if_pos l, if_neg (by decide)]
      by_cases l2 : aU a 0 < aU a 1
      · rw [if_pos l2]
      · rw [if_neg l2]
        rw [lt_toInt] at l2
        rw [le_toInt] at l
        exact congrArg some (Int32.toInt_inj.mp (by omega))
    · rw [if_neg l, if_neg (by decide), if_neg]
      rw [le_toInt] at l
      rw [lt_toInt]
      omega
  · rw [if_neg (by rw [q_eq_20 (by omega)]; exact e), if_neg (nI_in (by omega) (by omega)), nI_clamp (by omega), h.2.2.1 m (by omega), if_neg e]
def tt (a : AE) (q : PL) (B : BB) (u : Nat) : Nat → Int32
  | 0 => 0
  | k + 1 => tt a q B u k + mi a (nm q B (wk q B u k))
/-- the reference's minutes of the way -/
theorem R_timeTo {rm : RM} {a : AE} {b u v : Nat} (h : RmA rm a) (ok : OkA a) (hb : b < aN a) (hu : u < 2 ^ aZ a b) (hv : v < 2 ^ aZ a b) : ∃ rm', Sg rm rm' ∧ M_X6_timeTo NN rm (nI b) (nI u) (nI v) = some (if (sp1 (rev (lgl (aL a b))) v).1 u = 0 then -1 else tt a (aL a b) (sp1 (rev (lgl (aL a b))) v) u ((sp1 (rev (lgl (aL a b))) v).1 u - 1), rm') := by
  have hz := (ok.2 b hb).2.2.1
  have hp : 2 ^ aZ a b ≤ 1024 := p10 hz
  obtain ⟨rm', r1, r2, r3⟩ := R_back h ok hb hv
  obtain ⟨cc, bj⟩ := sp_BJr ok hb hv
  generalize hB : sp1 (rev (lgl (aL a b))) v = B at *
  have hf := BJ_bound bj u
  refine ⟨rm', r1, ?_⟩
  unfold M_X6_timeTo
  rw [r3, Option.bind_some, if_neg (nI_in (by omega) (by omega)), nI_clamp (by omega), r2.1 _ hu]
  by_cases e : B.1 u = 0
  · rw [if_neg (by rw [e]; exact not_not_intro rfl), if_pos e]
  · rw [if_pos (by rw [fI_m (by omega)]; exact e), if_neg e]
    refine lp_for (fun k => (rm', tt a (aL a b) B u k, nI (wk (aL a b) B u k))) (B.1 u - 1) (fun k hk rec => ?_) (fun rec => ?_) (by show _ < 5000; omega)
    · have g := wk_ok (q := aL a b) hz bj hu k (by omega)
      have g2 : 2 ≤ B.1 (wk (aL a b) B u k) := by omega
      have gz : wk (aL a b) B u k < 2 ^ aZ a b := g.2
      show M_X6_timeTo_l25 NN (nI b) (nI u) (nI v) rec (rm', tt a (aL a b) B u k, nI (wk (aL a b) B u k)) = rec (rm', tt a (aL a b) B u k + mi a (nm (aL a b) B (wk (aL a b) B u k)), nI (wk (aL a b) B u k ^^^ mk (nm (aL a b) B (wk (aL a b) B u k))))
      unfold M_X6_timeTo_l25
      simp only []
      have ne : ¬ nI (wk (aL a b) B u k) = nI v := fun z => by
        have z := (nI_eq (by omega) (by omega)).mp z
        have := (bj.2.2.2.2.2.1 _).mpr z
        omega
      have hmn := nm_20 (q := aL a b) hz bj g2
      rw [if_neg ne, R_next (h.sg r1) ok hb r2 bj hp gz g2, Option.bind_some, R_mi (h.sg r1) hmn, Option.bind_some, M_mask (by omega), Option.bind_some, fb_xorI]
    · have g := wk_ok (q := aL a b) hz bj hu (B.1 u - 1) (by omega)
      have ev := (bj.2.2.2.2.2.1 (wk (aL a b) B u (B.1 u - 1))).mp (by omega)
      show M_X6_timeTo_l25 NN (nI b) (nI u) (nI v) rec (rm', tt a (aL a b) B u (B.1 u - 1), nI (wk (aL a b) B u (B.1 u - 1))) = _
      unfold M_X6_timeTo_l25
      simp only []
      rw [ev, if_pos rfl]
theorem pS_time : S_time INV := by
  intro ro nw kp dr sh tp lw se rm K T hI p1 p2
  obtain ⟨a, h1, h2, h3, h4, h5, h6, h7, h8⟩ := id hI
  have hn := h3.1
  have ej2 : M_X6_time_j33 NN p1 p2 rm = some (-2, mRf rm 0) := by
    unfold M_X6_time_j33
    rw [mRf_ok.1]
    rfl
  unfold M_X5_time M_X6_time
  rw [ej2]
  rcases p_set_cases a p1 p2 with ⟨b, s, hb, rfl, hs, rfl⟩ | hno
  · have hz := (h3.2 b hb).2.2.1
    have hp : 2 ^ aZ a b ≤ 1024 := p10 hz
    have ho := (h3.2 b hb).2.2.2.1
    obtain ⟨lw', se', c1, c2, c3⟩ := C_lead (ro := ro) h1 h3 hb lw se ho hs
    obtain ⟨rm', r1, r2⟩ := R_timeTo h2 h3 hb ho hs
    obtain ⟨cc, bj⟩ := sp_BJr h3 hb hs
    generalize hB : sp1 (rev (lgl (aL a b))) s = B at *
    have hf := BJ_bound bj (aO a b)
    rw [E_setI h1 h3 hb hs, Option.bind_some, if_pos n10, E_on h1 h3 hb, Option.bind_some, c1, Option.bind_some, R_bar h2 h3 hb, Option.bind_some, if_neg n10, R_setI h2 h3 hb hs, Option.bind_some, if_neg n10, if_neg (E_in h3 hb), E_cl h3 hb, (h2.2.1 b (by omega)).2.2.1, r2, Option.bind_some]
    simp only []
    by_cases e : B.1 (aO a b) = 0
    · rw [if_neg (by rw [e]; exact not_not_intro rfl), if_pos e]
      exact ⟨_, rfl, _, rfl, rfl, hI.sg r1⟩
    · rw [if_pos (by rw [fI_m (by omega)]; exact e), if_neg e]
      have eF : fI (B.1 (aO a b)) = nI (B.1 (aO a b) - 1) := by
        unfold fI
        rw [if_neg e]
      have e1 : lp (M_X5_time_l52 NN nw (nI b) (nI s)) NN (ro, lw', se', nI (aO a b), fI (B.1 (aO a b)), 0, 0) = some (tt a (aL a b) B (aO a b) (B.1 (aO a b) - 1), ro, lw', se') := by
        refine lp_for (fun k => (ro, lw', se', nI (wk (aL a b) B (aO a b) k), fI (B.1 (aO a b)), tt a (aL a b) B (aO a b) k, nI k)) (B.1 (aO a b) - 1) (fun k hk rec => ?_) (fun rec => ?_) (by show _ < 5000; omega)
        · have g := wk_ok (q := aL a b) hz bj ho k (by omega)
          have g2 : 2 ≤ B.1 (wk (aL a b) B (aO a b) k) := by omega
          have hmn := nm_20 (q := aL a b) hz bj g2
          show M_X5_time_l52 NN nw (nI b) (nI s) rec (ro, lw', se', nI (wk (aL a b) B (aO a b) k), fI (B.1 (aO a b)), tt a (aL a b) B (aO a b) k, nI k) = rec (ro, lw', se', nI (wk (aL a b) B (aO a b) k ^^^ mk (nm (aL a b) B (wk (aL a b) B (aO a b) k))), fI (B.1 (aO a b)), tt a (aL a b) B (aO a b) k + mi a (nm (aL a b) B (wk (aL a b) B (aO a b) k)), nI (k + 1))
          unfold M_X5_time_l52
          simp only []
          rw [eF, if_neg (by rw [nI_leI (by omega) (by omega)]; omega), C_next c2 hz c3 bj hp g.2 g2, Option.bind_some, C_mi h1 hmn, Option.bind_some, C_rings hmn, Option.bind_some, fb_xorI, nI_1]
        · show M_X5_time_l52 NN nw (nI b) (nI s) rec (ro, lw', se', nI (wk (aL a b) B (aO a b) (B.1 (aO a b) - 1)), fI (B.1 (aO a b)), tt a (aL a b) B (aO a b) (B.1 (aO a b) - 1), nI (B.1 (aO a b) - 1)) = _
          unfold M_X5_time_l52
          simp only []
          rw [eF, if_pos (by exact Int32.le_refl _)]
      rw [e1]
      exact ⟨_, rfl, _, rfl, rfl, hI.sg r1⟩
  · rw [E_nosetI h1 h3 hno, Option.bind_some, if_neg n00, xRf_ok.1]
    refine ⟨(-2, xRf ro 0, lw, se), rfl, (-2, mRf rm 0), ?_, rfl, hI.rf 0⟩
    rcases R_setnot (N := NN) h2 h3 hno with e | ⟨e, e'⟩
    · rw [e]; rfl
    · rw [e, Option.bind_some, if_neg n10, e']; rfl
