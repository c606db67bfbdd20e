/-! may, moves, move; place, setOf, luck; status -/
theorem n10 : ¬ (1 : Int32) = 0 := by decide
theorem n00 : ¬ ¬ (0 : Int32) = 0 := by decide
theorem E_moveN {N : Nat} {ev : EV} {a : AE} {p q : Int32} (h : EvA ev a) (ok : OkA a) (hp : ¬ vB a p ∨ q.toInt < 0) : M_X0_hasMove N ev p q = some 0 := by
  unfold M_X0_hasMove
  by_cases e : q = 20
  · subst e
    have hb : ¬ vB a p := by
      rcases hp with hp | hp
      · exact hp
      · rw [t_20] at hp; omega
    rw [if_neg (not_not_intro rfl), E_nokind h ok hb]
    rfl
  · rw [if_pos e, E_noring h ok, Option.bind_some]
    · rfl
    · rintro ⟨b, hb, rfl, hs⟩
      rcases hp with hp | hp
      · exact hp ⟨b, hb, rfl⟩
      · have hz := (ok.2 b hb).2.2.1
        rw [vI_int (by omega)] at hs
        omega
theorem R_moveN {N : Nat} {rm : RM} {a : AE} {b : Nat} {q : Int32} (h : RmA rm a) (ok : OkA a) (hb : b < aN a) (hq : q.toInt < 0) : M_X6_isMove N rm (nI b) q = some 0 := by
  have hz := (ok.2 b hb).2.2.1
  unfold M_X6_isMove
  rw [R_noring h ok hb (fun hs => by rw [vI_int (by omega)] at hs; omega), Option.bind_some, if_neg (not_not_intro rfl), if_pos (fun e => by rw [e, t_20] at hq; omega)]
theorem C_hasBit {N : Nat} {q : PL} {s m : Nat} (hm : m ≤ 20) : M_X5_hasBit N (nI (lg q s)) (nI m) = some (oB (lgl q s m)) := by
  rw [C_bit _ (by omega), bt_nI, decide_eq_true (by omega), Bool.true_and, lg_bit hm]
theorem pS_may : S_may INV := by
  intro ro nw kp dr sh tp lw se rm K T hI p1 p2
  obtain ⟨a, h1, h2, h3, h4, h5, h6, h7, h8⟩ := id hI
  have hn := h3.1
  have bad (e1 : M_X0_hasMove NN nw p1 p2 = some 0) (e2 : M_X6_isBar NN rm p1 = some 0 ∨ (M_X6_isBar NN rm p1 = some 1 ∧ M_X6_isMove NN rm p1 p2 = some 0)) : ∃ o1, M_X5_may NN ro nw lw p1 p2 = some o1 ∧ ∃ o2, M_X6_may NN rm p1 p2 = some o2 ∧ o1.1 = o2.1 ∧ INV o1.2.1 nw kp dr sh tp o1.2.2 se o2.2 K T := by
    refine ⟨(-2, xRf ro 0, lw), ?_, (-2, mRf rm 0), ?_, rfl, hI.rf 0⟩
    · unfold M_X5_may
      rw [e1, Option.bind_some, if_neg (by decide), xRf_ok.1]
      rfl
    · have ej : M_X6_may_j17 NN p1 p2 rm = some (-2, mRf rm 0) := by
        unfold M_X6_may_j17
        rw [mRf_ok.1]
        rfl
      unfold M_X6_may
      rw [ej]
      rcases e2 with e2 | ⟨e2, e3⟩
      · rw [e2]; rfl
      · rw [e2, Option.bind_some, if_neg (by decide), e3]; rfl
  by_cases hb : vB a p1
  · by_cases hq : 0 ≤ p2.toInt
    · obtain ⟨b, hb, rfl⟩ := hb
      obtain ⟨m, hm, rfl⟩ := of_int hq
      have ho := (h3.2 b hb).2.2.2.1
      cases v : mvb (aL a b) m
      · exact bad (by rw [E_move h1 h3 hb hm, v]; rfl) (Or.inr ⟨R_bar h2 h3 hb, by rw [R_move h2 h3 hb hm, v]; rfl⟩)
      · have hm20 := (mvb_20 (q := aL a b) (h3.2 b hb).2.2.1 v).1
        obtain ⟨lw', c1⟩ := C_legalNow (ro := ro) h1 h3 hb lw
        have hb4 : b < 4 := by omega
        unfold M_X5_may M_X6_may
        rw [E_move h1 h3 hb hm, v, Option.bind_some, if_pos (show ¬ oB true = 0 by decide), c1, Option.bind_some, C_hasBit hm20, Option.bind_some, R_bar h2 h3 hb, Option.bind_some, if_neg n10, R_move h2 h3 hb hm, v, Option.bind_some, if_pos (show ¬ oB true = 0 by decide), if_neg (E_in h3 hb), E_cl h3 hb, (h2.2.1 b hb4).2.2.1, R_may h2 h3 hb ho hm, Option.bind_some]
        cases lgl (aL a b) (aO a b) m
        · exact ⟨_, rfl, _, rfl, rfl, hI⟩
        · exact ⟨_, rfl, _, rfl, rfl, hI⟩
    · obtain ⟨b, hb, rfl⟩ := hb
      exact bad (E_moveN h1 h3 (Or.inr (by omega))) (Or.inr ⟨R_bar h2 h3 hb, R_moveN h2 h3 hb (by omega)⟩)
  · exact bad (E_moveN h1 h3 (Or.inl hb)) (Or.inl (R_nobar h2 h3 hb))
theorem pS_moves : S_moves INV := by
  intro ro nw kp dr sh tp lw se rm K T hI p1
  obtain ⟨a, h1, h2, h3, h4, h5, h6, h7, h8⟩ := id hI
  have hn := h3.1
  by_cases hb : vB a p1
  · obtain ⟨b, hb, rfl⟩ := hb
    have ho := (h3.2 b hb).2.2.2.1
    obtain ⟨lw', c1⟩ := C_legalNow (ro := ro) h1 h3 hb lw
    refine ⟨(nI (lg (aL a b) (aO a b)), ro, lw'), ?_, (nI (lg (aL a b) (aO a b)), rm), ?_, rfl, hI⟩
    · unfold M_X5_moves
      rw [E_bar h1 h3 hb, Option.bind_some, if_pos (by decide), c1]
      rfl
    · unfold M_X6_moves
      rw [R_bar h2 h3 hb, Option.bind_some, if_pos (by decide)]
      refine lp_for (fun i => (rm, nI (bs (lgl (aL a b) (aO a b)) i), nI i)) 21 (fun i hi rec => ?_) (fun rec => ?_) (by decide)
      · show M_X6_moves_l19 NN (nI b) rec (rm, nI (bs (lgl (aL a b) (aO a b)) i), nI i) = _
        unfold M_X6_moves_l19 M_X6_moves_j48
        simp only []
        rw [if_neg (by rw [q_gt_20 (by omega)]; omega), if_neg (E_in h3 hb), E_cl h3 hb, (h2.2.1 b (by omega)).2.2.1, R_may h2 h3 hb ho (by omega), Option.bind_some, bs, nI_1]
        cases lgl (aL a b) (aO a b) i
        · rw [if_pos (by decide), if_neg (by decide), Nat.or_zero, show (0 : Int32) = nI 0 from rfl, fa_or, Nat.or_zero]
        · rw [if_neg (by decide), if_pos rfl, sh_1 (by omega), fa_or]
      · rfl
  · refine ⟨(-2, xRf ro 0, lw), ?_, (-2, mRf rm 0), ?_, rfl, hI.rf 0⟩
    · unfold M_X5_moves
      rw [E_nobar h1 h3 hb, Option.bind_some, if_neg (by decide), xRf_ok.1]
      rfl
    · unfold M_X6_moves
      rw [R_nobar h2 h3 hb, Option.bind_some, if_neg (by decide), mRf_ok.1]
      rfl
def aMv (a : AE) (b m : Nat) : AE := sV (sO a b (aO a b ^^^ mk m)) (aV a + 1)
theorem aMv_ok {a : AE} {b m : Nat} (ok : OkA a) (hb : b < aN a) (hm : mvb (aL a b) m = true) : OkA (aMv a b m) := by
  have := ok.sO (b := b) (v := aO a b ^^^ mk m) fun hb => mvb_mk (q := aL a b) (ok.2 b hb).2.2.1 hm (ok.2 b hb).2.2.2.1
  exact this
theorem C_make {N : Nat} {ev : EV} {a : AE} {b m : Nat} (h : EvA ev a) (ok : OkA a) (hb : b < aN a) (hm : m < 10 ∨ m = 20) : ∃ ev', M_X0_makeMove N ev (nI b) (nI m) = some ev' ∧ EvA ev' (aMv a b m) := by
  have hn := ok.1
  unfold M_X0_makeMove
  rw [E_bar h ok hb, Option.bind_some, if_neg (by decide), if_neg (E_in ok hb), C_rings hm, Option.bind_some, if_neg (E_in ok hb), E_cl ok hb, (h.2.1 b (by omega)).2.2.1, fb_xorI]
  have g := h.sO (b := b) (v := aO a b ^^^ mk m)
  refine ⟨_, rfl, g.1, g.2.1, g.2.2.1, ?_, g.2.2.2.2⟩
  show EV_moved ev + 1 = aV a + 1
  rw [h.2.2.2.1]
theorem mv_acc (r : RM) (O : Nat → Int32) (v : Int32) : ∃ R, R = RM_s_movedAll (RM_s_on r O) v ∧ RM_bars R = RM_bars r ∧ RM_kind R = RM_kind r ∧ RM_size R = RM_size r ∧ RM_on R = O ∧ RM_stuck R = RM_stuck r ∧ RM_must R = RM_must r ∧ RM_not R = RM_not r ∧ RM_minutes R = RM_minutes r ∧ RM_movedAll R = v ∧ RM_seed R = RM_seed r ∧ NE r R := by
  refine ⟨_, rfl, ?_⟩
  unfold NE
  simp only [ne_movedAll, ne_on, RM_shelf_s_shelf, RM_shelf_s_rowSort, RM_shelf_s_rowSize, RM_shelf_s_rows, RM_shelf_s_moved1, RM_shelf_s_shown, RM_shelf_s_tape, RM_shelf_s_tapeSize, RM_shelf_s_refused, RM_shelf_s_bars, RM_shelf_s_kind, RM_shelf_s_size, RM_shelf_s_on, RM_shelf_s_stuck, RM_shelf_s_must, RM_shelf_s_not, RM_shelf_s_minutes, RM_shelf_s_movedAll, RM_shelf_s_seed, RM_shelf_s_at, RM_shelf_s_token, RM_shelf_s_from, RM_shelf_s_figures, RM_shelf_s_fault, RM_shelf_s_told, RM_shelf_s_statements, RM_shelf_s_far, RM_shelf_s_queue, RM_shelf_s_queued, RM_shelf_s_parts1, RM_shelf_s_parts2, RM_shelf_s_picturesSum, RM_shelf_s_behindAll, RM_shelf_s_pl, RM_rowSort_s_shelf, RM_rowSort_s_rowSort, RM_rowSort_s_rowSize, RM_rowSort_s_rows, RM_rowSort_s_moved1, RM_rowSort_s_shown, RM_rowSort_s_tape, RM_rowSort_s_tapeSize, RM_rowSort_s_refused, RM_rowSort_s_bars, RM_rowSort_s_kind, RM_rowSort_s_size, RM_rowSort_s_on, RM_rowSort_s_stuck, RM_rowSort_s_must, RM_rowSort_s_not, RM_rowSort_s_minutes, RM_rowSort_s_movedAll, RM_rowSort_s_seed, RM_rowSort_s_at, RM_rowSort_s_token, RM_rowSort_s_from, RM_rowSort_s_figures, RM_rowSort_s_fault, RM_rowSort_s_told, RM_rowSort_s_statements, RM_rowSort_s_far, RM_rowSort_s_queue, RM_rowSort_s_queued, RM_rowSort_s_parts1, RM_rowSort_s_parts2, RM_rowSort_s_picturesSum, RM_rowSort_s_behindAll, RM_rowSort_s_pl, RM_rowSize_s_shelf, RM_rowSize_s_rowSort, RM_rowSize_s_rowSize, RM_rowSize_s_rows, RM_rowSize_s_moved1, RM_rowSize_s_shown, RM_rowSize_s_tape, RM_rowSize_s_tapeSize, RM_rowSize_s_refused, RM_rowSize_s_bars, RM_rowSize_s_kind, RM_rowSize_s_size, RM_rowSize_s_on, RM_rowSize_s_stuck, RM_rowSize_s_must, RM_rowSize_s_not, RM_rowSize_s_minutes, RM_rowSize_s_movedAll, RM_rowSize_s_seed, RM_rowSize_s_at, RM_rowSize_s_token, RM_rowSize_s_from, RM_rowSize_s_figures, RM_rowSize_s_fault, RM_rowSize_s_told, RM_rowSize_s_statements, RM_rowSize_s_far, RM_rowSize_s_queue, RM_rowSize_s_queued, RM_rowSize_s_parts1, RM_rowSize_s_parts2, RM_rowSize_s_picturesSum, RM_rowSize_s_behindAll, RM_rowSize_s_pl, RM_rows_s_shelf, RM_rows_s_rowSort, RM_rows_s_rowSize, RM_rows_s_rows, RM_rows_s_moved1, RM_rows_s_shown, RM_rows_s_tape, RM_rows_s_tapeSize, RM_rows_s_refused, RM_rows_s_bars, RM_rows_s_kind, RM_rows_s_size, RM_rows_s_on, RM_rows_s_stuck, RM_rows_s_must, RM_rows_s_not, RM_rows_s_minutes, RM_rows_s_movedAll, RM_rows_s_seed, RM_rows_s_at, RM_rows_s_token, RM_rows_s_from, RM_rows_s_figures, RM_rows_s_fault, RM_rows_s_told, RM_rows_s_statements, RM_rows_s_far, RM_rows_s_queue, RM_rows_s_queued, RM_rows_s_parts1, RM_rows_s_parts2, RM_rows_s_picturesSum, RM_rows_s_behindAll, RM_rows_s_pl, RM_moved1_s_shelf, RM_moved1_s_rowSort, RM_moved1_s_rowSize, RM_moved1_s_rows, RM_moved1_s_moved1, RM_moved1_s_shown, RM_moved1_s_tape, RM_moved1_s_tapeSize, RM_moved1_s_refused, RM_moved1_s_bars, RM_moved1_s_kind, RM_moved1_s_size, RM_moved1_s_on, RM_moved1_s_stuck, RM_moved1_s_must, RM_moved1_s_not, RM_moved1_s_minutes, RM_moved1_s_movedAll, RM_moved1_s_seed, RM_moved1_s_at, RM_moved1_s_token, RM_moved1_s_from, RM_moved1_s_figures, RM_moved1_s_fault, RM_moved1_s_told, RM_moved1_s_statements, RM_moved1_s_far, RM_moved1_s_queue, RM_moved1_s_queued, RM_moved1_s_parts1, RM_moved1_s_parts2, RM_moved1_s_picturesSum, RM_moved1_s_behindAll, RM_moved1_s_pl, RM_shown_s_shelf, RM_shown_s_rowSort, RM_shown_s_rowSize, RM_shown_s_rows, RM_shown_s_moved1, RM_shown_s_shown, RM_shown_s_tape, RM_shown_s_tapeSize, RM_shown_s_refused, RM_shown_s_bars, RM_shown_s_kind, RM_shown_s_size, RM_shown_s_on, RM_shown_s_stuck, RM_shown_s_must, RM_shown_s_not, RM_shown_s_minutes, RM_shown_s_movedAll, RM_shown_s_seed, RM_shown_s_at, RM_shown_s_token, RM_shown_s_from, RM_shown_s_figures, RM_shown_s_fault, RM_shown_s_told, RM_shown_s_statements, RM_shown_s_far, RM_shown_s_queue, RM_shown_s_queued, RM_shown_s_parts1, RM_shown_s_parts2, RM_shown_s_picturesSum, RM_shown_s_behindAll, RM_shown_s_pl, RM_tape_s_shelf, RM_tape_s_rowSort, RM_tape_s_rowSize, RM_tape_s_rows, RM_tape_s_moved1, RM_tape_s_shown, RM_tape_s_tape, RM_tape_s_tapeSize, RM_tape_s_refused, RM_tape_s_bars, RM_tape_s_kind, RM_tape_s_size, RM_tape_s_on, RM_tape_s_stuck, RM_tape_s_must, RM_tape_s_not, RM_tape_s_minutes, RM_tape_s_movedAll, RM_tape_s_seed, RM_tape_s_at, RM_tape_s_token, RM_tape_s_from, RM_tape_s_figures, RM_tape_s_fault, RM_tape_s_told, RM_tape_s_statements, RM_tape_s_far, RM_tape_s_queue, RM_tape_s_queued, RM_tape_s_parts1, RM_tape_s_parts2, RM_tape_s_picturesSum, RM_tape_s_behindAll, RM_tape_s_pl, RM_tapeSize_s_shelf, RM_tapeSize_s_rowSort, RM_tapeSize_s_rowSize, RM_tapeSize_s_rows, RM_tapeSize_s_moved1, RM_tapeSize_s_shown, RM_tapeSize_s_tape, RM_tapeSize_s_tapeSize, RM_tapeSize_s_refused, RM_tapeSize_s_bars, RM_tapeSize_s_kind, RM_tapeSize_s_size, RM_tapeSize_s_on, RM_tapeSize_s_stuck, RM_tapeSize_s_must, RM_tapeSize_s_not, RM_tapeSize_s_minutes, RM_tapeSize_s_movedAll, RM_tapeSize_s_seed, RM_tapeSize_s_at, RM_tapeSize_s_token, RM_tapeSize_s_from, RM_tapeSize_s_figures, RM_tapeSize_s_fault, RM_tapeSize_s_told, RM_tapeSize_s_statements, RM_tapeSize_s_far, RM_tapeSize_s_queue, RM_tapeSize_s_queued, RM_tapeSize_s_parts1, RM_tapeSize_s_parts2, RM_tapeSize_s_picturesSum, RM_tapeSize_s_behindAll, RM_tapeSize_s_pl, RM_refused_s_shelf, RM_refused_s_rowSort, RM_refused_s_rowSize, RM_refused_s_rows, RM_refused_s_moved1, RM_refused_s_shown, RM_refused_s_tape, RM_refused_s_tapeSize, RM_refused_s_refused, RM_refused_s_bars, RM_refused_s_kind, RM_refused_s_size, RM_refused_s_on, RM_refused_s_stuck, RM_refused_s_must, RM_refused_s_not, RM_refused_s_minutes, RM_refused_s_movedAll, RM_refused_s_seed, RM_refused_s_at, RM_refused_s_token, RM_refused_s_from, RM_refused_s_figures, RM_refused_s_fault, RM_refused_s_told, RM_refused_s_statements, RM_refused_s_far, RM_refused_s_queue, RM_refused_s_queued, RM_refused_s_parts1, RM_refused_s_parts2, RM_refused_s_picturesSum, RM_refused_s_behindAll, RM_refused_s_pl, RM_bars_s_shelf, RM_bars_s_rowSort, RM_bars_s_rowSize, RM_bars_s_rows, RM_bars_s_moved1, RM_bars_s_shown, RM_bars_s_tape, RM_bars_s_tapeSize, RM_bars_s_refused, RM_bars_s_bars, RM_bars_s_kind, RM_bars_s_size, RM_bars_s_on, RM_bars_s_stuck, RM_bars_s_must, RM_bars_s_not, RM_bars_s_minutes, RM_bars_s_movedAll, RM_bars_s_seed, RM_bars_s_at, RM_bars_s_token, RM_bars_s_from, RM_bars_s_figures, RM_bars_s_fault, RM_bars_s_told, RM_bars_s_statements, RM_bars_s_far, RM_bars_s_queue, RM_bars_s_queued, RM_bars_s_parts1, RM_bars_s_parts2, RM_bars_s_picturesSum, RM_bars_s_behindAll, RM_bars_s_pl, RM_kind_s_shelf, RM_kind_s_rowSort, RM_kind_s_rowSize, RM_kind_s_rows, RM_kind_s_moved1, RM_kind_s_shown, RM_kind_s_tape, RM_kind_s_tapeSize, RM_kind_s_refused, RM_kind_s_bars, RM_kind_s_kind, RM_kind_s_size, RM_kind_s_on, RM_kind_s_stuck, RM_kind_s_must, RM_kind_s_not, RM_kind_s_minutes, RM_kind_s_movedAll, RM_kind_s_seed, RM_kind_s_at, RM_kind_s_token, RM_kind_s_from, RM_kind_s_figures, RM_kind_s_fault, RM_kind_s_told, RM_kind_s_statements, RM_kind_s_far, RM_kind_s_queue, RM_kind_s_queued, RM_kind_s_parts1, RM_kind_s_parts2, RM_kind_s_picturesSum, RM_kind_s_behindAll, RM_kind_s_pl, RM_size_s_shelf, RM_size_s_rowSort, RM_size_s_rowSize, RM_size_s_rows, RM_size_s_moved1, RM_size_s_shown, RM_size_s_tape, RM_size_s_tapeSize, RM_size_s_refused, RM_size_s_bars, RM_size_s_kind, RM_size_s_size, RM_size_s_on, RM_size_s_stuck, RM_size_s_must, RM_size_s_not, RM_size_s_minutes, RM_size_s_movedAll, RM_size_s_seed, RM_size_s_at, RM_size_s_token, RM_size_s_from, RM_size_s_figures, RM_size_s_fault, RM_size_s_told, RM_size_s_statements, RM_size_s_far, RM_size_s_queue, RM_size_s_queued, RM_size_s_parts1, RM_size_s_parts2, RM_size_s_picturesSum, RM_size_s_behindAll, RM_size_s_pl, RM_on_s_shelf, RM_on_s_rowSort, RM_on_s_rowSize, RM_on_s_rows, RM_on_s_moved1, RM_on_s_shown, RM_on_s_tape, RM_on_s_tapeSize, RM_on_s_refused, RM_on_s_bars, RM_on_s_kind, RM_on_s_size, RM_on_s_on, RM_on_s_stuck, RM_on_s_must, RM_on_s_not, RM_on_s_minutes, RM_on_s_movedAll, RM_on_s_seed, RM_on_s_at, RM_on_s_token, RM_on_s_from, RM_on_s_figures, RM_on_s_fault, RM_on_s_told, RM_on_s_statements, RM_on_s_far, RM_on_s_queue, RM_on_s_queued, RM_on_s_parts1, RM_on_s_parts2, RM_on_s_picturesSum, RM_on_s_behindAll, RM_on_s_pl, RM_stuck_s_shelf, RM_stuck_s_rowSort, RM_stuck_s_rowSize, RM_stuck_s_rows, RM_stuck_s_moved1, RM_stuck_s_shown, RM_stuck_s_tape, RM_stuck_s_tapeSize, RM_stuck_s_refused, RM_stuck_s_bars, RM_stuck_s_kind, RM_stuck_s_size, RM_stuck_s_on, RM_stuck_s_stuck, RM_stuck_s_must, RM_stuck_s_not, RM_stuck_s_minutes, RM_stuck_s_movedAll, RM_stuck_s_seed, RM_stuck_s_at, RM_stuck_s_token, RM_stuck_s_from, RM_stuck_s_figures, RM_stuck_s_fault, RM_stuck_s_told, RM_stuck_s_statements, RM_stuck_s_far, RM_stuck_s_queue, RM_stuck_s_queued, RM_stuck_s_parts1, RM_stuck_s_parts2, RM_stuck_s_picturesSum, RM_stuck_s_behindAll, RM_stuck_s_pl, RM_must_s_shelf, RM_must_s_rowSort, RM_must_s_rowSize, RM_must_s_rows, RM_must_s_moved1, RM_must_s_shown, RM_must_s_tape, RM_must_s_tapeSize, RM_must_s_refused, RM_must_s_bars, RM_must_s_kind, RM_must_s_size, RM_must_s_on, RM_must_s_stuck, RM_must_s_must, RM_must_s_not, RM_must_s_minutes, RM_must_s_movedAll, RM_must_s_seed, RM_must_s_at, RM_must_s_token, RM_must_s_from, RM_must_s_figures, RM_must_s_fault, RM_must_s_told, RM_must_s_statements, RM_must_s_far, RM_must_s_queue, RM_must_s_queued, RM_must_s_parts1, RM_must_s_parts2, RM_must_s_picturesSum, RM_must_s_behindAll, RM_must_s_pl, RM_not_s_shelf, RM_not_s_rowSort, RM_not_s_rowSize, RM_not_s_rows, RM_not_s_moved1, RM_not_s_shown, RM_not_s_tape, RM_not_s_tapeSize, RM_not_s_refused, RM_not_s_bars, RM_not_s_kind, RM_not_s_size, RM_not_s_on, RM_not_s_stuck, RM_not_s_must, RM_not_s_not, RM_not_s_minutes, RM_not_s_movedAll, RM_not_s_seed, RM_not_s_at, RM_not_s_token, RM_not_s_from, RM_not_s_figures, RM_not_s_fault, RM_not_s_told, RM_not_s_statements, RM_not_s_far, RM_not_s_queue, RM_not_s_queued, RM_not_s_parts1, RM_not_s_parts2, RM_not_s_picturesSum, RM_not_s_behindAll, RM_not_s_pl, RM_minutes_s_shelf, RM_minutes_s_rowSort, RM_minutes_s_rowSize, RM_minutes_s_rows, RM_minutes_s_moved1, RM_minutes_s_shown, RM_minutes_s_tape, RM_minutes_s_tapeSize, RM_minutes_s_refused, RM_minutes_s_bars, RM_minutes_s_kind, RM_minutes_s_size, RM_minutes_s_on, RM_minutes_s_stuck, RM_minutes_s_must, RM_minutes_s_not, RM_minutes_s_minutes, RM_minutes_s_movedAll, RM_minutes_s_seed, RM_minutes_s_at, RM_minutes_s_token, RM_minutes_s_from, RM_minutes_s_figures, RM_minutes_s_fault, RM_minutes_s_told, RM_minutes_s_statements, RM_minutes_s_far, RM_minutes_s_queue, RM_minutes_s_queued, RM_minutes_s_parts1, RM_minutes_s_parts2, RM_minutes_s_picturesSum, RM_minutes_s_behindAll, RM_minutes_s_pl, RM_movedAll_s_shelf, RM_movedAll_s_rowSort, RM_movedAll_s_rowSize, RM_movedAll_s_rows, RM_movedAll_s_moved1, RM_movedAll_s_shown, RM_movedAll_s_tape, RM_movedAll_s_tapeSize, RM_movedAll_s_refused, RM_movedAll_s_bars, RM_movedAll_s_kind, RM_movedAll_s_size, RM_movedAll_s_on, RM_movedAll_s_stuck, RM_movedAll_s_must, RM_movedAll_s_not, RM_movedAll_s_minutes, RM_movedAll_s_movedAll, RM_movedAll_s_seed, RM_movedAll_s_at, RM_movedAll_s_token, RM_movedAll_s_from, RM_movedAll_s_figures, RM_movedAll_s_fault, RM_movedAll_s_told, RM_movedAll_s_statements, RM_movedAll_s_far, RM_movedAll_s_queue, RM_movedAll_s_queued, RM_movedAll_s_parts1, RM_movedAll_s_parts2, RM_movedAll_s_picturesSum, RM_movedAll_s_behindAll, RM_movedAll_s_pl, RM_seed_s_shelf, RM_seed_s_rowSort, RM_seed_s_rowSize, RM_seed_s_rows, RM_seed_s_moved1, RM_seed_s_shown, RM_seed_s_tape, RM_seed_s_tapeSize, RM_seed_s_refused, RM_seed_s_bars, RM_seed_s_kind, RM_seed_s_size, RM_seed_s_on, RM_seed_s_stuck, RM_seed_s_must, RM_seed_s_not, RM_seed_s_minutes, RM_seed_s_movedAll, RM_seed_s_seed, RM_seed_s_at, RM_seed_s_token, RM_seed_s_from, RM_seed_s_figures, RM_seed_s_fault, RM_seed_s_told, RM_seed_s_statements, RM_seed_s_far, RM_seed_s_queue, RM_seed_s_queued, RM_seed_s_parts1, RM_seed_s_parts2, RM_seed_s_picturesSum, RM_seed_s_behindAll, RM_seed_s_pl, RM_at_s_shelf, RM_at_s_rowSort, RM_at_s_rowSize, RM_at_s_rows, RM_at_s_moved1, RM_at_s_shown, RM_at_s_tape, RM_at_s_tapeSize, RM_at_s_refused, RM_at_s_bars, RM_at_s_kind, RM_at_s_size, RM_at_s_on, RM_at_s_stuck, RM_at_s_must, RM_at_s_not, RM_at_s_minutes, RM_at_s_movedAll, RM_at_s_seed, RM_at_s_at, RM_at_s_token, RM_at_s_from, RM_at_s_figures, RM_at_s_fault, RM_at_s_told, RM_at_s_statements, RM_at_s_far, RM_at_s_queue, RM_at_s_queued, RM_at_s_parts1, RM_at_s_parts2, RM_at_s_picturesSum, RM_at_s_behindAll, RM_at_s_pl, RM_token_s_shelf, RM_token_s_rowSort, RM_token_s_rowSize, RM_token_s_rows, RM_token_s_moved1, RM_token_s_shown, RM_token_s_tape, RM_token_s_tapeSize, RM_token_s_refused, RM_token_s_bars, RM_token_s_kind, RM_token_s_size, RM_token_s_on, RM_token_s_stuck, RM_token_s_must, RM_token_s_not, RM_token_s_minutes, RM_token_s_movedAll, RM_token_s_seed, RM_token_s_at, RM_token_s_token, RM_token_s_from, RM_token_s_figures, RM_token_s_fault, RM_token_s_told, RM_token_s_statements, RM_token_s_far, RM_token_s_queue, RM_token_s_queued, RM_token_s_parts1, RM_token_s_parts2, RM_token_s_picturesSum, RM_token_s_behindAll, RM_token_s_pl, RM_from_s_shelf, RM_from_s_rowSort, RM_from_s_rowSize, RM_from_s_rows, RM_from_s_moved1, RM_from_s_shown, RM_from_s_tape, RM_from_s_tapeSize, RM_from_s_refused, RM_from_s_bars, RM_from_s_kind, RM_from_s_size, RM_from_s_on, RM_from_s_stuck, RM_from_s_must, RM_from_s_not, RM_from_s_minutes, RM_from_s_movedAll, RM_from_s_seed, RM_from_s_at, RM_from_s_token, RM_from_s_from, RM_from_s_figures, RM_from_s_fault, RM_from_s_told, RM_from_s_statements, RM_from_s_far, RM_from_s_queue, RM_from_s_queued, RM_from_s_parts1, RM_from_s_parts2, RM_from_s_picturesSum, RM_from_s_behindAll, RM_from_s_pl, RM_figures_s_shelf, RM_figures_s_rowSort, RM_figures_s_rowSize, RM_figures_s_rows, RM_figures_s_moved1, RM_figures_s_shown, RM_figures_s_tape, RM_figures_s_tapeSize, RM_figures_s_refused, RM_figures_s_bars, RM_figures_s_kind, RM_figures_s_size, RM_figures_s_on, RM_figures_s_stuck, RM_figures_s_must, RM_figures_s_not, RM_figures_s_minutes, RM_figures_s_movedAll, RM_figures_s_seed, RM_figures_s_at, RM_figures_s_token, RM_figures_s_from, RM_figures_s_figures, RM_figures_s_fault, RM_figures_s_told, RM_figures_s_statements, RM_figures_s_far, RM_figures_s_queue, RM_figures_s_queued, RM_figures_s_parts1, RM_figures_s_parts2, RM_figures_s_picturesSum, RM_figures_s_behindAll, RM_figures_s_pl, RM_fault_s_shelf, RM_fault_s_rowSort, RM_fault_s_rowSize, RM_fault_s_rows, RM_fault_s_moved1, RM_fault_s_shown, RM_fault_s_tape, RM_fault_s_tapeSize, RM_fault_s_refused, RM_fault_s_bars, RM_fault_s_kind, RM_fault_s_size, RM_fault_s_on, RM_fault_s_stuck, RM_fault_s_must, RM_fault_s_not, RM_fault_s_minutes, RM_fault_s_movedAll, RM_fault_s_seed, RM_fault_s_at, RM_fault_s_token, RM_fault_s_from, RM_fault_s_figures, RM_fault_s_fault, RM_fault_s_told, RM_fault_s_statements, RM_fault_s_far, RM_fault_s_queue, RM_fault_s_queued, RM_fault_s_parts1, RM_fault_s_parts2, RM_fault_s_picturesSum, RM_fault_s_behindAll, RM_fault_s_pl, RM_told_s_shelf, RM_told_s_rowSort, RM_told_s_rowSize, RM_told_s_rows, RM_told_s_moved1, RM_told_s_shown, RM_told_s_tape, RM_told_s_tapeSize, RM_told_s_refused, RM_told_s_bars, RM_told_s_kind, RM_told_s_size, RM_told_s_on, RM_told_s_stuck, RM_told_s_must, RM_told_s_not, RM_told_s_minutes, RM_told_s_movedAll, RM_told_s_seed, RM_told_s_at, RM_told_s_token, RM_told_s_from, RM_told_s_figures, RM_told_s_fault, RM_told_s_told, RM_told_s_statements, RM_told_s_far, RM_told_s_queue, RM_told_s_queued, RM_told_s_parts1, RM_told_s_parts2, RM_told_s_picturesSum, RM_told_s_behindAll, RM_told_s_pl, RM_statements_s_shelf, RM_statements_s_rowSort, RM_statements_s_rowSize, RM_statements_s_rows, RM_statements_s_moved1, RM_statements_s_shown, RM_statements_s_tape, RM_statements_s_tapeSize, RM_statements_s_refused, RM_statements_s_bars, RM_statements_s_kind, RM_statements_s_size, RM_statements_s_on, RM_statements_s_stuck, RM_statements_s_must, RM_statements_s_not, RM_statements_s_minutes, RM_statements_s_movedAll, RM_statements_s_seed, RM_statements_s_at, RM_statements_s_token, RM_statements_s_from, RM_statements_s_figures, RM_statements_s_fault, RM_statements_s_told, RM_statements_s_statements, RM_statements_s_far, RM_statements_s_queue, RM_statements_s_queued, RM_statements_s_parts1, RM_statements_s_parts2, RM_statements_s_picturesSum, RM_statements_s_behindAll, RM_statements_s_pl, RM_far_s_shelf, RM_far_s_rowSort, RM_far_s_rowSize, RM_far_s_rows, RM_far_s_moved1, RM_far_s_shown, RM_far_s_tape, RM_far_s_tapeSize, RM_far_s_refused, RM_far_s_bars, RM_far_s_kind, RM_far_s_size, RM_far_s_on, RM_far_s_stuck, RM_far_s_must, RM_far_s_not, RM_far_s_minutes, RM_far_s_movedAll, RM_far_s_seed, RM_far_s_at, RM_far_s_token, RM_far_s_from, RM_far_s_figures, RM_far_s_fault, RM_far_s_told, RM_far_s_statements, RM_far_s_far, RM_far_s_queue, RM_far_s_queued, RM_far_s_parts1, RM_far_s_parts2, RM_far_s_picturesSum, RM_far_s_behindAll, RM_far_s_pl, RM_queue_s_shelf, RM_queue_s_rowSort, RM_queue_s_rowSize, RM_queue_s_rows, RM_queue_s_moved1, RM_queue_s_shown, RM_queue_s_tape, RM_queue_s_tapeSize, RM_queue_s_refused, RM_queue_s_bars, RM_queue_s_kind, RM_queue_s_size, RM_queue_s_on, RM_queue_s_stuck, RM_queue_s_must, RM_queue_s_not, RM_queue_s_minutes, RM_queue_s_movedAll, RM_queue_s_seed, RM_queue_s_at, RM_queue_s_token, RM_queue_s_from, RM_queue_s_figures, RM_queue_s_fault, RM_queue_s_told, RM_queue_s_statements, RM_queue_s_far, RM_queue_s_queue, RM_queue_s_queued, RM_queue_s_parts1, RM_queue_s_parts2, RM_queue_s_picturesSum, RM_queue_s_behindAll, RM_queue_s_pl, RM_queued_s_shelf, RM_queued_s_rowSort, RM_queued_s_rowSize, RM_queued_s_rows, RM_queued_s_moved1, RM_queued_s_shown, RM_queued_s_tape, RM_queued_s_tapeSize, RM_queued_s_refused, RM_queued_s_bars, RM_queued_s_kind, RM_queued_s_size, RM_queued_s_on, RM_queued_s_stuck, RM_queued_s_must, RM_queued_s_not, RM_queued_s_minutes, RM_queued_s_movedAll, RM_queued_s_seed, RM_queued_s_at, RM_queued_s_token, RM_queued_s_from, RM_queued_s_figures, RM_queued_s_fault, RM_queued_s_told, RM_queued_s_statements, RM_queued_s_far, RM_queued_s_queue, RM_queued_s_queued, RM_queued_s_parts1, RM_queued_s_parts2, RM_queued_s_picturesSum, RM_queued_s_behindAll, RM_queued_s_pl, RM_parts1_s_shelf, RM_parts1_s_rowSort, RM_parts1_s_rowSize, RM_parts1_s_rows, RM_parts1_s_moved1, RM_parts1_s_shown, RM_parts1_s_tape, RM_parts1_s_tapeSize, RM_parts1_s_refused, RM_parts1_s_bars, RM_parts1_s_kind, RM_parts1_s_size, RM_parts1_s_on, RM_parts1_s_stuck, RM_parts1_s_must, RM_parts1_s_not, RM_parts1_s_minutes, RM_parts1_s_movedAll, RM_parts1_s_seed, RM_parts1_s_at, RM_parts1_s_token, RM_parts1_s_from, RM_parts1_s_figures, RM_parts1_s_fault, RM_parts1_s_told, RM_parts1_s_statements, RM_parts1_s_far, RM_parts1_s_queue, RM_parts1_s_queued, RM_parts1_s_parts1, RM_parts1_s_parts2, RM_parts1_s_picturesSum, RM_parts1_s_behindAll, RM_parts1_s_pl, RM_parts2_s_shelf, RM_parts2_s_rowSort, RM_parts2_s_rowSize, RM_parts2_s_rows, RM_parts2_s_moved1, RM_parts2_s_shown, RM_parts2_s_tape, RM_parts2_s_tapeSize, RM_parts2_s_refused, RM_parts2_s_bars, RM_parts2_s_kind, RM_parts2_s_size, RM_parts2_s_on, RM_parts2_s_stuck, RM_parts2_s_must, RM_parts2_s_not, RM_parts2_s_minutes, RM_parts2_s_movedAll, RM_parts2_s_seed, RM_parts2_s_at, RM_parts2_s_token, RM_parts2_s_from, RM_parts2_s_figures, RM_parts2_s_fault, RM_parts2_s_told, RM_parts2_s_statements, RM_parts2_s_far, RM_parts2_s_queue, RM_parts2_s_queued, RM_parts2_s_parts1, RM_parts2_s_parts2, RM_parts2_s_picturesSum, RM_parts2_s_behindAll, RM_parts2_s_pl, RM_picturesSum_s_shelf, RM_picturesSum_s_rowSort, RM_picturesSum_s_rowSize, RM_picturesSum_s_rows, RM_picturesSum_s_moved1, RM_picturesSum_s_shown, RM_picturesSum_s_tape, RM_picturesSum_s_tapeSize, RM_picturesSum_s_refused, RM_picturesSum_s_bars, RM_picturesSum_s_kind, RM_picturesSum_s_size, RM_picturesSum_s_on, RM_picturesSum_s_stuck, RM_picturesSum_s_must, RM_picturesSum_s_not, RM_picturesSum_s_minutes, RM_picturesSum_s_movedAll, RM_picturesSum_s_seed, RM_picturesSum_s_at, RM_picturesSum_s_token, RM_picturesSum_s_from, RM_picturesSum_s_figures, RM_picturesSum_s_fault, RM_picturesSum_s_told, RM_picturesSum_s_statements, RM_picturesSum_s_far, RM_picturesSum_s_queue, RM_picturesSum_s_queued, RM_picturesSum_s_parts1, RM_picturesSum_s_parts2, RM_picturesSum_s_picturesSum, RM_picturesSum_s_behindAll, RM_picturesSum_s_pl, RM_behindAll_s_shelf, RM_behindAll_s_rowSort, RM_behindAll_s_rowSize, RM_behindAll_s_rows, RM_behindAll_s_moved1, RM_behindAll_s_shown, RM_behindAll_s_tape, RM_behindAll_s_tapeSize, RM_behindAll_s_refused, RM_behindAll_s_bars, RM_behindAll_s_kind, RM_behindAll_s_size, RM_behindAll_s_on, RM_behindAll_s_stuck, RM_behindAll_s_must, RM_behindAll_s_not, RM_behindAll_s_minutes, RM_behindAll_s_movedAll, RM_behindAll_s_seed, RM_behindAll_s_at, RM_behindAll_s_token, RM_behindAll_s_from, RM_behindAll_s_figures, RM_behindAll_s_fault, RM_behindAll_s_told, RM_behindAll_s_statements, RM_behindAll_s_far, RM_behindAll_s_queue, RM_behindAll_s_queued, RM_behindAll_s_parts1, RM_behindAll_s_parts2, RM_behindAll_s_picturesSum, RM_behindAll_s_behindAll, RM_behindAll_s_pl, RM_pl_s_shelf, RM_pl_s_rowSort, RM_pl_s_rowSize, RM_pl_s_rows, RM_pl_s_moved1, RM_pl_s_shown, RM_pl_s_tape, RM_pl_s_tapeSize, RM_pl_s_refused, RM_pl_s_bars, RM_pl_s_kind, RM_pl_s_size, RM_pl_s_on, RM_pl_s_stuck, RM_pl_s_must, RM_pl_s_not, RM_pl_s_minutes, RM_pl_s_movedAll, RM_pl_s_seed, RM_pl_s_at, RM_pl_s_token, RM_pl_s_from, RM_pl_s_figures, RM_pl_s_fault, RM_pl_s_told, RM_pl_s_statements, RM_pl_s_far, RM_pl_s_queue, RM_pl_s_queued, RM_pl_s_parts1, RM_pl_s_parts2, RM_pl_s_picturesSum, RM_pl_s_behindAll, RM_pl_s_pl, and_self]
theorem R_make {N : Nat} {rm : RM} {a : AE} {b m : Nat} (h : RmA rm a) (ok : OkA a) (hb : b < aN a) (hm : m ≤ 20) : ∃ rm', M_X6_makes N rm (nI b) (nI m) = some rm' ∧ RmA rm' (aMv a b m) ∧ NE rm rm' := by
  have hn := ok.1
  obtain ⟨R, r0, r1, r2, r3, r4, r5, r6, r7, r8, r9, r10, r11⟩ := mv_acc rm (upd (RM_on rm) b (nI (aO a b ^^^ mk m))) (RM_movedAll rm + 1)
  refine ⟨R, ?_, ?_, r11⟩
  · unfold M_X6_makes
    rw [if_neg (E_in ok hb), M_mask hm, Option.bind_some, if_neg (E_in ok hb), E_cl ok hb, (h.2.1 b (by omega)).2.2.1, fb_xorI, RM_movedAll_s_on, ← r0]
  · unfold RmA
    rw [r1, r2, r3, r4, r5, r6, r7, r8, r9, r10]
    refine ⟨h.1, fun i hi => ?_, h.2.2.1, ?_, h.2.2.2.2⟩
    · have g := h.2.1 i hi
      exact ⟨g.1, g.2.1, upd_nI g.2.2.1, g.2.2.2⟩
    · show RM_movedAll rm + 1 = aV a + 1
      rw [h.2.2.2.1]
theorem pS_move : S_move INV := by
  intro ro nw kp dr sh tp lw se rm K T hI p1 p2
  obtain ⟨a, h1, h2, h3, h4, h5, h6, h7, h8⟩ := id hI
  have hn := h3.1
  have bad (e1 : M_X0_hasMove NN nw p1 p2 = some 0) (e2 : M_X6_isBar NN rm p1 = some 0 ∨ (M_X6_isBar NN rm p1 = some 1 ∧ M_X6_isMove NN rm p1 p2 = some 0)) : ∃ o1, M_X5_move NN ro nw lw p1 p2 = some o1 ∧ ∃ o2, M_X6_move NN rm p1 p2 = some o2 ∧ o1.1 = o2.1 ∧ INV o1.2.1 o1.2.2.1 kp dr sh tp o1.2.2.2 se o2.2 K T := by
    refine ⟨(-2, xRf ro 0, nw, lw), ?_, (-2, mRf rm 0), ?_, rfl, hI.rf 0⟩
    · unfold M_X5_move
      rw [e1, Option.bind_some, if_neg (by decide), xRf_ok.1]
      rfl
    · have ej : M_X6_move_j17 NN p1 p2 rm = some (-2, mRf rm 0) := by
        unfold M_X6_move_j17
        rw [mRf_ok.1]
        rfl
      unfold M_X6_move
      rw [ej]
      rcases e2 with e2 | ⟨e2, e3⟩
      · rw [e2]; rfl
      · rw [e2, Option.bind_some, if_neg (by decide), e3]; rfl
  by_cases hb : vB a p1
  · by_cases hq : 0 ≤ p2.toInt
    · obtain ⟨b, hb, rfl⟩ := hb
      obtain ⟨m, hm, rfl⟩ := of_int hq
      have ho := (h3.2 b hb).2.2.2.1
      cases v : mvb (aL a b) m
      · exact bad (by rw [E_move h1 h3 hb hm, v]; rfl) (Or.inr ⟨R_bar h2 h3 hb, by rw [R_move h2 h3 hb hm, v]; rfl⟩)
      · have hm20 := mvb_20 (q := aL a b) (h3.2 b hb).2.2.1 v
        obtain ⟨lw', c1⟩ := C_legalNow (ro := ro) h1 h3 hb lw
        have hb4 : b < 4 := by omega
        have ok' : OkA (aMv a b m) := aMv_ok h3 hb v
        unfold M_X5_move M_X6_move
        rw [E_move h1 h3 hb hm, v, Option.bind_some, if_pos (show ¬ oB true = 0 by decide), c1, Option.bind_some, C_hasBit hm20.1, Option.bind_some, R_bar h2 h3 hb, Option.bind_some, if_neg n10, R_move h2 h3 hb hm, v, Option.bind_some, if_pos (show ¬ oB true = 0 by decide), if_neg (E_in h3 hb), E_cl h3 hb, (h2.2.1 b hb4).2.2.1, R_may h2 h3 hb ho hm, Option.bind_some]
        cases lgl (aL a b) (aO a b) m
        · rw [if_neg (show ¬ ¬ oB false = 0 by decide), if_neg (show ¬ ¬ oB false = 0 by decide), xRf_ok.2.2.2.1, mRf_ok.2.2.2.1]
          exact ⟨_, rfl, _, rfl, rfl, hI.rf 3⟩
        · obtain ⟨nw', d1, d2⟩ := C_make (N := NN) h1 h3 hb hm20.2
          obtain ⟨rm', r1, r2, r3⟩ := R_make (N := NN) h2 h3 hb hm20.1
          rw [if_pos (show ¬ oB true = 0 by decide), if_pos (show ¬ oB true = 0 by decide), d1, Option.bind_some, E_on d2 ok' hb, r1, Option.bind_some, Option.bind_some, if_neg (E_ix h3 hb), (r2.2.1 b hb4).2.2.1]
          exact ⟨_, rfl, _, rfl, rfl, aMv a b m, d2, r2, ok', h4.ne r3 (Nat.le_refl _), h5.ne r3, h6.ne r3, h7, h8.ne r3⟩
    · obtain ⟨b, hb, rfl⟩ := hb
      exact bad (E_moveN h1 h3 (Or.inr (by omega))) (Or.inr ⟨R_bar h2 h3 hb, R_moveN h2 h3 hb (by omega)⟩)
  · exact bad (E_moveN h1 h3 (Or.inl hb)) (Or.inl (R_nobar h2 h3 hb))
/-! gray -/
def gx : Nat → Nat → Nat
  | 0, _ => 0
  | n + 1, v => gx n v ^^^ (v >>> n)
theorem gx_shift (n k v : Nat) : gx n v >>> k = gx n (v >>> k) := by
  induction n with
  | zero => exact Nat.zero_shiftRight k
  | succ n ih => rw [gx, gx, Nat.shiftRight_xor_distrib, ih, ← Nat.shiftRight_add, ← Nat.shiftRight_add, Nat.add_comm]
theorem gx_add (m v : Nat) : ∀ n, gx (m + n) v = gx m v ^^^ gx n (v >>> m)
  | 0 => (Nat.xor_zero _).symm
  | n + 1 => by
    show gx (m + n) v ^^^ (v >>> (m + n)) = gx m v ^^^ (gx n (v >>> m) ^^^ ((v >>> m) >>> n))
    rw [gx_add m v n, Nat.xor_assoc, Nat.shiftRight_add]
theorem gx_dbl (n v : Nat) : gx n v ^^^ (gx n v >>> n) = gx (n + n) v := by rw [gx_add, gx_shift]
theorem gx_z (n : Nat) : gx n 0 = 0 := by
  induction n with
  | zero => rfl
  | succ n ih => rw [gx, ih, Nat.zero_shiftRight]; rfl
theorem gx_end {k v : Nat} (h : v >>> k = 0) {n : Nat} (hn : k ≤ n) : gx n v = gx k v := by
  rw [show n = k + (n - k) by omega, gx_add, h, gx_z, Nat.xor_zero]
theorem gx_lt {n v k : Nat} (h : v < 2 ^ k) : gx n v < 2 ^ k := by
  induction n with
  | zero => exact Nat.two_pow_pos k
  | succ n ih => exact Nat.xor_lt_two_pow ih (Nat.lt_of_le_of_lt (Nat.shiftRight_le v n) h)
theorem lN_ush {n k : Nat} (hn : n < 2 ^ 62) (hk : k < 64) : jlushr (lN n) (nI k) = lN (n >>> k) := by
  unfold jlushr
  have h : ∀ k, k < 64 → ((nI k).toInt64.toUInt64 &&& Int64.toUInt64 63).toNat % 64 = k := by decide +kernel
  rw [pf_ushr (h k hk) hn, Nat.shiftRight_eq_div_pow]
theorem lN_shr1 {n : Nat} (hn : n < 2 ^ 62) : jlshr (lN n) 1 = lN (n >>> 1) := by
  unfold jlshr
  rw [pf_shr (d := 1) (by decide +kernel) hn, Nat.shiftRight_eq_div_pow]
theorem lN_shr60 {n : Nat} (hn : n < 2 ^ 62) : jlshr (lN n) 60 = lN (n >>> 60) := by
  unfold jlshr
  rw [pf_shr (d := 60) (by decide +kernel) hn, Nat.shiftRight_eq_div_pow]
theorem C_gray {v : Nat} (h : v < 2 ^ 60) : M_X5_grayPlace NN (lN v) = some (lN (gx 64 v)) := by
  unfold M_X5_grayPlace
  have st : ∀ k, k < 64 → ∀ rec : (Int64 × Int32) → Option Int64, M_X5_grayPlace_l5 NN (lN v) rec (lN (gx k v), nI k) = rec (lN (gx (k + k) v), nI (k * 2)) := by
    intro k hk rec
    have hg : gx k v < 2 ^ 60 := gx_lt h
    unfold M_X5_grayPlace_l5
    simp only []
    rw [if_neg (by rw [q_ge_64 (by omega)]; omega), lN_ush (by omega) hk, fb_xorL, gx_dbl, show (2 : Int32) = nI 2 from rfl, pk_mul]
  have e0 : ((lN v, 1) : Int64 × Int32) = (lN (gx 1 v), nI 1) := by
    show ((lN v, 1) : Int64 × Int32) = (lN (0 ^^^ (v >>> 0)), nI 1)
    rw [Nat.zero_xor, Nat.shiftRight_zero]
    rfl
  have := lp_for (body := M_X5_grayPlace_l5 NN (lN v)) (r := some (lN (gx 64 v))) (N := NN) (fun i => (lN (gx (2 ^ i) v), nI (2 ^ i))) 6 (fun i hi rec => by
    have hp : 2 ^ i < 64 := by
      have : 2 ^ i < 2 ^ 6 := Nat.pow_lt_pow_right (by omega) hi
      omega
    show M_X5_grayPlace_l5 NN (lN v) rec (lN (gx (2 ^ i) v), nI (2 ^ i)) = rec (lN (gx (2 ^ (i + 1)) v), nI (2 ^ (i + 1)))
    rw [st _ hp, show 2 ^ (i + 1) = 2 ^ i * 2 from Nat.pow_succ .., ← Nat.two_mul, Nat.mul_comm 2 (2 ^ i)]) (fun rec => rfl) (by decide)
  rw [e0]
  exact this
theorem lN_z {n : Nat} (h : n < 2 ^ 63) : lg_cmp (lN n) 0 = 0 ↔ n = 0 := by
  rw [lg_cmp_eq, show (0 : Int64) = lN 0 from rfl, fb_lN_inj h (by omega)]
theorem R_gray {v : Nat} (h : v < 2 ^ 60) : M_X6_placeOf NN (lN v) = some (lN (gx 64 v)) := by
  unfold M_X6_placeOf
  obtain ⟨r, rfl, h3⟩ := lp_inv (body := M_X6_placeOf_l5 NN (lN v)) (N := NN) (P := fun i Z => Z = (lN (gx i v), lN (v >>> i)) ∧ i ≤ 60) (Qr := fun r => r = lN (gx 64 v)) 60
    (fun i Z hi hP => by
      obtain ⟨rfl, -⟩ := hP
      have hv : v >>> i < 2 ^ 60 := Nat.lt_of_le_of_lt (Nat.shiftRight_le v i) h
      by_cases e : v >>> i = 0
      · refine Or.inr ⟨_, rfl, fun rec => ?_⟩
        unfold M_X6_placeOf_l5
        simp only []
        rw [if_pos ((lN_z (by omega)).mpr e), gx_end e (n := 64) (by omega)]
      · refine Or.inl ⟨_, ⟨rfl, by omega⟩, fun rec => ?_⟩
        unfold M_X6_placeOf_l5
        simp only []
        rw [if_neg (fun z => e ((lN_z (by omega)).mp z)), fb_xorL, lN_shr1 (by omega), ← Nat.shiftRight_add]
        rfl)
    (fun Z hP => by
      obtain ⟨rfl, -⟩ := hP
      have e : v >>> 60 = 0 := by rw [Nat.shiftRight_eq_div_pow]; exact Nat.div_eq_of_lt h
      refine ⟨_, rfl, fun rec => ?_⟩
      unfold M_X6_placeOf_l5
      simp only []
      rw [e, if_pos (by decide), gx_end e (n := 64) (by omega)])
    (by decide) (z := (0, lN v)) ⟨rfl, by omega⟩
  exact h3
theorem of_intL {p : Int64} {n : Nat} (h : 0 ≤ p.toInt) (h2 : p.toInt < n) (hn : n ≤ 2 ^ 63) : ∃ v, v < n ∧ p = lN v := by
  refine ⟨p.toInt.toNat, by omega, ?_⟩
  apply Int64.toInt_inj.mp
  rw [pk_lT (by omega)]
  omega
theorem ge60 {p : Int64} (h : 0 ≤ p.toInt) : lg_cmp (jlshr p 60) 0 = 0 ↔ p.toInt < 1152921504606846976 := by
  have hp := p.toInt_lt
  rw [lg_cmp_eq]
  unfold jlshr
  have e : (p >>> ((60 : Int32).toInt64 &&& 63)).toInt = p.toInt >>> 60 := by
    have : (((60 : Int32).toInt64 &&& 63).toBitVec.smod 64).toNat = 60 := by decide +kernel
    rw [← this]
    exact BitVec.toInt_sshiftRight ..
  rw [← Int64.toInt_inj, e, show (0 : Int64).toInt = 0 from rfl, Int.shiftRight_eq_div_pow]
  omega
theorem pS_place : S_place INV := by
  intro ro nw kp dr sh tp lw se rm K T hI p1
  have ej : M_X5_place_j14 NN p1 ro = some ((-2 : Int32).toInt64, xRf ro 0) := by
    unfold M_X5_place_j14
    rw [xRf_ok.1]
    rfl
  have ej2 : M_X6_place_j22 NN p1 rm = some ((-2 : Int32).toInt64, mRf rm 0) := by
    unfold M_X6_place_j22
    rw [mRf_ok.1]
    rfl
  have cc : lg_cmp p1 1152921504606846976 < 0 ↔ p1.toInt < 1152921504606846976 := by
    rw [cmp_lt, show (1152921504606846976 : Int64).toInt = 1152921504606846976 from by decide +kernel]
  have c0 : lg_cmp p1 0 < 0 ↔ p1.toInt < 0 := cmp_lt
  unfold M_X5_place M_X6_place
  rw [ej, ej2]
  by_cases h0 : p1.toInt < 0
  · rw [if_pos (c0.mpr h0), if_pos (c0.mpr h0)]
    exact ⟨_, rfl, _, rfl, rfl, hI.rf 0⟩
  · rw [if_neg (fun z => h0 (c0.mp z)), if_neg (fun z => h0 (c0.mp z))]
    by_cases h1 : p1.toInt < 1152921504606846976
    · rw [if_pos (cc.mpr h1), if_neg (not_not_intro ((ge60 (by omega)).mpr h1))]
      obtain ⟨v, hv, rfl⟩ := of_intL (p := p1) (n := 2 ^ 60) (by omega) (by omega) (by omega)
      rw [C_gray hv, R_gray hv]
      exact ⟨_, rfl, _, rfl, rfl, hI⟩
    · rw [if_neg (fun z => h1 (cc.mp z)), if_pos (fun z => h1 ((ge60 (by omega)).mp z))]
      exact ⟨_, rfl, _, rfl, rfl, hI.rf 0⟩
theorem pS_setOf : S_setOf INV := by
  intro ro nw kp dr sh tp lw se rm K T hI p1
  have ej : M_X5_setOf_j14 NN p1 ro = some ((-2 : Int32).toInt64, xRf ro 0) := by
    unfold M_X5_setOf_j14
    rw [xRf_ok.1]
    rfl
  have ej2 : M_X6_setOf_j23 NN p1 rm = some ((-2 : Int32).toInt64, mRf rm 0) := by
    unfold M_X6_setOf_j23
    rw [mRf_ok.1]
    rfl
  have cc : lg_cmp p1 1152921504606846976 < 0 ↔ p1.toInt < 1152921504606846976 := by
    rw [cmp_lt, show (1152921504606846976 : Int64).toInt = 1152921504606846976 from by decide +kernel]
  have c0 : lg_cmp p1 0 < 0 ↔ p1.toInt < 0 := cmp_lt
  unfold M_X5_setOf M_X6_setOf
  rw [ej, ej2]
  by_cases h0 : p1.toInt < 0
  · rw [if_pos (c0.mpr h0), if_pos (c0.mpr h0)]
    exact ⟨_, rfl, _, rfl, rfl, hI.rf 0⟩
  · rw [if_neg (fun z => h0 (c0.mp z)), if_neg (fun z => h0 (c0.mp z))]
    by_cases h1 : p1.toInt < 1152921504606846976
    · rw [if_pos (cc.mpr h1), if_neg (not_not_intro ((ge60 (by omega)).mpr h1))]
      exact ⟨_, rfl, _, rfl, rfl, hI⟩
    · rw [if_neg (fun z => h1 (cc.mp z)), if_pos (fun z => h1 ((ge60 (by omega)).mp z))]
      exact ⟨_, rfl, _, rfl, rfl, hI.rf 0⟩
theorem pS_luck : S_luck INV := by
  intro ro nw kp dr sh tp lw se rm K T hI p1
  obtain ⟨a, h1, h2, h3, h4, h5, h6, h7, h8⟩ := id hI
  have hn := h3.1
  have ej : M_X5_luck_j41 NN nw p1 ro = some (-5, xRf ro 3) := by
    unfold M_X5_luck_j41
    rw [xRf_ok.2.2.2.1]
    rfl
  have ej2 : M_X6_luck_j34 NN p1 rm = some (-5, mRf rm 3) := by
    unfold M_X6_luck_j34
    rw [mRf_ok.2.2.2.1]
    rfl
  unfold M_X5_luck M_X6_luck
  rw [ej, ej2]
  by_cases hb : vB a p1
  · obtain ⟨b, hb, rfl⟩ := hb
    obtain ⟨g1, g2, g3, g4, -⟩ := h2.2.1 b (by omega)
    obtain ⟨o1, o2, o3, o4, o5, -⟩ := h3.2 b hb
    have hp := p10 o3
    simp only [E_cl h3 hb, if_neg (E_ix h3 hb), g1, g3, g4]
    rw [E_bar h1 h3 hb, Option.bind_some, if_pos n10, E_kind h1 h3 hb, Option.bind_some, R_bar h2 h3 hb, Option.bind_some, if_pos n10]
    by_cases e : nI (aK a b) = (1 : Int32)
    · rw [if_neg (not_not_intro e), if_neg (not_not_intro e), E_stuck h1 h3 hb, Option.bind_some]
      by_cases e2 : nI (aT a b) = (0 : Int32)
      · rw [if_pos e2, if_pos e2, E_on h1 h3 hb, Option.bind_some, E_size h1 h3 hb, nI_l (by omega), C_gray (by omega), R_gray (by omega), R_all h2 h3 hb, Option.bind_some, Option.bind_some, Option.bind_some, Option.bind_some, sh_1 (by omega)]
        exact ⟨_, rfl, _, rfl, rfl, hI⟩
      · rw [if_neg e2, if_neg e2]
        exact ⟨_, rfl, _, rfl, rfl, hI.rf 3⟩
    · rw [if_pos e, if_pos e]
      exact ⟨_, rfl, _, rfl, rfl, hI.rf 3⟩
  · rw [E_nobar h1 h3 hb, R_nobar h2 h3 hb, Option.bind_some, Option.bind_some, if_neg (by decide), if_neg (by decide), xRf_ok.1, mRf_ok.1]
    exact ⟨_, rfl, _, rfl, rfl, hI.rf 0⟩
def su (f : Nat → Int32) : Nat → Int32
  | 0 => 0
  | n + 1 => su f n + f n
theorem pS_status : S_status INV := by
  intro ro nw kp dr sh tp lw se rm K T hI p1
  obtain ⟨a, h1, h2, h3, h4, ⟨z, t1, t2, t3, t4⟩, h6, h7, h8⟩ := id hI
  have hn := h3.1
  have lo : ∀ b, b < aN a → aO a b < 1024 ∧ aT a b < 1024 := fun b hb => by
    obtain ⟨o1, o2, o3, o4, o5, -⟩ := h3.2 b hb
    have := p10 o3
    omega
  have c1 : M_X0_ringsOn NN nw = some (nI (fb_sm (fun b => pc (aO a b)) (aN a))) := by
    unfold M_X0_ringsOn
    refine lp_for (fun i => (nI (fb_sm (fun b => pc (aO a b)) i), nI i)) (aN a) (fun i hi rec => ?_) (fun rec => ?_) (by show aN a < 5000; omega)
    · show M_X0_ringsOn_l4 NN nw rec (nI (fb_sm (fun b => pc (aO a b)) i), nI i) = _
      unfold M_X0_ringsOn_l4
      simp only []
      rw [h1.1, if_neg (by rw [nI_leI (by omega) (by omega)]; omega), E_on h1 h3 hi, Option.bind_some, B_cnt _ (lo i hi).1, Option.bind_some, nI_add, nI_1, fb_sm_succ]
    · show M_X0_ringsOn_l4 NN nw rec (nI (fb_sm (fun b => pc (aO a b)) (aN a)), nI (aN a)) = _
      unfold M_X0_ringsOn_l4
      simp only []
      rw [h1.1, if_pos (by rw [nI_leI (by omega) (by omega)]; exact Nat.le_refl _)]
  have r1 : lp (M_X6_status_l55 NN rm p1) NN (0, 0) = some (nI (fb_sm (fun b => pc (aO a b)) (aN a))) := by
    refine lp_for (fun i => (nI (fb_sm (fun b => pc (aO a b)) i), nI i)) (aN a) (fun i hi rec => ?_) (fun rec => ?_) (by show aN a < 5000; omega)
    · show M_X6_status_l55 NN rm p1 rec (nI (fb_sm (fun b => pc (aO a b)) i), nI i) = _
      unfold M_X6_status_l55
      simp only []
      rw [h2.1, if_neg (by rw [nI_leI (by omega) (by omega)]; omega), if_neg (E_in h3 hi), E_cl h3 hi, (h2.2.1 i (by omega)).2.2.1, B_bits _ (lo i hi).1, Option.bind_some, nI_add, nI_1, fb_sm_succ]
    · show M_X6_status_l55 NN rm p1 rec (nI (fb_sm (fun b => pc (aO a b)) (aN a)), nI (aN a)) = _
      unfold M_X6_status_l55
      simp only []
      rw [h2.1, if_pos (by rw [nI_leI (by omega) (by omega)]; exact Nat.le_refl _)]
  have c2 : M_X0_ringsStuck NN nw = some (nI (fb_sm (fun b => pc (aT a b)) (aN a))) := by
    unfold M_X0_ringsStuck
    refine lp_for (fun i => (nI (fb_sm (fun b => pc (aT a b)) i), nI i)) (aN a) (fun i hi rec => ?_) (fun rec => ?_) (by show aN a < 5000; omega)
    · show M_X0_ringsStuck_l4 NN nw rec (nI (fb_sm (fun b => pc (aT a b)) i), nI i) = _
      unfold M_X0_ringsStuck_l4
      simp only []
      rw [h1.1, if_neg (by rw [nI_leI (by omega) (by omega)]; omega), E_stuck h1 h3 hi, Option.bind_some, B_cnt _ (lo i hi).2, Option.bind_some, nI_add, nI_1, fb_sm_succ]
    · show M_X0_ringsStuck_l4 NN nw rec (nI (fb_sm (fun b => pc (aT a b)) (aN a)), nI (aN a)) = _
      unfold M_X0_ringsStuck_l4
      simp only []
      rw [h1.1, if_pos (by rw [nI_leI (by omega) (by omega)]; exact Nat.le_refl _)]
  have r2 : lp (M_X6_status_l85 NN rm p1) NN (0, 0) = some (nI (fb_sm (fun b => pc (aT a b)) (aN a))) := by
    refine lp_for (fun i => (nI (fb_sm (fun b => pc (aT a b)) i), nI i)) (aN a) (fun i hi rec => ?_) (fun rec => ?_) (by show aN a < 5000; omega)
    · show M_X6_status_l85 NN rm p1 rec (nI (fb_sm (fun b => pc (aT a b)) i), nI i) = _
      unfold M_X6_status_l85
      simp only []
      rw [h2.1, if_neg (by rw [nI_leI (by omega) (by omega)]; omega), if_neg (E_in h3 hi), E_cl h3 hi, (h2.2.1 i (by omega)).2.2.2.1, B_bits _ (lo i hi).2, Option.bind_some, nI_add, nI_1, fb_sm_succ]
    · show M_X6_status_l85 NN rm p1 rec (nI (fb_sm (fun b => pc (aT a b)) (aN a)), nI (aN a)) = _
      unfold M_X6_status_l85
      simp only []
      rw [h2.1, if_pos (by rw [nI_leI (by omega) (by omega)]; exact Nat.le_refl _)]
  have c3 : M_X0_allMinutes NN nw = some (su (aU a) 10) := by
    unfold M_X0_allMinutes
    refine lp_for (fun i => (su (aU a) i, nI i)) 10 (fun i hi rec => ?_) (fun rec => rfl) (by decide)
    show M_X0_allMinutes_l4 NN nw rec (su (aU a) i, nI i) = _
    unfold M_X0_allMinutes_l4
    simp only []
    rw [if_neg (by rw [q_ge_10 (by omega)]; omega), if_neg (nI_in (by omega) (by omega)), nI_clamp (by omega), h1.2.2.1 i hi, nI_1]
    rfl
  have r3 : lp (M_X6_status_l120 NN rm p1) NN (0, 0) = some (su (aU a) 10) := by
    refine lp_for (fun i => (su (aU a) i, nI i)) 10 (fun i hi rec => ?_) (fun rec => rfl) (by decide)
    show M_X6_status_l120 NN rm p1 rec (su (aU a) i, nI i) = _
    unfold M_X6_status_l120
    simp only []
    rw [if_neg (by rw [q_ge_10 (by omega)]; omega), if_neg (nI_in (by omega) (by omega)), nI_clamp (by omega), h2.2.2.1 i hi, nI_1]
    rfl
  have fr : ∀ i, i < 8 → M_X3_isFree NN sh (nI i) = some (oB (decide (RM_shelf rm i = 0))) := fun i hi => by
    rcases sh_cases h4 hi with g | ⟨k, z, g⟩ | ⟨b, g⟩
    · rw [S_freeF hi g, g.1]; rfl
    · rw [S_freeR hi g, g.1]; rfl
    · rw [S_freeB hi g hn, g.1]; rfl
  have c4 : M_X3_countHeld NN sh = some (nI (fb_ct (fun i => !decide (RM_shelf rm i = 0)) 8)) := by
    unfold M_X3_countHeld
    refine lp_for (fun i => (nI (fb_ct (fun i => !decide (RM_shelf rm i = 0)) i), nI i)) 8 (fun i hi rec => ?_) (fun rec => rfl) (by decide)
    show M_X3_countHeld_l4 NN sh rec (nI (fb_ct (fun i => !decide (RM_shelf rm i = 0)) i), nI i) = _
    unfold M_X3_countHeld_l4 M_X3_countHeld_j21
    simp only []
    rw [if_neg (by rw [q_ge_8 (by omega)]; omega), fr i hi, Option.bind_some, fb_ct_succ, nI_1, nI_1]
    cases decide (RM_shelf rm i = 0)
    · rfl
    · rfl
  have r4 : lp (M_X6_status_l155 NN rm p1) NN (0, 0) = some (nI (fb_ct (fun i => !decide (RM_shelf rm i = 0)) 8)) := by
    refine lp_for (fun i => (nI (fb_ct (fun i => !decide (RM_shelf rm i = 0)) i), nI i)) 8 (fun i hi rec => ?_) (fun rec => rfl) (by decide)
    show M_X6_status_l155 NN rm p1 rec (nI (fb_ct (fun i => !decide (RM_shelf rm i = 0)) i), nI i) = _
    unfold M_X6_status_l155 M_X6_status_j176
    simp only []
    rw [if_neg (by rw [q_ge_8 (by omega)]; omega), if_neg (S_in hi), S_cl hi, fb_ct_succ, nI_1]
    by_cases e : RM_shelf rm i = 0
    · rw [if_pos e, decide_eq_true e]
      show rec (nI _ + nI 0, _) = _
      rw [nI_add]
      rfl
    · rw [if_neg e, decide_eq_false e]
      show rec (nI _ + nI 1, _) = _
      rw [nI_add]
      rfl
  unfold M_X5_status M_X6_status
  rw [c1, r1, c2, r2, c3, r3, c4, r4, h1.1, h2.1, h1.2.2.2.1, h2.2.2.2.1, t2, t3, h1.2.2.2.2, h2.2.2.2.2]
  by_cases g0 : p1 = 0
  · rw [if_pos g0, if_pos g0]; exact ⟨_, rfl, _, rfl, rfl, hI⟩
  · by_cases g1 : p1 = 1
    · rw [if_neg g0, if_neg g0, if_pos g1, if_pos g1]; exact ⟨_, rfl, _, rfl, rfl, hI⟩
    · by_cases g2 : p1 = 2
      · rw [if_neg g0, if_neg g0, if_neg g1, if_neg g1, if_pos g2, if_pos g2]; exact ⟨_, rfl, _, rfl, rfl, hI⟩
      · by_cases g3 : p1 = 3
        · rw [if_neg g0, if_neg g0, if_neg g1, if_neg g1, if_neg g2, if_neg g2, if_pos g3, if_pos g3]; exact ⟨_, rfl, _, rfl, rfl, hI⟩
        · by_cases g4 : p1 = 4
          · rw [if_neg g0, if_neg g0, if_neg g1, if_neg g1, if_neg g2, if_neg g2, if_neg g3, if_neg g3, if_pos g4, if_pos g4]; exact ⟨_, rfl, _, rfl, rfl, hI⟩
          · by_cases g5 : p1 = 5
            · rw [if_neg g0, if_neg g0, if_neg g1, if_neg g1, if_neg g2, if_neg g2, if_neg g3, if_neg g3, if_neg g4, if_neg g4, if_pos g5, if_pos g5]; exact ⟨_, rfl, _, rfl, rfl, hI⟩
            · by_cases g6 : p1 = 6
              · rw [if_neg g0, if_neg g0, if_neg g1, if_neg g1, if_neg g2, if_neg g2, if_neg g3, if_neg g3, if_neg g4, if_neg g4, if_neg g5, if_neg g5, if_pos g6, if_pos g6]; exact ⟨_, rfl, _, rfl, rfl, hI⟩
              · by_cases g7 : p1 = 7
                · rw [if_neg g0, if_neg g0, if_neg g1, if_neg g1, if_neg g2, if_neg g2, if_neg g3, if_neg g3, if_neg g4, if_neg g4, if_neg g5, if_neg g5, if_neg g6, if_neg g6, if_pos g7, if_pos g7]; exact ⟨_, rfl, _, rfl, rfl, hI⟩
                · rw [if_neg g0, if_neg g0, if_neg g1, if_neg g1, if_neg g2, if_neg g2, if_neg g3, if_neg g3, if_neg g4, if_neg g4, if_neg g5, if_neg g5, if_neg g6, if_neg g6, if_neg g7, if_neg g7]
                  by_cases g : 12 ≤ p1.toInt ∧ p1.toInt ≤ 16
                  · obtain ⟨n, hn2, rfl⟩ := of_int (p := p1) (by omega)
                    rw [nI_toInt hn2] at g
                    obtain ⟨k, rfl⟩ : ∃ k, n = k + 12 := ⟨n - 12, by omega⟩
                    rw [R_k1 (by rw [nI_toInt hn2]; exact g.1) (by rw [nI_toInt hn2]; exact g.2), Option.bind_some, if_neg n10, if_neg (by rw [q_lt_12 hn2]; omega), show (12 : Int32) = nI 12 from rfl, pk_sub (by omega), show (10 : Int32) = nI 10 from rfl, pk_sub (by omega), Nat.add_sub_cancel, show k + 12 - 10 = k + 2 by omega, if_neg (by rw [nI_leI (by omega) (by omega)]; omega), if_neg (nI_in (by omega) (by omega)), if_neg (nI_in (by omega) (by omega)), nI_clamp (by omega), nI_clamp (by omega), h6 k (by omega)]
                    exact ⟨_, rfl, _, rfl, rfl, hI⟩
                  · rw [R_k0 (l := 12) (z := 16) g]
                    by_cases l : p1 < 12
                    · rw [if_pos l]; exact ⟨_, rfl, _, rfl, rfl, hI⟩
                    · rw [if_neg l, if_pos]
                      · exact ⟨_, rfl, _, rfl, rfl, hI⟩
                      · rw [lt_toInt, t_12] at l
                        rw [le_toInt, subI (by omega) (by rw [t_12]; omega), t_12, nI_toInt (by omega)]
                        omega
