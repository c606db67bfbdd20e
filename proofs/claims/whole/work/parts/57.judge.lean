/-! rows of moves: judge, behind, moved -/
def cd (j : Nat) : Int32 := if j = 0 then -2 else if j = 1 then -3 else -4
theorem cd_ne {j : Nat} : ¬ cd j = 0 := by
  unfold cd
  by_cases e : j = 0
  · rw [if_pos e]; decide
  · rw [if_neg e]
    by_cases e2 : j = 1
    · rw [if_pos e2]; decide
    · rw [if_neg e2]; decide
theorem cd_rf {N : Nat} {ro : RO} {j : Nat} (hj : j < 3) : M_X5_refuse N ro (cd j) = some (cd j, xRf ro j) := by
  have : j = 0 ∨ j = 1 ∨ j = 2 := by omega
  rcases this with rfl | rfl | rfl
  · exact xRf_ok.1
  · exact xRf_ok.2.1
  · exact xRf_ok.2.2.1
theorem C_whyRow {ro : RO} {nw : EV} {sh : SH} {rm : RM} {a : AE} {lo hi : Nat} {p1 p2 p3 : Int32} (h1 : EvA nw a) (h3 : OkA a) (h4 : ShA sh rm (aN a)) (hl : lo < 2 ^ 31) (hh : hi < 2 ^ 31) : (∃ s k z n b, s < 8 ∧ p1 = nI s ∧ shR sh rm s k z ∧ p2 = nI n ∧ n ≤ z ∧ lo ≤ n ∧ n ≤ hi ∧ p3 = nI b ∧ b < aN a ∧ M_X5_whyNoRow NN ro nw sh p1 p2 (nI lo) (nI hi) p3 = some 0) ∨ (M_X5_whyNoRow NN ro nw sh p1 p2 (nI lo) (nI hi) p3 = some (-2) ∧ (¬ vI 8 p1 ∨ ¬ ((lo : Int) ≤ p2.toInt ∧ p2.toInt ≤ hi) ∨ ¬ vB a p3 ∨ ∃ s k z n, s < 8 ∧ p1 = nI s ∧ shR sh rm s k z ∧ p2 = nI n ∧ n ≤ hi ∧ ¬ n ≤ z)) ∨ (M_X5_whyNoRow NN ro nw sh p1 p2 (nI lo) (nI hi) p3 = some (-3) ∧ ∃ s k, s < 8 ∧ p1 = nI s ∧ shB sh rm (aN a) s k ∧ ((lo : Int) ≤ p2.toInt ∧ p2.toInt ≤ hi) ∧ vB a p3) ∨ (M_X5_whyNoRow NN ro nw sh p1 p2 (nI lo) (nI hi) p3 = some (-4) ∧ ∃ s, s < 8 ∧ p1 = nI s ∧ shF sh rm s ∧ ((lo : Int) ≤ p2.toInt ∧ p2.toInt ≤ hi) ∧ vB a p3) := by
  have hn := h3.1
  by_cases hp : vI 8 p1
  · obtain ⟨s, hs, rfl⟩ := hp
    by_cases hv : (lo : Int) ≤ p2.toInt ∧ p2.toInt ≤ hi
    · obtain ⟨n, hn2, rfl⟩ := of_int (p := p2) (by omega)
      have hv2 := hv
      rw [nI_toInt hn2] at hv2
      by_cases hb : vB a p3
      · obtain ⟨b, hb, rfl⟩ := hb
        have st : ∀ x, M_X3_hasBarIn NN sh (nI s) = some x → M_X5_whyNoRow NN ro nw sh (nI s) (nI n) (nI lo) (nI hi) (nI b) = if x = 0 then ((M_X3_isFree NN sh (nI s)).bind fun r52 => if r52 = 0 then ((M_X3_hasCells NN sh (nI s) 0 (nI n)).bind fun r68 => if r68 = 0 then some (-2) else some 0) else some (-4)) else some (-3) := by
          intro x hx
          unfold M_X5_whyNoRow
          rw [S_is hs, Option.bind_some, if_neg n10, if_neg (by rw [nI_ltI hn2 hl]; omega), if_neg (by rw [nI_ltI hh hn2]; omega), E_bar h1 h3 hb, Option.bind_some, if_pos n10, hx, Option.bind_some]
        rcases sh_cases h4 hs with g | ⟨k, z, g⟩ | ⟨k, g⟩
        · refine Or.inr (Or.inr (Or.inr ⟨?_, s, hs, rfl, g, hv, b, hb, rfl⟩))
          rw [st 0 (S_barF hs g), if_pos rfl, S_freeF hs g]
          rfl
        · have hz := g.2.2.1
          have ec : M_X5_whyNoRow NN ro nw sh (nI s) (nI n) (nI lo) (nI hi) (nI b) = some (if n ≤ z then 0 else -2) := by
            rw [st 0 (S_barR hs g), if_pos rfl, S_freeR hs g, Option.bind_some, if_pos rfl, S_cellsR hs g, Option.bind_some, t_0, nI_toInt hn2]
            by_cases l : n ≤ z
            · rw [if_pos (show (0 : Int) ≤ 0 ∧ 0 ≤ (n : Int) ∧ 0 + (n : Int) ≤ z by omega), if_neg n10, if_pos l]
            · rw [if_neg (show ¬ ((0 : Int) ≤ 0 ∧ 0 ≤ (n : Int) ∧ 0 + (n : Int) ≤ z) by omega), if_pos rfl, if_neg l]
          by_cases l : n ≤ z
          · rw [if_pos l] at ec
            exact Or.inl ⟨s, k, z, n, b, hs, rfl, g, rfl, l, by omega, by omega, rfl, hb, ec⟩
          · rw [if_neg l] at ec
            exact Or.inr (Or.inl ⟨ec, Or.inr (Or.inr (Or.inr ⟨s, k, z, n, hs, rfl, g, rfl, by omega, l⟩))⟩)
        · refine Or.inr (Or.inr (Or.inl ⟨?_, s, k, hs, rfl, g, hv, b, hb, rfl⟩))
          rw [st 1 (S_barB hs g hn), if_neg n10]
      · refine Or.inr (Or.inl ⟨?_, Or.inr (Or.inr (Or.inl hb))⟩)
        unfold M_X5_whyNoRow
        rw [S_is hs, Option.bind_some, if_neg n10, if_neg (by rw [nI_ltI hn2 hl]; omega), if_neg (by rw [nI_ltI hh hn2]; omega), E_nobar h1 h3 hb]
        rfl
    · refine Or.inr (Or.inl ⟨?_, Or.inr (Or.inl hv)⟩)
      unfold M_X5_whyNoRow
      rw [S_is hs, Option.bind_some, if_neg n10]
      by_cases l : p2 < nI lo
      · rw [if_pos l]
      · rw [if_neg l, if_pos]
        rw [lt_toInt, nI_toInt hl] at l
        rw [lt_toInt, nI_toInt hh]
        omega
  · refine Or.inr (Or.inl ⟨?_, Or.inl hp⟩)
    unfold M_X5_whyNoRow
    rw [S_no hp]
    rfl
theorem R_rowpre {N : Nat} {sh : SH} {rm : RM} {s k z n : Nat} (hs : s < 8) (g : shR sh rm s k z) (hn : n < 2 ^ 31) : (nI n ≤ RM_rowSize rm s ↔ n ≤ z) ∧ M_X6_noRow N rm (nI s) = some (0, rm) := by
  have hz := g.2.2.1
  refine ⟨?_, R_noRow1 hs g⟩
  rw [g.2.2.2.2.2.2.1, nI_leI hn (by omega)]
theorem W_moves {ro : RO} {nw : EV} {sh : SH} {rm : RM} {a : AE} {p1 p2 p3 : Int32} (h1 : EvA nw a) (h2 : RmA rm a) (h3 : OkA a) (h4 : ShA sh rm (aN a)) : (∃ s k z n b, s < 8 ∧ p1 = nI s ∧ shR sh rm s k z ∧ p2 = nI n ∧ n ≤ z ∧ p3 = nI b ∧ b < aN a ∧ M_X5_whyNoMoves NN ro nw sh p1 p2 p3 = some 0 ∧ M_X6_noMoves NN rm p1 p2 p3 = some (0, rm)) ∨ ∃ j, j < 3 ∧ M_X5_whyNoMoves NN ro nw sh p1 p2 p3 = some (cd j) ∧ M_X6_noMoves NN rm p1 p2 p3 = some (cd j, mRf rm j) := by
  have ew : M_X5_whyNoMoves NN ro nw sh p1 p2 p3 = M_X5_whyNoRow NN ro nw sh p1 p2 (nI 0) (nI 40) p3 := by
    show (M_X5_whyNoRow NN ro nw sh p1 p2 (nI 0) (nI 40) p3).bind (fun r7 => some r7) = _
    cases M_X5_whyNoRow NN ro nw sh p1 p2 (nI 0) (nI 40) p3 <;> rfl
  have ej : M_X6_noMoves_j32 NN p1 p2 p3 rm = some (-2, mRf rm 0) := by
    unfold M_X6_noMoves_j32
    rw [mRf_ok.1]
    rfl
  have inn : ∀ p : Int32, (((0 : Nat) : Int) ≤ p.toInt ∧ p.toInt ≤ ((40 : Nat) : Int)) → M_X6_in NN p.toInt64 0 40 = some 1 := fun p h => R_k1 (l := 0) (z := 40) (by show (0 : Int) ≤ _; omega) (by show _ ≤ (40 : Int); omega)
  rw [ew]
  rcases C_whyRow (lo := 0) (hi := 40) (ro := ro) (p1 := p1) (p2 := p2) (p3 := p3) h1 h3 h4 (by omega) (by omega) with ⟨s, k, z, n, b, hs, rfl, g, rfl, hz, -, hn, rfl, hb, e⟩ | ⟨e, hh⟩ | ⟨e, s, k, hs, rfl, g, hv, hb⟩ | ⟨e, s, hs, rfl, g, hv, hb⟩
  · refine Or.inl ⟨s, k, z, n, b, hs, rfl, g, rfl, hz, rfl, hb, e, ?_⟩
    unfold M_X6_noMoves
    rw [r_in7 hs, Option.bind_some, if_neg n10, inn _ (by rw [nI_toInt (by omega)]; omega), Option.bind_some, if_neg n10, R_bar h2 h3 hb, Option.bind_some, if_pos n10, R_noRow1 hs g, Option.bind_some, if_pos rfl, if_neg (S_in hs), S_cl hs, if_pos ((R_rowpre (N := NN) hs g (by omega)).1.mpr hz)]
  · refine Or.inr ⟨0, by omega, e, ?_⟩
    unfold M_X6_noMoves
    rw [ej]
    by_cases hp : vI 8 p1
    · obtain ⟨s, hs, rfl⟩ := hp
      rw [r_in7 hs, Option.bind_some, if_neg n10]
      by_cases hv : ((0 : Nat) : Int) ≤ p2.toInt ∧ p2.toInt ≤ ((40 : Nat) : Int)
      · rw [inn _ hv, Option.bind_some, if_neg n10]
        by_cases hb : vB a p3
        · rcases hh with hh | hh | hh | ⟨s', k, z, n, hs', es, g, rfl, hn40, hz⟩
          · exact absurd ⟨s, hs, rfl⟩ hh
          · exact absurd hv hh
          · exact absurd hb hh
          · obtain rfl : s = s' := (nI_eq (by omega) (by omega)).mp es
            obtain ⟨b, hb, rfl⟩ := hb
            rw [R_bar h2 h3 hb, Option.bind_some, if_pos n10, R_noRow1 hs g, Option.bind_some, if_pos rfl, if_neg (S_in hs), S_cl hs, if_neg (fun z => hz ((R_rowpre (N := NN) hs g (by omega)).1.mp z)), mRf_ok.1]
            rfl
        · rw [R_nobar h2 h3 hb]
          rfl
      · rw [R_k0 (l := 0) (z := 40) (fun z => hv ⟨by have := z.1; simpa using this, by have := z.2; simpa using this⟩)]
        rfl
    · rw [r_no7 hp]
      rfl
  · obtain ⟨b, hb, rfl⟩ := hb
    refine Or.inr ⟨1, by omega, e, ?_⟩
    unfold M_X6_noMoves
    rw [r_in7 hs, Option.bind_some, if_neg n10, inn _ hv, Option.bind_some, if_neg n10, R_bar h2 h3 hb, Option.bind_some, if_pos n10, R_noRow2 hs g]
    rfl
  · obtain ⟨b, hb, rfl⟩ := hb
    refine Or.inr ⟨2, by omega, e, ?_⟩
    unfold M_X6_noMoves
    rw [r_in7 hs, Option.bind_some, if_neg n10, inn _ hv, Option.bind_some, if_neg n10, R_bar h2 h3 hb, Option.bind_some, if_pos n10, R_noRow0 hs g]
    rfl
/-! moves told in a row -/
def mvv (x : Int64) : Nat := x.toInt.toNat
def inr (x : Int64) : Bool := decide (0 ≤ x.toInt ∧ x.toInt ≤ 20)
theorem inr_of {x : Int64} (h : inr x = true) : mvv x ≤ 20 ∧ x = lN (mvv x) := by
  have h := of_decide_eq_true h
  unfold mvv
  refine ⟨by omega, ?_⟩
  apply Int64.toInt_inj.mp
  rw [lN_toInt (by omega)]
  omega
def jw (R : Nat → Int64) (on : Nat) : Nat → Nat
  | 0 => on
  | i + 1 => jw R on i ^^^ mk (mvv (R i))
def gd (q : PL) (R : Nat → Int64) (on i : Nat) : Bool := inr (R i) && lgl q (jw R on i) (mvv (R i))
theorem jw_lt {q : PL} (hz : q.2.1 ≤ 10) {R : Nat → Int64} {on : Nat} (ho : on < 2 ^ q.2.1) : ∀ i, (∀ k, k < i → gd q R on k = true) → jw R on i < 2 ^ q.2.1
  | 0, _ => ho
  | i + 1, h => by
    have ih := jw_lt hz ho i (fun k hk => h k (by omega))
    have g := h i (by omega)
    unfold gd at g
    simp only [Bool.and_eq_true] at g
    exact mvb_mk hz (mvb_of g.2) ih
theorem gd_mv {q : PL} (hz : q.2.1 ≤ 10) {R : Nat → Int64} {on i : Nat} (h : gd q R on i = true) : (mvv (R i) < 10 ∨ mvv (R i) = 20) ∧ R i = lN (mvv (R i)) ∧ mvb q (mvv (R i)) = true := by
  unfold gd at h
  simp only [Bool.and_eq_true] at h
  exact ⟨(mvb_20 hz (mvb_of h.2)).2, (inr_of h.1).2, mvb_of h.2⟩
/-- the first that is wrong -/
def wr (q : PL) (R : Nat → Int64) (on n : Nat) : Nat := fa_first (fun i => !gd q R on i) n
theorem wr_ok (q : PL) (R : Nat → Int64) (on n : Nat) : wr q R on n ≤ n ∧ (∀ k, k < wr q R on n → gd q R on k = true) ∧ (wr q R on n < n → gd q R on (wr q R on n) = false) := by
  refine ⟨fa_first_le _ n, fun k hk => ?_, fun h => ?_⟩
  · have := fa_first_no (fun i => !gd q R on i) n k hk
    simpa using this
  · have := fa_first_yes (fun i => !gd q R on i) n h
    show gd q R on (fa_first (fun i => !gd q R on i) n) = false
    simpa using this
def wv (q : PL) (R : Nat → Int64) (on n : Nat) : Int32 := if wr q R on n < n then nI (wr q R on n) else -1
theorem C_judged {ro : RO} {nw : EV} {sh : SH} {rm : RM} {a : AE} {s k z n b : Nat} (h1 : EvA nw a) (h3 : OkA a) (hs : s < 8) (g : shR sh rm s k z) (hnz : n ≤ z) (hb : b < aN a) (lw : LW) : ∃ lw', M_X5_judgedMove NN ro nw sh lw (nI s) (nI n) (nI b) = some (wv (aL a b) (RM_rows rm s) (aO a b) n, lw') := by
  obtain ⟨hk, hz1, hz2, ho, ht, -⟩ := h3.2 b hb
  have hz40 := g.2.2.1
  obtain ⟨lw', t1, t2⟩ := C_take (N := NN) h1 h3 hb lw
  refine ⟨lw', ?_⟩
  obtain ⟨w1, w2, w3⟩ := wr_ok (aL a b) (RM_rows rm s) (aO a b) n
  have hj : ∀ i, i ≤ wr (aL a b) (RM_rows rm s) (aO a b) n → jw (RM_rows rm s) (aO a b) i < 2 ^ aZ a b := fun i hi => jw_lt (q := aL a b) hz2 ho i (fun k hk => w2 k (by omega))
  have step : ∀ i, i < n → jw (RM_rows rm s) (aO a b) i < 2 ^ aZ a b → ∀ rec, M_X5_judgedMove_l25 NN ro nw sh (nI s) (nI n) (nI b) rec (lw', nI (jw (RM_rows rm s) (aO a b) i), nI i) = if gd (aL a b) (RM_rows rm s) (aO a b) i = true then rec (lw', nI (jw (RM_rows rm s) (aO a b) (i + 1)), nI (i + 1)) else some (nI i, lw') := by
    intro i hi hji rec
    unfold M_X5_judgedMove_l25
    simp only []
    rw [if_neg (by rw [nI_leI (by omega) (by omega)]; omega), S_cell hs g (by omega), Option.bind_some]
    unfold gd inr
    by_cases l1 : (RM_rows rm s i).toInt < 0
    · rw [if_pos (by rw [cmp_lt]; exact l1), decide_eq_false (by omega), if_neg (show ¬ (false && _) = true by simp)]
    · by_cases l2 : 20 < (RM_rows rm s i).toInt
      · rw [if_neg (by rw [cmp_lt]; exact l1), if_pos (by rw [cmp_gt]; exact l2), decide_eq_false (by omega), if_neg (show ¬ (false && _) = true by simp)]
      · have hin : inr (RM_rows rm s i) = true := decide_eq_true ⟨by omega, by omega⟩
        obtain ⟨m1, m2⟩ := inr_of hin
        have e32 : (RM_rows rm s i).toInt32 = nI (mvv (RM_rows rm s i)) := by
          rw [m2, lN_i]
          congr 1
          rw [← m2]
        rw [if_neg (by rw [cmp_lt]; exact l1), if_neg (by rw [cmp_gt]; exact l2), L_legal t2 (aL_ok h3 hb) hji, Option.bind_some, e32, C_hasBit m1, Option.bind_some, decide_eq_true (show 0 ≤ (RM_rows rm s i).toInt ∧ (RM_rows rm s i).toInt ≤ 20 by omega), Bool.true_and]
        cases e : lgl (aL a b) (jw (RM_rows rm s) (aO a b) i) (mvv (RM_rows rm s i))
        · rw [if_neg (show ¬ ¬ oB false = 0 by decide), if_neg (show ¬ false = true by decide)]
        · rw [if_pos (show ¬ oB true = 0 by decide), if_pos rfl, C_rings (mvb_20 (q := aL a b) hz2 (mvb_of e)).2, Option.bind_some, fb_xorI, nI_1]
          rfl
  unfold M_X5_judgedMove
  rw [t1, Option.bind_some, E_on h1 h3 hb, Option.bind_some]
  refine lp_for (fun i => (lw', nI (jw (RM_rows rm s) (aO a b) i), nI i)) (wr (aL a b) (RM_rows rm s) (aO a b) n) (fun i hi rec => (step i (by omega) (hj i (by omega)) rec).trans (if_pos (w2 i hi))) (fun rec => ?_) (by show _ < 5000; omega)
  unfold wv
  by_cases l : wr (aL a b) (RM_rows rm s) (aO a b) n < n
  · rw [if_pos l]
    refine (step _ l (hj _ (Nat.le_refl _)) rec).trans (if_neg ?_)
    rw [w3 l]
    decide
  · have e : wr (aL a b) (RM_rows rm s) (aO a b) n = n := by omega
    rw [if_neg l, e]
    show M_X5_judgedMove_l25 NN ro nw sh (nI s) (nI n) (nI b) rec (lw', nI (jw (RM_rows rm s) (aO a b) n), nI n) = _
    unfold M_X5_judgedMove_l25
    simp only []
    rw [if_pos (by exact Int32.le_refl _)]
theorem R_wrong {rm : RM} {a : AE} {s n b : Nat} (h2 : RmA rm a) (h3 : OkA a) (hn : n ≤ 40) (hb : b < aN a) : ∃ rm', M_X6_wrongIn NN rm s (nI n) (nI b) = some (wv (aL a b) (RM_rows rm s) (aO a b) n, rm') ∧ Sg rm rm' ∧ RM_behindAll rm' = nI (jw (RM_rows rm s) (aO a b) (wr (aL a b) (RM_rows rm s) (aO a b) n)) := by
  obtain ⟨hk, hz1, hz2, ho, ht, -⟩ := h3.2 b hb
  obtain ⟨w1, w2, w3⟩ := wr_ok (aL a b) (RM_rows rm s) (aO a b) n
  have hj : ∀ i, i ≤ wr (aL a b) (RM_rows rm s) (aO a b) n → jw (RM_rows rm s) (aO a b) i < 2 ^ aZ a b := fun i hi => jw_lt (q := aL a b) hz2 ho i (fun k hk => w2 k (by omega))
  have hb4 : b < 4 := by have := h3.1; omega
  have bb : ∀ r v w, RM_s_behindAll (RM_s_behindAll r v) w = RM_s_behindAll r w := fun r v w => by
    refine (acc_id _).symm.trans (Eq.trans ?_ (acc_id _))
    simp only [RM_shelf_s_shelf, RM_shelf_s_rowSort, RM_shelf_s_rowSize, RM_shelf_s_rows, RM_shelf_s_moved1, RM_shelf_s_shown, RM_shelf_s_tape, RM_shelf_s_tapeSize, RM_shelf_s_refused, RM_shelf_s_bars, RM_shelf_s_kind, RM_shelf_s_size, RM_shelf_s_on, RM_shelf_s_stuck, RM_shelf_s_must, RM_shelf_s_not, RM_shelf_s_minutes, RM_shelf_s_movedAll, RM_shelf_s_seed, RM_shelf_s_at, RM_shelf_s_token, RM_shelf_s_from, RM_shelf_s_figures, RM_shelf_s_fault, RM_shelf_s_told, RM_shelf_s_statements, RM_shelf_s_far, RM_shelf_s_queue, RM_shelf_s_queued, RM_shelf_s_parts1, RM_shelf_s_parts2, RM_shelf_s_picturesSum, RM_shelf_s_behindAll, RM_shelf_s_pl, RM_rowSort_s_shelf, RM_rowSort_s_rowSort, RM_rowSort_s_rowSize, RM_rowSort_s_rows, RM_rowSort_s_moved1, RM_rowSort_s_shown, RM_rowSort_s_tape, RM_rowSort_s_tapeSize, RM_rowSort_s_refused, RM_rowSort_s_bars, RM_rowSort_s_kind, RM_rowSort_s_size, RM_rowSort_s_on, RM_rowSort_s_stuck, RM_rowSort_s_must, RM_rowSort_s_not, RM_rowSort_s_minutes, RM_rowSort_s_movedAll, RM_rowSort_s_seed, RM_rowSort_s_at, RM_rowSort_s_token, RM_rowSort_s_from, RM_rowSort_s_figures, RM_rowSort_s_fault, RM_rowSort_s_told, RM_rowSort_s_statements, RM_rowSort_s_far, RM_rowSort_s_queue, RM_rowSort_s_queued, RM_rowSort_s_parts1, RM_rowSort_s_parts2, RM_rowSort_s_picturesSum, RM_rowSort_s_behindAll, RM_rowSort_s_pl, RM_rowSize_s_shelf, RM_rowSize_s_rowSort, RM_rowSize_s_rowSize, RM_rowSize_s_rows, RM_rowSize_s_moved1, RM_rowSize_s_shown, RM_rowSize_s_tape, RM_rowSize_s_tapeSize, RM_rowSize_s_refused, RM_rowSize_s_bars, RM_rowSize_s_kind, RM_rowSize_s_size, RM_rowSize_s_on, RM_rowSize_s_stuck, RM_rowSize_s_must, RM_rowSize_s_not, RM_rowSize_s_minutes, RM_rowSize_s_movedAll, RM_rowSize_s_seed, RM_rowSize_s_at, RM_rowSize_s_token, RM_rowSize_s_from, RM_rowSize_s_figures, RM_rowSize_s_fault, RM_rowSize_s_told, RM_rowSize_s_statements, RM_rowSize_s_far, RM_rowSize_s_queue, RM_rowSize_s_queued, RM_rowSize_s_parts1, RM_rowSize_s_parts2, RM_rowSize_s_picturesSum, RM_rowSize_s_behindAll, RM_rowSize_s_pl, RM_rows_s_shelf, RM_rows_s_rowSort, RM_rows_s_rowSize, RM_rows_s_rows, RM_rows_s_moved1, RM_rows_s_shown, RM_rows_s_tape, RM_rows_s_tapeSize, RM_rows_s_refused, RM_rows_s_bars, RM_rows_s_kind, RM_rows_s_size, RM_rows_s_on, RM_rows_s_stuck, RM_rows_s_must, RM_rows_s_not, RM_rows_s_minutes, RM_rows_s_movedAll, RM_rows_s_seed, RM_rows_s_at, RM_rows_s_token, RM_rows_s_from, RM_rows_s_figures, RM_rows_s_fault, RM_rows_s_told, RM_rows_s_statements, RM_rows_s_far, RM_rows_s_queue, RM_rows_s_queued, RM_rows_s_parts1, RM_rows_s_parts2, RM_rows_s_picturesSum, RM_rows_s_behindAll, RM_rows_s_pl, RM_moved1_s_shelf, RM_moved1_s_rowSort, RM_moved1_s_rowSize, RM_moved1_s_rows, RM_moved1_s_moved1, RM_moved1_s_shown, RM_moved1_s_tape, RM_moved1_s_tapeSize, RM_moved1_s_refused, RM_moved1_s_bars, RM_moved1_s_kind, RM_moved1_s_size, RM_moved1_s_on, RM_moved1_s_stuck, RM_moved1_s_must, RM_moved1_s_not, RM_moved1_s_minutes, RM_moved1_s_movedAll, RM_moved1_s_seed, RM_moved1_s_at, RM_moved1_s_token, RM_moved1_s_from, RM_moved1_s_figures, RM_moved1_s_fault, RM_moved1_s_told, RM_moved1_s_statements, RM_moved1_s_far, RM_moved1_s_queue, RM_moved1_s_queued, RM_moved1_s_parts1, RM_moved1_s_parts2, RM_moved1_s_picturesSum, RM_moved1_s_behindAll, RM_moved1_s_pl, RM_shown_s_shelf, RM_shown_s_rowSort, RM_shown_s_rowSize, RM_shown_s_rows, RM_shown_s_moved1, RM_shown_s_shown, RM_shown_s_tape, RM_shown_s_tapeSize, RM_shown_s_refused, RM_shown_s_bars, RM_shown_s_kind, RM_shown_s_size, RM_shown_s_on, RM_shown_s_stuck, RM_shown_s_must, RM_shown_s_not, RM_shown_s_minutes, RM_shown_s_movedAll, RM_shown_s_seed, RM_shown_s_at, RM_shown_s_token, RM_shown_s_from, RM_shown_s_figures, RM_shown_s_fault, RM_shown_s_told, RM_shown_s_statements, RM_shown_s_far, RM_shown_s_queue, RM_shown_s_queued, RM_shown_s_parts1, RM_shown_s_parts2, RM_shown_s_picturesSum, RM_shown_s_behindAll, RM_shown_s_pl, RM_tape_s_shelf, RM_tape_s_rowSort, RM_tape_s_rowSize, RM_tape_s_rows, RM_tape_s_moved1, RM_tape_s_shown, RM_tape_s_tape, RM_tape_s_tapeSize, RM_tape_s_refused, RM_tape_s_bars, RM_tape_s_kind, RM_tape_s_size, RM_tape_s_on, RM_tape_s_stuck, RM_tape_s_must, RM_tape_s_not, RM_tape_s_minutes, RM_tape_s_movedAll, RM_tape_s_seed, RM_tape_s_at, RM_tape_s_token, RM_tape_s_from, RM_tape_s_figures, RM_tape_s_fault, RM_tape_s_told, RM_tape_s_statements, RM_tape_s_far, RM_tape_s_queue, RM_tape_s_queued, RM_tape_s_parts1, RM_tape_s_parts2, RM_tape_s_picturesSum, RM_tape_s_behindAll, RM_tape_s_pl, RM_tapeSize_s_shelf, RM_tapeSize_s_rowSort, RM_tapeSize_s_rowSize, RM_tapeSize_s_rows, RM_tapeSize_s_moved1, RM_tapeSize_s_shown, RM_tapeSize_s_tape, RM_tapeSize_s_tapeSize, RM_tapeSize_s_refused, RM_tapeSize_s_bars, RM_tapeSize_s_kind, RM_tapeSize_s_size, RM_tapeSize_s_on, RM_tapeSize_s_stuck, RM_tapeSize_s_must, RM_tapeSize_s_not, RM_tapeSize_s_minutes, RM_tapeSize_s_movedAll, RM_tapeSize_s_seed, RM_tapeSize_s_at, RM_tapeSize_s_token, RM_tapeSize_s_from, RM_tapeSize_s_figures, RM_tapeSize_s_fault, RM_tapeSize_s_told, RM_tapeSize_s_statements, RM_tapeSize_s_far, RM_tapeSize_s_queue, RM_tapeSize_s_queued, RM_tapeSize_s_parts1, RM_tapeSize_s_parts2, RM_tapeSize_s_picturesSum, RM_tapeSize_s_behindAll, RM_tapeSize_s_pl, RM_refused_s_shelf, RM_refused_s_rowSort, RM_refused_s_rowSize, RM_refused_s_rows, RM_refused_s_moved1, RM_refused_s_shown, RM_refused_s_tape, RM_refused_s_tapeSize, RM_refused_s_refused, RM_refused_s_bars, RM_refused_s_kind, RM_refused_s_size, RM_refused_s_on, RM_refused_s_stuck, RM_refused_s_must, RM_refused_s_not, RM_refused_s_minutes, RM_refused_s_movedAll, RM_refused_s_seed, RM_refused_s_at, RM_refused_s_token, RM_refused_s_from, RM_refused_s_figures, RM_refused_s_fault, RM_refused_s_told, RM_refused_s_statements, RM_refused_s_far, RM_refused_s_queue, RM_refused_s_queued, RM_refused_s_parts1, RM_refused_s_parts2, RM_refused_s_picturesSum, RM_refused_s_behindAll, RM_refused_s_pl, RM_bars_s_shelf, RM_bars_s_rowSort, RM_bars_s_rowSize, RM_bars_s_rows, RM_bars_s_moved1, RM_bars_s_shown, RM_bars_s_tape, RM_bars_s_tapeSize, RM_bars_s_refused, RM_bars_s_bars, RM_bars_s_kind, RM_bars_s_size, RM_bars_s_on, RM_bars_s_stuck, RM_bars_s_must, RM_bars_s_not, RM_bars_s_minutes, RM_bars_s_movedAll, RM_bars_s_seed, RM_bars_s_at, RM_bars_s_token, RM_bars_s_from, RM_bars_s_figures, RM_bars_s_fault, RM_bars_s_told, RM_bars_s_statements, RM_bars_s_far, RM_bars_s_queue, RM_bars_s_queued, RM_bars_s_parts1, RM_bars_s_parts2, RM_bars_s_picturesSum, RM_bars_s_behindAll, RM_bars_s_pl, RM_kind_s_shelf, RM_kind_s_rowSort, RM_kind_s_rowSize, RM_kind_s_rows, RM_kind_s_moved1, RM_kind_s_shown, RM_kind_s_tape, RM_kind_s_tapeSize, RM_kind_s_refused, RM_kind_s_bars, RM_kind_s_kind, RM_kind_s_size, RM_kind_s_on, RM_kind_s_stuck, RM_kind_s_must, RM_kind_s_not, RM_kind_s_minutes, RM_kind_s_movedAll, RM_kind_s_seed, RM_kind_s_at, RM_kind_s_token, RM_kind_s_from, RM_kind_s_figures, RM_kind_s_fault, RM_kind_s_told, RM_kind_s_statements, RM_kind_s_far, RM_kind_s_queue, RM_kind_s_queued, RM_kind_s_parts1, RM_kind_s_parts2, RM_kind_s_picturesSum, RM_kind_s_behindAll, RM_kind_s_pl, RM_size_s_shelf, RM_size_s_rowSort, RM_size_s_rowSize, RM_size_s_rows, RM_size_s_moved1, RM_size_s_shown, RM_size_s_tape, RM_size_s_tapeSize, RM_size_s_refused, RM_size_s_bars, RM_size_s_kind, RM_size_s_size, RM_size_s_on, RM_size_s_stuck, RM_size_s_must, RM_size_s_not, RM_size_s_minutes, RM_size_s_movedAll, RM_size_s_seed, RM_size_s_at, RM_size_s_token, RM_size_s_from, RM_size_s_figures, RM_size_s_fault, RM_size_s_told, RM_size_s_statements, RM_size_s_far, RM_size_s_queue, RM_size_s_queued, RM_size_s_parts1, RM_size_s_parts2, RM_size_s_picturesSum, RM_size_s_behindAll, RM_size_s_pl, RM_on_s_shelf, RM_on_s_rowSort, RM_on_s_rowSize, RM_on_s_rows, RM_on_s_moved1, RM_on_s_shown, RM_on_s_tape, RM_on_s_tapeSize, RM_on_s_refused, RM_on_s_bars, RM_on_s_kind, RM_on_s_size, RM_on_s_on, RM_on_s_stuck, RM_on_s_must, RM_on_s_not, RM_on_s_minutes, RM_on_s_movedAll, RM_on_s_seed, RM_on_s_at, RM_on_s_token, RM_on_s_from, RM_on_s_figures, RM_on_s_fault, RM_on_s_told, RM_on_s_statements, RM_on_s_far, RM_on_s_queue, RM_on_s_queued, RM_on_s_parts1, RM_on_s_parts2, RM_on_s_picturesSum, RM_on_s_behindAll, RM_on_s_pl, RM_stuck_s_shelf, RM_stuck_s_rowSort, RM_stuck_s_rowSize, RM_stuck_s_rows, RM_stuck_s_moved1, RM_stuck_s_shown, RM_stuck_s_tape, RM_stuck_s_tapeSize, RM_stuck_s_refused, RM_stuck_s_bars, RM_stuck_s_kind, RM_stuck_s_size, RM_stuck_s_on, RM_stuck_s_stuck, RM_stuck_s_must, RM_stuck_s_not, RM_stuck_s_minutes, RM_stuck_s_movedAll, RM_stuck_s_seed, RM_stuck_s_at, RM_stuck_s_token, RM_stuck_s_from, RM_stuck_s_figures, RM_stuck_s_fault, RM_stuck_s_told, RM_stuck_s_statements, RM_stuck_s_far, RM_stuck_s_queue, RM_stuck_s_queued, RM_stuck_s_parts1, RM_stuck_s_parts2, RM_stuck_s_picturesSum, RM_stuck_s_behindAll, RM_stuck_s_pl, RM_must_s_shelf, RM_must_s_rowSort, RM_must_s_rowSize, RM_must_s_rows, RM_must_s_moved1, RM_must_s_shown, RM_must_s_tape, RM_must_s_tapeSize, RM_must_s_refused, RM_must_s_bars, RM_must_s_kind, RM_must_s_size, RM_must_s_on, RM_must_s_stuck, RM_must_s_must, RM_must_s_not, RM_must_s_minutes, RM_must_s_movedAll, RM_must_s_seed, RM_must_s_at, RM_must_s_token, RM_must_s_from, RM_must_s_figures, RM_must_s_fault, RM_must_s_told, RM_must_s_statements, RM_must_s_far, RM_must_s_queue, RM_must_s_queued, RM_must_s_parts1, RM_must_s_parts2, RM_must_s_picturesSum, RM_must_s_behindAll, RM_must_s_pl, RM_not_s_shelf, RM_not_s_rowSort, RM_not_s_rowSize, RM_not_s_rows, RM_not_s_moved1, RM_not_s_shown, RM_not_s_tape, RM_not_s_tapeSize, RM_not_s_refused, RM_not_s_bars, RM_not_s_kind, RM_not_s_size, RM_not_s_on, RM_not_s_stuck, RM_not_s_must, RM_not_s_not, RM_not_s_minutes, RM_not_s_movedAll, RM_not_s_seed, RM_not_s_at, RM_not_s_token, RM_not_s_from, RM_not_s_figures, RM_not_s_fault, RM_not_s_told, RM_not_s_statements, RM_not_s_far, RM_not_s_queue, RM_not_s_queued, RM_not_s_parts1, RM_not_s_parts2, RM_not_s_picturesSum, RM_not_s_behindAll, RM_not_s_pl, RM_minutes_s_shelf, RM_minutes_s_rowSort, RM_minutes_s_rowSize, RM_minutes_s_rows, RM_minutes_s_moved1, RM_minutes_s_shown, RM_minutes_s_tape, RM_minutes_s_tapeSize, RM_minutes_s_refused, RM_minutes_s_bars, RM_minutes_s_kind, RM_minutes_s_size, RM_minutes_s_on, RM_minutes_s_stuck, RM_minutes_s_must, RM_minutes_s_not, RM_minutes_s_minutes, RM_minutes_s_movedAll, RM_minutes_s_seed, RM_minutes_s_at, RM_minutes_s_token, RM_minutes_s_from, RM_minutes_s_figures, RM_minutes_s_fault, RM_minutes_s_told, RM_minutes_s_statements, RM_minutes_s_far, RM_minutes_s_queue, RM_minutes_s_queued, RM_minutes_s_parts1, RM_minutes_s_parts2, RM_minutes_s_picturesSum, RM_minutes_s_behindAll, RM_minutes_s_pl, RM_movedAll_s_shelf, RM_movedAll_s_rowSort, RM_movedAll_s_rowSize, RM_movedAll_s_rows, RM_movedAll_s_moved1, RM_movedAll_s_shown, RM_movedAll_s_tape, RM_movedAll_s_tapeSize, RM_movedAll_s_refused, RM_movedAll_s_bars, RM_movedAll_s_kind, RM_movedAll_s_size, RM_movedAll_s_on, RM_movedAll_s_stuck, RM_movedAll_s_must, RM_movedAll_s_not, RM_movedAll_s_minutes, RM_movedAll_s_movedAll, RM_movedAll_s_seed, RM_movedAll_s_at, RM_movedAll_s_token, RM_movedAll_s_from, RM_movedAll_s_figures, RM_movedAll_s_fault, RM_movedAll_s_told, RM_movedAll_s_statements, RM_movedAll_s_far, RM_movedAll_s_queue, RM_movedAll_s_queued, RM_movedAll_s_parts1, RM_movedAll_s_parts2, RM_movedAll_s_picturesSum, RM_movedAll_s_behindAll, RM_movedAll_s_pl, RM_seed_s_shelf, RM_seed_s_rowSort, RM_seed_s_rowSize, RM_seed_s_rows, RM_seed_s_moved1, RM_seed_s_shown, RM_seed_s_tape, RM_seed_s_tapeSize, RM_seed_s_refused, RM_seed_s_bars, RM_seed_s_kind, RM_seed_s_size, RM_seed_s_on, RM_seed_s_stuck, RM_seed_s_must, RM_seed_s_not, RM_seed_s_minutes, RM_seed_s_movedAll, RM_seed_s_seed, RM_seed_s_at, RM_seed_s_token, RM_seed_s_from, RM_seed_s_figures, RM_seed_s_fault, RM_seed_s_told, RM_seed_s_statements, RM_seed_s_far, RM_seed_s_queue, RM_seed_s_queued, RM_seed_s_parts1, RM_seed_s_parts2, RM_seed_s_picturesSum, RM_seed_s_behindAll, RM_seed_s_pl, RM_at_s_shelf, RM_at_s_rowSort, RM_at_s_rowSize, RM_at_s_rows, RM_at_s_moved1, RM_at_s_shown, RM_at_s_tape, RM_at_s_tapeSize, RM_at_s_refused, RM_at_s_bars, RM_at_s_kind, RM_at_s_size, RM_at_s_on, RM_at_s_stuck, RM_at_s_must, RM_at_s_not, RM_at_s_minutes, RM_at_s_movedAll, RM_at_s_seed, RM_at_s_at, RM_at_s_token, RM_at_s_from, RM_at_s_figures, RM_at_s_fault, RM_at_s_told, RM_at_s_statements, RM_at_s_far, RM_at_s_queue, RM_at_s_queued, RM_at_s_parts1, RM_at_s_parts2, RM_at_s_picturesSum, RM_at_s_behindAll, RM_at_s_pl, RM_token_s_shelf, RM_token_s_rowSort, RM_token_s_rowSize, RM_token_s_rows, RM_token_s_moved1, RM_token_s_shown, RM_token_s_tape, RM_token_s_tapeSize, RM_token_s_refused, RM_token_s_bars, RM_token_s_kind, RM_token_s_size, RM_token_s_on, RM_token_s_stuck, RM_token_s_must, RM_token_s_not, RM_token_s_minutes, RM_token_s_movedAll, RM_token_s_seed, RM_token_s_at, RM_token_s_token, RM_token_s_from, RM_token_s_figures, RM_token_s_fault, RM_token_s_told, RM_token_s_statements, RM_token_s_far, RM_token_s_queue, RM_token_s_queued, RM_token_s_parts1, RM_token_s_parts2, RM_token_s_picturesSum, RM_token_s_behindAll, RM_token_s_pl, RM_from_s_shelf, RM_from_s_rowSort, RM_from_s_rowSize, RM_from_s_rows, RM_from_s_moved1, RM_from_s_shown, RM_from_s_tape, RM_from_s_tapeSize, RM_from_s_refused, RM_from_s_bars, RM_from_s_kind, RM_from_s_size, RM_from_s_on, RM_from_s_stuck, RM_from_s_must, RM_from_s_not, RM_from_s_minutes, RM_from_s_movedAll, RM_from_s_seed, RM_from_s_at, RM_from_s_token, RM_from_s_from, RM_from_s_figures, RM_from_s_fault, RM_from_s_told, RM_from_s_statements, RM_from_s_far, RM_from_s_queue, RM_from_s_queued, RM_from_s_parts1, RM_from_s_parts2, RM_from_s_picturesSum, RM_from_s_behindAll, RM_from_s_pl, RM_figures_s_shelf, RM_figures_s_rowSort, RM_figures_s_rowSize, RM_figures_s_rows, RM_figures_s_moved1, RM_figures_s_shown, RM_figures_s_tape, RM_figures_s_tapeSize, RM_figures_s_refused, RM_figures_s_bars, RM_figures_s_kind, RM_figures_s_size, RM_figures_s_on, RM_figures_s_stuck, RM_figures_s_must, RM_figures_s_not, RM_figures_s_minutes, RM_figures_s_movedAll, RM_figures_s_seed, RM_figures_s_at, RM_figures_s_token, RM_figures_s_from, RM_figures_s_figures, RM_figures_s_fault, RM_figures_s_told, RM_figures_s_statements, RM_figures_s_far, RM_figures_s_queue, RM_figures_s_queued, RM_figures_s_parts1, RM_figures_s_parts2, RM_figures_s_picturesSum, RM_figures_s_behindAll, RM_figures_s_pl, RM_fault_s_shelf, RM_fault_s_rowSort, RM_fault_s_rowSize, RM_fault_s_rows, RM_fault_s_moved1, RM_fault_s_shown, RM_fault_s_tape, RM_fault_s_tapeSize, RM_fault_s_refused, RM_fault_s_bars, RM_fault_s_kind, RM_fault_s_size, RM_fault_s_on, RM_fault_s_stuck, RM_fault_s_must, RM_fault_s_not, RM_fault_s_minutes, RM_fault_s_movedAll, RM_fault_s_seed, RM_fault_s_at, RM_fault_s_token, RM_fault_s_from, RM_fault_s_figures, RM_fault_s_fault, RM_fault_s_told, RM_fault_s_statements, RM_fault_s_far, RM_fault_s_queue, RM_fault_s_queued, RM_fault_s_parts1, RM_fault_s_parts2, RM_fault_s_picturesSum, RM_fault_s_behindAll, RM_fault_s_pl, RM_told_s_shelf, RM_told_s_rowSort, RM_told_s_rowSize, RM_told_s_rows, RM_told_s_moved1, RM_told_s_shown, RM_told_s_tape, RM_told_s_tapeSize, RM_told_s_refused, RM_told_s_bars, RM_told_s_kind, RM_told_s_size, RM_told_s_on, RM_told_s_stuck, RM_told_s_must, RM_told_s_not, RM_told_s_minutes, RM_told_s_movedAll, RM_told_s_seed, RM_told_s_at, RM_told_s_token, RM_told_s_from, RM_told_s_figures, RM_told_s_fault, RM_told_s_told, RM_told_s_statements, RM_told_s_far, RM_told_s_queue, RM_told_s_queued, RM_told_s_parts1, RM_told_s_parts2, RM_told_s_picturesSum, RM_told_s_behindAll, RM_told_s_pl, RM_statements_s_shelf, RM_statements_s_rowSort, RM_statements_s_rowSize, RM_statements_s_rows, RM_statements_s_moved1, RM_statements_s_shown, RM_statements_s_tape, RM_statements_s_tapeSize, RM_statements_s_refused, RM_statements_s_bars, RM_statements_s_kind, RM_statements_s_size, RM_statements_s_on, RM_statements_s_stuck, RM_statements_s_must, RM_statements_s_not, RM_statements_s_minutes, RM_statements_s_movedAll, RM_statements_s_seed, RM_statements_s_at, RM_statements_s_token, RM_statements_s_from, RM_statements_s_figures, RM_statements_s_fault, RM_statements_s_told, RM_statements_s_statements, RM_statements_s_far, RM_statements_s_queue, RM_statements_s_queued, RM_statements_s_parts1, RM_statements_s_parts2, RM_statements_s_picturesSum, RM_statements_s_behindAll, RM_statements_s_pl, RM_far_s_shelf, RM_far_s_rowSort, RM_far_s_rowSize, RM_far_s_rows, RM_far_s_moved1, RM_far_s_shown, RM_far_s_tape, RM_far_s_tapeSize, RM_far_s_refused, RM_far_s_bars, RM_far_s_kind, RM_far_s_size, RM_far_s_on, RM_far_s_stuck, RM_far_s_must, RM_far_s_not, RM_far_s_minutes, RM_far_s_movedAll, RM_far_s_seed, RM_far_s_at, RM_far_s_token, RM_far_s_from, RM_far_s_figures, RM_far_s_fault, RM_far_s_told, RM_far_s_statements, RM_far_s_far, RM_far_s_queue, RM_far_s_queued, RM_far_s_parts1, RM_far_s_parts2, RM_far_s_picturesSum, RM_far_s_behindAll, RM_far_s_pl, RM_queue_s_shelf, RM_queue_s_rowSort, RM_queue_s_rowSize, RM_queue_s_rows, RM_queue_s_moved1, RM_queue_s_shown, RM_queue_s_tape, RM_queue_s_tapeSize, RM_queue_s_refused, RM_queue_s_bars, RM_queue_s_kind, RM_queue_s_size, RM_queue_s_on, RM_queue_s_stuck, RM_queue_s_must, RM_queue_s_not, RM_queue_s_minutes, RM_queue_s_movedAll, RM_queue_s_seed, RM_queue_s_at, RM_queue_s_token, RM_queue_s_from, RM_queue_s_figures, RM_queue_s_fault, RM_queue_s_told, RM_queue_s_statements, RM_queue_s_far, RM_queue_s_queue, RM_queue_s_queued, RM_queue_s_parts1, RM_queue_s_parts2, RM_queue_s_picturesSum, RM_queue_s_behindAll, RM_queue_s_pl, RM_queued_s_shelf, RM_queued_s_rowSort, RM_queued_s_rowSize, RM_queued_s_rows, RM_queued_s_moved1, RM_queued_s_shown, RM_queued_s_tape, RM_queued_s_tapeSize, RM_queued_s_refused, RM_queued_s_bars, RM_queued_s_kind, RM_queued_s_size, RM_queued_s_on, RM_queued_s_stuck, RM_queued_s_must, RM_queued_s_not, RM_queued_s_minutes, RM_queued_s_movedAll, RM_queued_s_seed, RM_queued_s_at, RM_queued_s_token, RM_queued_s_from, RM_queued_s_figures, RM_queued_s_fault, RM_queued_s_told, RM_queued_s_statements, RM_queued_s_far, RM_queued_s_queue, RM_queued_s_queued, RM_queued_s_parts1, RM_queued_s_parts2, RM_queued_s_picturesSum, RM_queued_s_behindAll, RM_queued_s_pl, RM_parts1_s_shelf, RM_parts1_s_rowSort, RM_parts1_s_rowSize, RM_parts1_s_rows, RM_parts1_s_moved1, RM_parts1_s_shown, RM_parts1_s_tape, RM_parts1_s_tapeSize, RM_parts1_s_refused, RM_parts1_s_bars, RM_parts1_s_kind, RM_parts1_s_size, RM_parts1_s_on, RM_parts1_s_stuck, RM_parts1_s_must, RM_parts1_s_not, RM_parts1_s_minutes, RM_parts1_s_movedAll, RM_parts1_s_seed, RM_parts1_s_at, RM_parts1_s_token, RM_parts1_s_from, RM_parts1_s_figures, RM_parts1_s_fault, RM_parts1_s_told, RM_parts1_s_statements, RM_parts1_s_far, RM_parts1_s_queue, RM_parts1_s_queued, RM_parts1_s_parts1, RM_parts1_s_parts2, RM_parts1_s_picturesSum, RM_parts1_s_behindAll, RM_parts1_s_pl, RM_parts2_s_shelf, RM_parts2_s_rowSort, RM_parts2_s_rowSize, RM_parts2_s_rows, RM_parts2_s_moved1, RM_parts2_s_shown, RM_parts2_s_tape, RM_parts2_s_tapeSize, RM_parts2_s_refused, RM_parts2_s_bars, RM_parts2_s_kind, RM_parts2_s_size, RM_parts2_s_on, RM_parts2_s_stuck, RM_parts2_s_must, RM_parts2_s_not, RM_parts2_s_minutes, RM_parts2_s_movedAll, RM_parts2_s_seed, RM_parts2_s_at, RM_parts2_s_token, RM_parts2_s_from, RM_parts2_s_figures, RM_parts2_s_fault, RM_parts2_s_told, RM_parts2_s_statements, RM_parts2_s_far, RM_parts2_s_queue, RM_parts2_s_queued, RM_parts2_s_parts1, RM_parts2_s_parts2, RM_parts2_s_picturesSum, RM_parts2_s_behindAll, RM_parts2_s_pl, RM_picturesSum_s_shelf, RM_picturesSum_s_rowSort, RM_picturesSum_s_rowSize, RM_picturesSum_s_rows, RM_picturesSum_s_moved1, RM_picturesSum_s_shown, RM_picturesSum_s_tape, RM_picturesSum_s_tapeSize, RM_picturesSum_s_refused, RM_picturesSum_s_bars, RM_picturesSum_s_kind, RM_picturesSum_s_size, RM_picturesSum_s_on, RM_picturesSum_s_stuck, RM_picturesSum_s_must, RM_picturesSum_s_not, RM_picturesSum_s_minutes, RM_picturesSum_s_movedAll, RM_picturesSum_s_seed, RM_picturesSum_s_at, RM_picturesSum_s_token, RM_picturesSum_s_from, RM_picturesSum_s_figures, RM_picturesSum_s_fault, RM_picturesSum_s_told, RM_picturesSum_s_statements, RM_picturesSum_s_far, RM_picturesSum_s_queue, RM_picturesSum_s_queued, RM_picturesSum_s_parts1, RM_picturesSum_s_parts2, RM_picturesSum_s_picturesSum, RM_picturesSum_s_behindAll, RM_picturesSum_s_pl, RM_behindAll_s_shelf, RM_behindAll_s_rowSort, RM_behindAll_s_rowSize, RM_behindAll_s_rows, RM_behindAll_s_moved1, RM_behindAll_s_shown, RM_behindAll_s_tape, RM_behindAll_s_tapeSize, RM_behindAll_s_refused, RM_behindAll_s_bars, RM_behindAll_s_kind, RM_behindAll_s_size, RM_behindAll_s_on, RM_behindAll_s_stuck, RM_behindAll_s_must, RM_behindAll_s_not, RM_behindAll_s_minutes, RM_behindAll_s_movedAll, RM_behindAll_s_seed, RM_behindAll_s_at, RM_behindAll_s_token, RM_behindAll_s_from, RM_behindAll_s_figures, RM_behindAll_s_fault, RM_behindAll_s_told, RM_behindAll_s_statements, RM_behindAll_s_far, RM_behindAll_s_queue, RM_behindAll_s_queued, RM_behindAll_s_parts1, RM_behindAll_s_parts2, RM_behindAll_s_picturesSum, RM_behindAll_s_behindAll, RM_behindAll_s_pl, RM_pl_s_shelf, RM_pl_s_rowSort, RM_pl_s_rowSize, RM_pl_s_rows, RM_pl_s_moved1, RM_pl_s_shown, RM_pl_s_tape, RM_pl_s_tapeSize, RM_pl_s_refused, RM_pl_s_bars, RM_pl_s_kind, RM_pl_s_size, RM_pl_s_on, RM_pl_s_stuck, RM_pl_s_must, RM_pl_s_not, RM_pl_s_minutes, RM_pl_s_movedAll, RM_pl_s_seed, RM_pl_s_at, RM_pl_s_token, RM_pl_s_from, RM_pl_s_figures, RM_pl_s_fault, RM_pl_s_told, RM_pl_s_statements, RM_pl_s_far, RM_pl_s_queue, RM_pl_s_queued, RM_pl_s_parts1, RM_pl_s_parts2, RM_pl_s_picturesSum, RM_pl_s_behindAll, RM_pl_s_pl]
  have step : ∀ i, i < n → jw (RM_rows rm s) (aO a b) i < 2 ^ aZ a b → ∀ rec, M_X6_wrongIn_l13 NN s (nI n) (nI b) rec (RM_s_behindAll rm (nI (jw (RM_rows rm s) (aO a b) i)), nI i) = if gd (aL a b) (RM_rows rm s) (aO a b) i = true then rec (RM_s_behindAll rm (nI (jw (RM_rows rm s) (aO a b) (i + 1))), nI (i + 1)) else some (nI i, RM_s_behindAll rm (nI (jw (RM_rows rm s) (aO a b) i))) := by
    intro i hi hji rec
    unfold M_X6_wrongIn_l13
    simp only []
    rw [if_neg (by rw [nI_leI (by omega) (by omega)]; omega), if_neg (nI_in (by omega) (by omega)), if_neg (nI_in (by omega) (by omega)), RM_rows_s_behindAll, nI_clamp (n := i) (by omega), RM_behindAll_s_behindAll]
    unfold gd
    by_cases l : 0 ≤ (RM_rows rm s i).toInt ∧ (RM_rows rm s i).toInt ≤ 20
    · have hin : inr (RM_rows rm s i) = true := decide_eq_true l
      obtain ⟨m1, m2⟩ := inr_of hin
      have e32 : (RM_rows rm s i).toInt32 = nI (mvv (RM_rows rm s i)) := by
        rw [m2, lN_i]
        congr 1
        rw [← m2]
      rw [R_in1 (y := 0) (z := 20) l.1 l.2, Option.bind_some, if_neg n10, e32, R_may (h2.sg (sg_behindAll _ _)) h3 hb hji (by omega), Option.bind_some, hin, Bool.true_and]
      cases e : lgl (aL a b) (jw (RM_rows rm s) (aO a b) i) (mvv (RM_rows rm s i))
      · rw [if_neg (show ¬ ¬ oB false = 0 by decide), if_neg (show ¬ false = true by decide)]
      · rw [if_pos (show ¬ oB true = 0 by decide), if_pos rfl, if_neg (ix (by omega) (by omega)), M_mask m1, Option.bind_some, fb_xorI, nI_1, bb]
        rfl
    · have hin : inr (RM_rows rm s i) = false := decide_eq_false l
      rw [R_in0 (y := 0) (z := 20) l, hin, Bool.false_and, if_neg (show ¬ false = true by decide)]
      rfl
  have st0 : M_X6_wrongIn NN rm s (nI n) (nI b) = lp (M_X6_wrongIn_l13 NN s (nI n) (nI b)) NN (RM_s_behindAll rm (nI (aO a b)), 0) := by
    unfold M_X6_wrongIn
    rw [if_neg (E_in h3 hb), E_cl h3 hb, (h2.2.1 b hb4).2.2.1]
  refine ⟨RM_s_behindAll rm (nI (jw (RM_rows rm s) (aO a b) (wr (aL a b) (RM_rows rm s) (aO a b) n))), ?_, sg_behindAll _ _, rfl⟩
  rw [st0]
  refine lp_for (fun i => (RM_s_behindAll rm (nI (jw (RM_rows rm s) (aO a b) i)), nI i)) (wr (aL a b) (RM_rows rm s) (aO a b) n) (fun i hi rec => (step i (by omega) (hj i (by omega)) rec).trans (if_pos (w2 i hi))) (fun rec => ?_) (by show _ < 5000; omega)
  unfold wv
  by_cases l : wr (aL a b) (RM_rows rm s) (aO a b) n < n
  · rw [if_pos l]
    refine (step _ l (hj _ (Nat.le_refl _)) rec).trans (if_neg ?_)
    rw [w3 l]
    decide
  · have e : wr (aL a b) (RM_rows rm s) (aO a b) n = n := by omega
    rw [if_neg l, e]
    show M_X6_wrongIn_l13 NN s (nI n) (nI b) rec (RM_s_behindAll rm (nI (jw (RM_rows rm s) (aO a b) n)), nI n) = _
    unfold M_X6_wrongIn_l13
    simp only []
    rw [if_pos (by exact Int32.le_refl _)]
theorem wv_m {q : PL} {R : Nat → Int64} {on n : Nat} (hn : n ≤ 40) : wv q R on n = -1 ↔ wr q R on n = n := by
  have := (wr_ok q R on n).1
  unfold wv
  by_cases l : wr q R on n < n
  · rw [if_pos l, nI_pm (by omega)]
    constructor
    · intro z; cases z
    · intro z; omega
  · rw [if_neg l]
    exact ⟨fun _ => by omega, fun _ => rfl⟩
theorem pS_judge : S_judge INV := by
  intro ro nw kp dr sh tp lw se rm K T hI p1 p2 p3
  obtain ⟨a, h1, h2, h3, h4, h5, h6, h7, h8⟩ := id hI
  unfold M_X5_judge M_X6_judge
  rcases W_moves (ro := ro) (p1 := p1) (p2 := p2) (p3 := p3) h1 h2 h3 h4 with ⟨s, k, z, n, b, hs, rfl, g, rfl, hz, rfl, hb, e1, e2⟩ | ⟨j, hj, e1, e2⟩
  · have hz40 := g.2.2.1
    obtain ⟨lw', c1⟩ := C_judged (ro := ro) h1 h3 hs g hz hb lw
    obtain ⟨rm', r1, r2, r3⟩ := R_wrong (s := s) h2 h3 (show n ≤ 40 by omega) hb
    rw [e1, Option.bind_some, if_pos rfl, c1, e2, Option.bind_some, Option.bind_some, if_pos rfl, if_neg (S_in hs), S_cl hs, r1]
    exact ⟨_, rfl, _, rfl, rfl, hI.sg r2⟩
  · rw [e1, Option.bind_some, if_neg cd_ne, cd_rf hj, e2, Option.bind_some, Option.bind_some, if_neg cd_ne]
    exact ⟨_, rfl, _, rfl, rfl, hI.rf j⟩
theorem C_notMade {ro : RO} {nw : EV} {sh : SH} {rm : RM} {a : AE} {s k z n b : Nat} (h1 : EvA nw a) (h3 : OkA a) (hs : s < 8) (g : shR sh rm s k z) (hnz : n ≤ z) (hb : b < aN a) (lw : LW) (e : M_X5_whyNoMoves NN ro nw sh (nI s) (nI n) (nI b) = some 0) : ∃ lw', M_X5_whyNotMade NN ro nw sh lw (nI s) (nI n) (nI b) = some (if wr (aL a b) (RM_rows rm s) (aO a b) n = n then 0 else -5, lw') := by
  have hz40 := g.2.2.1
  obtain ⟨lw', c1⟩ := C_judged (ro := ro) h1 h3 hs g hnz hb lw
  refine ⟨lw', ?_⟩
  unfold M_X5_whyNotMade
  rw [e, Option.bind_some, if_pos rfl, c1, Option.bind_some]
  simp only []
  by_cases l : wr (aL a b) (RM_rows rm s) (aO a b) n = n
  · rw [if_neg (not_not_intro ((wv_m (by omega)).mpr l)), if_pos l]
  · rw [if_pos (fun z => l ((wv_m (by omega)).mp z)), if_neg l]
theorem C_onBehind {ro : RO} {nw : EV} {sh : SH} {rm : RM} {a : AE} {s k z n b : Nat} (h1 : EvA nw a) (h3 : OkA a) (hs : s < 8) (g : shR sh rm s k z) (hnz : n ≤ z) (hb : b < aN a) (hw : wr (aL a b) (RM_rows rm s) (aO a b) n = n) : M_X5_onBehind NN ro nw sh (nI s) (nI n) (nI b) = some (nI (jw (RM_rows rm s) (aO a b) n)) := by
  obtain ⟨hk, hz1, hz2, ho, ht, -⟩ := h3.2 b hb
  have hz40 := g.2.2.1
  obtain ⟨w1, w2, w3⟩ := wr_ok (aL a b) (RM_rows rm s) (aO a b) n
  rw [hw] at w2
  unfold M_X5_onBehind
  rw [E_on h1 h3 hb, Option.bind_some]
  refine lp_for (fun i => (nI (jw (RM_rows rm s) (aO a b) i), nI i)) n (fun i hi rec => ?_) (fun rec => ?_) (by show n < 5000; omega)
  · obtain ⟨m1, m2, m3⟩ := gd_mv (q := aL a b) hz2 (w2 i hi)
    have e32 : (RM_rows rm s i).toInt32 = nI (mvv (RM_rows rm s i)) := by
      rw [m2, lN_i]
      congr 1
      rw [← m2]
    show M_X5_onBehind_l13 NN ro nw sh (nI s) (nI n) (nI b) rec (nI (jw (RM_rows rm s) (aO a b) i), nI i) = rec (nI (jw (RM_rows rm s) (aO a b) i ^^^ mk (mvv (RM_rows rm s i))), nI (i + 1))
    unfold M_X5_onBehind_l13
    simp only []
    rw [if_neg (by rw [nI_leI (by omega) (by omega)]; omega), S_cell hs g (by omega), Option.bind_some, e32, C_rings m1, Option.bind_some, fb_xorI, nI_1]
  · show M_X5_onBehind_l13 NN ro nw sh (nI s) (nI n) (nI b) rec (nI (jw (RM_rows rm s) (aO a b) n), nI n) = _
    unfold M_X5_onBehind_l13
    simp only []
    rw [if_pos (by exact Int32.le_refl _)]
theorem pS_behind : S_behind INV := by
  intro ro nw kp dr sh tp lw se rm K T hI p1 p2 p3
  obtain ⟨a, h1, h2, h3, h4, h5, h6, h7, h8⟩ := id hI
  unfold M_X5_behind M_X6_behind
  rcases W_moves (ro := ro) (p1 := p1) (p2 := p2) (p3 := p3) h1 h2 h3 h4 with ⟨s, k, z, n, b, hs, rfl, g, rfl, hz, rfl, hb, e1, e2⟩ | ⟨j, hj, e1, e2⟩
  · have hz40 := g.2.2.1
    obtain ⟨lw', c1⟩ := C_notMade (ro := ro) h1 h3 hs g hz hb lw e1
    obtain ⟨rm', r1, r2, r3⟩ := R_wrong (s := s) h2 h3 (show n ≤ 40 by omega) hb
    rw [c1, Option.bind_some, e2, Option.bind_some, if_pos (show (0, rm).1 = (0 : Int32) from rfl), if_neg (S_in hs), S_cl hs, r1, Option.bind_some]
    simp only []
    by_cases l : wr (aL a b) (RM_rows rm s) (aO a b) n = n
    · rw [if_pos l, if_pos rfl, C_onBehind (ro := ro) h1 h3 hs g hz hb l, if_pos ((wv_m (by omega)).mpr l), r3, l]
      exact ⟨_, rfl, _, rfl, rfl, hI.sg r2⟩
    · rw [if_neg l, if_neg (show ¬ (-5 : Int32) = 0 by decide), xRf_ok.2.2.2.1, if_neg (fun z => l ((wv_m (by omega)).mp z)), mRf_ok.2.2.2.1]
      exact ⟨_, rfl, _, rfl, rfl, hI.sr 3 r2⟩
  · unfold M_X5_whyNotMade
    rw [e1, Option.bind_some, if_neg cd_ne, Option.bind_some]
    simp only []
    rw [if_neg cd_ne, cd_rf hj, e2, Option.bind_some, Option.bind_some, if_neg cd_ne]
    exact ⟨_, rfl, _, rfl, rfl, hI.rf j⟩
def aW2 (a : AE) (b v : Nat) (w : Int32) : AE := sV (sO a b v) w
theorem aMv_W (a : AE) (b v m : Nat) (w : Int32) : aMv (aW2 a b v w) b m = aW2 a b (v ^^^ mk m) (w + 1) := by
  have e : aO (aW2 a b v w) b = v := if_pos rfl
  have e2 : (fun i => if i = b then v ^^^ mk m else aO (aW2 a b v w) i) = fun i => if i = b then v ^^^ mk m else aO a i := by
    funext i
    by_cases h : i = b
    · rw [if_pos h, if_pos h]
    · rw [if_neg h, if_neg h]
      exact if_neg h
  unfold aMv
  rw [e]
  show sV (aN a, aK a, aZ a, (fun i => if i = b then v ^^^ mk m else aO (aW2 a b v w) i), aT a, aM a, aX a, aU a, w, aW a) (w + 1) = _
  rw [e2]
  rfl
theorem pS_moved : S_moved INV := by
  intro ro nw kp dr sh tp lw se rm K T hI p1 p2 p3
  obtain ⟨a, h1, h2, h3, h4, h5, h6, h7, h8⟩ := id hI
  unfold M_X5_moved M_X6_moved
  rcases W_moves (ro := ro) (p1 := p1) (p2 := p2) (p3 := p3) h1 h2 h3 h4 with ⟨s, k, z, n, b, hs, rfl, g, rfl, hz, rfl, hb, e1, e2⟩ | ⟨j, hj, e1, e2⟩
  · have hz40 := g.2.2.1
    have hb4 : b < 4 := by have := h3.1; omega
    obtain ⟨hk, hz1, hz2, ho, ht, -⟩ := h3.2 b hb
    obtain ⟨lw', c1⟩ := C_notMade (ro := ro) h1 h3 hs g hz hb lw e1
    obtain ⟨rm', r1, r2, r3⟩ := R_wrong (s := s) h2 h3 (show n ≤ 40 by omega) hb
    rw [c1, Option.bind_some, e2, Option.bind_some, if_pos (show (0, rm).1 = (0 : Int32) from rfl), if_neg (S_in hs), S_cl hs, r1, Option.bind_some]
    simp only []
    by_cases l : wr (aL a b) (RM_rows rm s) (aO a b) n = n
    · rw [if_pos l, if_pos rfl, if_pos ((wv_m (by omega)).mpr l)]
      simp only [E_cl h3 hb, if_neg (E_ix h3 hb)]
      obtain ⟨w1, w2, w3⟩ := wr_ok (aL a b) (RM_rows rm s) (aO a b) n
      rw [l] at w2 r3
      have hj : ∀ i, i ≤ n → jw (RM_rows rm s) (aO a b) i < 2 ^ aZ a b := fun i hi => jw_lt (q := aL a b) hz2 ho i (fun k hk => w2 k (by omega))
      have okk : ∀ i w, i ≤ n → OkA (aW2 a b (jw (RM_rows rm s) (aO a b) i) w) := fun i w hi => h3.sO (fun _ => hj i hi)
      obtain ⟨o1, ⟨nw', q1, q2⟩, q3⟩ := lp_inv (body := M_X5_moved_l24 NN sh (nI s) (nI n) (nI b)) (N := NN) (P := fun i Z => ∃ ev, Z = (ro, ev, lw', nI i) ∧ EvA ev (aW2 a b (jw (RM_rows rm s) (aO a b) i) (aV a + nI i))) (Qr := fun o => ∃ ev, o = (nI (jw (RM_rows rm s) (aO a b) n), ro, ev, lw') ∧ EvA ev (aW2 a b (jw (RM_rows rm s) (aO a b) n) (aV a + nI n))) n
        (fun i Z hi hP => by
          obtain ⟨ev, rfl, hev⟩ := hP
          obtain ⟨m1, m2, m3⟩ := gd_mv (q := aL a b) hz2 (w2 i hi)
          have e32 : (RM_rows rm s i).toInt32 = nI (mvv (RM_rows rm s i)) := by
            rw [m2, lN_i]
            congr 1
            rw [← m2]
          obtain ⟨ev', d1, d2⟩ := C_make (N := NN) hev (okk i _ (by omega)) (show b < aN (aW2 a b (jw (RM_rows rm s) (aO a b) i) (aV a + nI i)) from hb) m1
          rw [aMv_W, Int32.add_assoc, nI_1] at d2
          refine Or.inl ⟨_, ⟨ev', rfl, d2⟩, fun rec => ?_⟩
          unfold M_X5_moved_l24
          simp only []
          rw [if_neg (by rw [nI_leI (by omega) (by omega)]; omega), S_cell hs g (by omega), Option.bind_some, e32, d1, Option.bind_some, nI_1])
        (fun Z hP => by
          obtain ⟨ev, rfl, hev⟩ := hP
          refine ⟨_, ⟨ev, rfl, hev⟩, fun rec => ?_⟩
          unfold M_X5_moved_l24
          simp only []
          rw [if_pos (by exact Int32.le_refl _), E_on hev (okk n _ (Nat.le_refl _)) (show b < aN (aW2 a b (jw (RM_rows rm s) (aO a b) n) (aV a + nI n)) from hb), Option.bind_some, show aO (aW2 a b (jw (RM_rows rm s) (aO a b) n) (aV a + nI n)) b = jw (RM_rows rm s) (aO a b) n from if_pos rfl])
        (by show n < 5000; omega) (z := (ro, nw, lw', 0)) ⟨nw, rfl, h1.1, fun i hi => by
          refine ⟨(h1.2.1 i hi).1, (h1.2.1 i hi).2.1, ?_, (h1.2.1 i hi).2.2.2⟩
          show EV_ons nw i = nI (if i = b then aO a b else aO a i)
          rw [(h1.2.1 i hi).2.2.1]
          by_cases e : i = b
          · rw [if_pos e, e]
          · rw [if_neg e], h1.2.2.1, by
          refine ⟨?_, h1.2.2.2.2⟩
          show EV_moved nw = aV a + nI 0
          rw [h1.2.2.2.1, show nI 0 = (0 : Int32) from rfl, Int32.add_zero]⟩
      subst q1
      obtain ⟨R, x0, x1, x2, x3, x4, x5, x6, x7, x8, x9, x10, x11⟩ := mv_acc rm' (upd (RM_on rm') b (RM_behindAll rm')) (RM_movedAll rm' + nI n)
      rw [q3, RM_movedAll_s_on, ← x0]
      have h2' := h2.sg r2
      have hR : RmA R (aW2 a b (jw (RM_rows rm s) (aO a b) n) (aV a + nI n)) := by
        unfold RmA
        rw [x1, x2, x3, x4, x5, x6, x7, x8, x9, x10]
        refine ⟨h2'.1, fun i hi => ?_, h2'.2.2.1, ?_, h2'.2.2.2.2⟩
        · have g := h2'.2.1 i hi
          refine ⟨g.1, g.2.1, ?_, g.2.2.2⟩
          rw [r3]
          exact upd_nI g.2.2.1
        · show RM_movedAll rm' + nI n = aV a + nI n
          rw [h2'.2.2.2.1]
      refine ⟨_, rfl, _, rfl, ?_, _, q2, hR, okk n _ (Nat.le_refl _), (h4.sg r2).ne x11 (Nat.le_refl _), (h5.sg r2).ne x11, (h6.sg r2).ne x11, h7, PlA.ne (by unfold PlA; rw [r2.all.2.2.2.2.2.2.2.2.2.2.2.2.2.2.2.2.2.2]; exact h8) x11⟩
      show nI (jw (RM_rows rm s) (aO a b) n) = RM_on R b
      rw [x4, upd_eq, r3]
    · rw [if_neg l, if_neg (show ¬ (-5 : Int32) = 0 by decide), xRf_ok.2.2.2.1, if_neg (fun z => l ((wv_m (by omega)).mp z)), mRf_ok.2.2.2.1]
      exact ⟨_, rfl, _, rfl, rfl, hI.sr 3 r2⟩
  · unfold M_X5_whyNotMade
    rw [e1, Option.bind_some, if_neg cd_ne, Option.bind_some]
    simp only []
    rw [if_neg cd_ne, cd_rf hj, e2, Option.bind_some, Option.bind_some, if_neg cd_ne]
    exact ⟨_, rfl, _, rfl, rfl, hI.rf j⟩
