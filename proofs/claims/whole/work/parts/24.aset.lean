theorem wRM_o_kind {g : gG} {ad : Nat → Nat} {eK eT : Option Nat} {z : RM} (v : Nat → Int32) : (wRM g ad eK eT z).set 17 (ad 17, .inl (g.2.1, 4, .inl v)) = wRM g ad eK eT (RM_s_kind z v) := rfl
theorem wRM_o_size {g : gG} {ad : Nat → Nat} {eK eT : Option Nat} {z : RM} (v : Nat → Int32) : (wRM g ad eK eT z).set 18 (ad 18, .inl (g.2.1, 4, .inl v)) = wRM g ad eK eT (RM_s_size z v) := rfl
theorem wRM_o_on {g : gG} {ad : Nat → Nat} {eK eT : Option Nat} {z : RM} (v : Nat → Int32) : (wRM g ad eK eT z).set 19 (ad 19, .inl (g.2.1, 4, .inl v)) = wRM g ad eK eT (RM_s_on z v) := rfl
theorem wRM_o_stuck {g : gG} {ad : Nat → Nat} {eK eT : Option Nat} {z : RM} (v : Nat → Int32) : (wRM g ad eK eT z).set 20 (ad 20, .inl (g.2.1, 4, .inl v)) = wRM g ad eK eT (RM_s_stuck z v) := rfl
theorem wRM_o_minutes {g : gG} {ad : Nat → Nat} {eK eT : Option Nat} {z : RM} (v : Nat → Int32) : (wRM g ad eK eT z).set 31 (ad 31, .inl (g.2.1, 10, .inl v)) = wRM g ad eK eT (RM_s_minutes z v) := rfl
/-- the two arrays of chances, changed or not -/
def swB (b : Bool) (ad : Nat → Nat) : Nat → Nat := fun k => if k = 4 then (bif b then ad 5 else ad 4) else if k = 5 then (bif b then ad 4 else ad 5) else ad k
def SE_swp (z : SE) : SE := SE_s_nextParts (SE_s_parts z (SE_nextParts z)) (SE_parts z)
def adP (q1 q2 : Nat) (ad : Nat → Nat) : Nat → Nat := fun k => if k = 35 then q1 else if k = 36 then q2 else ad k
def RM_alloc (z : RM) : RM := RM_s_pl (RM_s_parts2 (RM_s_parts1 z (fun _ => 0)) (fun _ => 0)) 1024
abbrev wRM1 (g : gG) (ad : Nat → Nat) (eK eT : Option Nat) (z : RM) (q1 q2 : Nat) : va_W := (wRM g ad eK eT z).set 0 (ad 0, .inr (6, [.ref (ad 1), .ref (ad 2), .ref (ad 3), .ref (ad 4), .ref (ad 13), .ref (ad 14), .ref (ad 15), .int (RM_tapeSize z), .ref (ad 16), .int (RM_bars z), .ref (ad 17), .ref (ad 18), .ref (ad 19), .ref (ad 20), .ref (ad 21), .ref (ad 26), .ref (ad 31), .int (RM_movedAll z), .int (RM_seed z), va_rf eK, va_rf eT, .int (RM_at z), .int (RM_token z), .int (RM_from z), .int (RM_figures z), .int (RM_fault z), .ref (ad 32), .int (RM_statements z), .ref (ad 33), .ref (ad 34), .int (RM_queued z), .ref q1, .ref q2, .int (RM_picturesSum z), .int (RM_behindAll z)]))
theorem adP_eq (q1 q2 : Nat) (ad : Nat → Nat) (b n : Nat) (h : b + n ≤ 35) : (fun j => if j < n then some (ad (b + j)) else none) = fun j => if j < n then some (adP q1 q2 ad (b + j)) else none := by
  funext j
  by_cases hj : j < n
  · rw [if_pos hj, if_pos hj, adP, if_neg (by omega), if_neg (by omega)]
  · rw [if_neg hj, if_neg hj]
theorem RA_shelf (z : RM) : RM_shelf (RM_alloc z) = RM_shelf z := (RM_shelf_s_pl _ _).trans ((RM_shelf_s_parts2 _ _).trans (RM_shelf_s_parts1 _ _))
theorem RA_rowSort (z : RM) : RM_rowSort (RM_alloc z) = RM_rowSort z := (RM_rowSort_s_pl _ _).trans ((RM_rowSort_s_parts2 _ _).trans (RM_rowSort_s_parts1 _ _))
theorem RA_rowSize (z : RM) : RM_rowSize (RM_alloc z) = RM_rowSize z := (RM_rowSize_s_pl _ _).trans ((RM_rowSize_s_parts2 _ _).trans (RM_rowSize_s_parts1 _ _))
theorem RA_rows (z : RM) : RM_rows (RM_alloc z) = RM_rows z := (RM_rows_s_pl _ _).trans ((RM_rows_s_parts2 _ _).trans (RM_rows_s_parts1 _ _))
theorem RA_moved1 (z : RM) : RM_moved1 (RM_alloc z) = RM_moved1 z := (RM_moved1_s_pl _ _).trans ((RM_moved1_s_parts2 _ _).trans (RM_moved1_s_parts1 _ _))
theorem RA_shown (z : RM) : RM_shown (RM_alloc z) = RM_shown z := (RM_shown_s_pl _ _).trans ((RM_shown_s_parts2 _ _).trans (RM_shown_s_parts1 _ _))
theorem RA_tape (z : RM) : RM_tape (RM_alloc z) = RM_tape z := (RM_tape_s_pl _ _).trans ((RM_tape_s_parts2 _ _).trans (RM_tape_s_parts1 _ _))
theorem RA_tapeSize (z : RM) : RM_tapeSize (RM_alloc z) = RM_tapeSize z := (RM_tapeSize_s_pl _ _).trans ((RM_tapeSize_s_parts2 _ _).trans (RM_tapeSize_s_parts1 _ _))
theorem RA_refused (z : RM) : RM_refused (RM_alloc z) = RM_refused z := (RM_refused_s_pl _ _).trans ((RM_refused_s_parts2 _ _).trans (RM_refused_s_parts1 _ _))
theorem RA_bars (z : RM) : RM_bars (RM_alloc z) = RM_bars z := (RM_bars_s_pl _ _).trans ((RM_bars_s_parts2 _ _).trans (RM_bars_s_parts1 _ _))
theorem RA_kind (z : RM) : RM_kind (RM_alloc z) = RM_kind z := (RM_kind_s_pl _ _).trans ((RM_kind_s_parts2 _ _).trans (RM_kind_s_parts1 _ _))
theorem RA_size (z : RM) : RM_size (RM_alloc z) = RM_size z := (RM_size_s_pl _ _).trans ((RM_size_s_parts2 _ _).trans (RM_size_s_parts1 _ _))
theorem RA_on (z : RM) : RM_on (RM_alloc z) = RM_on z := (RM_on_s_pl _ _).trans ((RM_on_s_parts2 _ _).trans (RM_on_s_parts1 _ _))
theorem RA_stuck (z : RM) : RM_stuck (RM_alloc z) = RM_stuck z := (RM_stuck_s_pl _ _).trans ((RM_stuck_s_parts2 _ _).trans (RM_stuck_s_parts1 _ _))
theorem RA_must (z : RM) : RM_must (RM_alloc z) = RM_must z := (RM_must_s_pl _ _).trans ((RM_must_s_parts2 _ _).trans (RM_must_s_parts1 _ _))
theorem RA_not (z : RM) : RM_not (RM_alloc z) = RM_not z := (RM_not_s_pl _ _).trans ((RM_not_s_parts2 _ _).trans (RM_not_s_parts1 _ _))
theorem RA_minutes (z : RM) : RM_minutes (RM_alloc z) = RM_minutes z := (RM_minutes_s_pl _ _).trans ((RM_minutes_s_parts2 _ _).trans (RM_minutes_s_parts1 _ _))
theorem RA_movedAll (z : RM) : RM_movedAll (RM_alloc z) = RM_movedAll z := (RM_movedAll_s_pl _ _).trans ((RM_movedAll_s_parts2 _ _).trans (RM_movedAll_s_parts1 _ _))
theorem RA_seed (z : RM) : RM_seed (RM_alloc z) = RM_seed z := (RM_seed_s_pl _ _).trans ((RM_seed_s_parts2 _ _).trans (RM_seed_s_parts1 _ _))
theorem RA_at (z : RM) : RM_at (RM_alloc z) = RM_at z := (RM_at_s_pl _ _).trans ((RM_at_s_parts2 _ _).trans (RM_at_s_parts1 _ _))
theorem RA_token (z : RM) : RM_token (RM_alloc z) = RM_token z := (RM_token_s_pl _ _).trans ((RM_token_s_parts2 _ _).trans (RM_token_s_parts1 _ _))
theorem RA_from (z : RM) : RM_from (RM_alloc z) = RM_from z := (RM_from_s_pl _ _).trans ((RM_from_s_parts2 _ _).trans (RM_from_s_parts1 _ _))
theorem RA_figures (z : RM) : RM_figures (RM_alloc z) = RM_figures z := (RM_figures_s_pl _ _).trans ((RM_figures_s_parts2 _ _).trans (RM_figures_s_parts1 _ _))
theorem RA_fault (z : RM) : RM_fault (RM_alloc z) = RM_fault z := (RM_fault_s_pl _ _).trans ((RM_fault_s_parts2 _ _).trans (RM_fault_s_parts1 _ _))
theorem RA_told (z : RM) : RM_told (RM_alloc z) = RM_told z := (RM_told_s_pl _ _).trans ((RM_told_s_parts2 _ _).trans (RM_told_s_parts1 _ _))
theorem RA_statements (z : RM) : RM_statements (RM_alloc z) = RM_statements z := (RM_statements_s_pl _ _).trans ((RM_statements_s_parts2 _ _).trans (RM_statements_s_parts1 _ _))
theorem RA_far (z : RM) : RM_far (RM_alloc z) = RM_far z := (RM_far_s_pl _ _).trans ((RM_far_s_parts2 _ _).trans (RM_far_s_parts1 _ _))
theorem RA_queue (z : RM) : RM_queue (RM_alloc z) = RM_queue z := (RM_queue_s_pl _ _).trans ((RM_queue_s_parts2 _ _).trans (RM_queue_s_parts1 _ _))
theorem RA_queued (z : RM) : RM_queued (RM_alloc z) = RM_queued z := (RM_queued_s_pl _ _).trans ((RM_queued_s_parts2 _ _).trans (RM_queued_s_parts1 _ _))
theorem RA_parts1 (z : RM) : RM_parts1 (RM_alloc z) = (fun _ => 0) := (RM_parts1_s_pl _ _).trans ((RM_parts1_s_parts2 _ _).trans (RM_parts1_s_parts1 _ _))
theorem RA_parts2 (z : RM) : RM_parts2 (RM_alloc z) = (fun _ => 0) := (RM_parts2_s_pl _ _).trans (RM_parts2_s_parts2 _ _)
theorem RA_picturesSum (z : RM) : RM_picturesSum (RM_alloc z) = RM_picturesSum z := (RM_picturesSum_s_pl _ _).trans ((RM_picturesSum_s_parts2 _ _).trans (RM_picturesSum_s_parts1 _ _))
theorem RA_behindAll (z : RM) : RM_behindAll (RM_alloc z) = RM_behindAll z := (RM_behindAll_s_pl _ _).trans ((RM_behindAll_s_parts2 _ _).trans (RM_behindAll_s_parts1 _ _))
theorem RA_pl (z : RM) : RM_pl (RM_alloc z) = 1024 := RM_pl_s_pl _ _
set_option maxHeartbeats 1000000 in
set_option maxRecDepth 100000 in
theorem wRM_alloc {g : gG} {ad : Nat → Nat} {eK eT : Option Nat} {z : RM} {q1 q2 : Nat} : [0, 1, 2, 3, 4, 5, 6, 7, 8, 9, 10, 11, 12, 13, 14, 15, 16, 17, 18, 19, 20, 21, 22, 23, 24, 25, 26, 27, 28, 29, 30, 31, 32, 33, 34, 37, 38].map (fun i => ([wRM1 g ad eK eT z q1 q2, [(q1, .inl (g.2.1, 1024, .inl (fun _ => 0)))], [(q2, .inl (g.2.1, 1024, .inl (fun _ => 0)))]] : List va_W).flatten[i]?) = ([wRM g (adP q1 q2 ad) eK eT (RM_alloc z)] : List va_W).flatten.map some := by
  have e1 := adP_eq q1 q2 ad 5 8 (by decide)
  have e2 := adP_eq q1 q2 ad 22 4 (by decide)
  have e3 := adP_eq q1 q2 ad 27 4 (by decide)
  have e4 : wRM g (adP q1 q2 ad) eK eT (RM_alloc z) = [(ad 0, .inr (6, [.ref (ad 1), .ref (ad 2), .ref (ad 3), .ref (ad 4), .ref (ad 13), .ref (ad 14), .ref (ad 15), .int (RM_tapeSize z), .ref (ad 16), .int (RM_bars z), .ref (ad 17), .ref (ad 18), .ref (ad 19), .ref (ad 20), .ref (ad 21), .ref (ad 26), .ref (ad 31), .int (RM_movedAll z), .int (RM_seed z), va_rf eK, va_rf eT, .int (RM_at z), .int (RM_token z), .int (RM_from z), .int (RM_figures z), .int (RM_fault z), .ref (ad 32), .int (RM_statements z), .ref (ad 33), .ref (ad 34), .int (RM_queued z), .ref q1, .ref q2, .int (RM_picturesSum z), .int (RM_behindAll z)])), (ad 1, .inl (g.2.1, 8, .inl (RM_shelf z))), (ad 2, .inl (g.2.1, 8, .inl (RM_rowSort z))), (ad 3, .inl (g.2.1, 8, .inl (RM_rowSize z))), (ad 4, .inl (g.2.2.2.2.1, 8, .inr (.inr (.inr (.inr (fun j => if j < 8 then some (ad (5 + j)) else none)))))), (ad 5, .inl (g.2.2.1, 40, .inr (.inl (RM_rows z 0)))), (ad 6, .inl (g.2.2.1, 40, .inr (.inl (RM_rows z 1)))), (ad 7, .inl (g.2.2.1, 40, .inr (.inl (RM_rows z 2)))), (ad 8, .inl (g.2.2.1, 40, .inr (.inl (RM_rows z 3)))), (ad 9, .inl (g.2.2.1, 40, .inr (.inl (RM_rows z 4)))), (ad 10, .inl (g.2.2.1, 40, .inr (.inl (RM_rows z 5)))), (ad 11, .inl (g.2.2.1, 40, .inr (.inl (RM_rows z 6)))), (ad 12, .inl (g.2.2.1, 40, .inr (.inl (RM_rows z 7)))), (ad 13, .inl (g.2.2.1, 40, .inr (.inl (RM_moved1 z)))), (ad 14, .inl (g.2.1, 8, .inl (RM_shown z))), (ad 15, .inl (g.2.1, 250, .inl (RM_tape z))), (ad 16, .inl (g.2.1, 8, .inl (RM_refused z))), (ad 17, .inl (g.2.1, 4, .inl (RM_kind z))), (ad 18, .inl (g.2.1, 4, .inl (RM_size z))), (ad 19, .inl (g.2.1, 4, .inl (RM_on z))), (ad 20, .inl (g.2.1, 4, .inl (RM_stuck z))), (ad 21, .inl (g.2.2.2.1, 4, .inr (.inr (.inr (.inr (fun j => if j < 4 then some (ad (22 + j)) else none)))))), (ad 22, .inl (g.2.1, 10, .inl (RM_must z 0))), (ad 23, .inl (g.2.1, 10, .inl (RM_must z 1))), (ad 24, .inl (g.2.1, 10, .inl (RM_must z 2))), (ad 25, .inl (g.2.1, 10, .inl (RM_must z 3))), (ad 26, .inl (g.2.2.2.1, 4, .inr (.inr (.inr (.inr (fun j => if j < 4 then some (ad (27 + j)) else none)))))), (ad 27, .inl (g.2.1, 10, .inl (RM_not z 0))), (ad 28, .inl (g.2.1, 10, .inl (RM_not z 1))), (ad 29, .inl (g.2.1, 10, .inl (RM_not z 2))), (ad 30, .inl (g.2.1, 10, .inl (RM_not z 3))), (ad 31, .inl (g.2.1, 10, .inl (RM_minutes z))), (ad 32, .inl (g.2.1, 4, .inl (RM_told z))), (ad 33, .inl (g.2.1, 1024, .inl (RM_far z))), (ad 34, .inl (g.2.1, 1024, .inl (RM_queue z))), (q1, .inl (g.2.1, 1024, .inl (fun _ => 0))), (q2, .inl (g.2.1, 1024, .inl (fun _ => 0)))] := by
    unfold wRM
    rw [← e1, ← e2, ← e3]
    simp only [RA_shelf, RA_rowSort, RA_rowSize, RA_rows, RA_moved1, RA_shown, RA_tape, RA_tapeSize, RA_refused, RA_bars, RA_kind, RA_size, RA_on, RA_stuck, RA_must, RA_not, RA_minutes, RA_movedAll, RA_seed, RA_at, RA_token, RA_from, RA_figures, RA_fault, RA_told, RA_statements, RA_far, RA_queue, RA_queued, RA_parts1, RA_parts2, RA_picturesSum, RA_behindAll, RA_pl]
    rfl
  rw [e4]
  rfl
