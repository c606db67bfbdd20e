/-! shelves: row, set, copy, element, holds, show -/
theorem t_0 : (0 : Int32).toInt = 0 := rfl
theorem t_1 : (1 : Int32).toInt = 1 := rfl
theorem t_2 : (2 : Int32).toInt = 2 := rfl
theorem t_3 : (3 : Int32).toInt = 3 := rfl
theorem t_4 : (4 : Int32).toInt = 4 := rfl
theorem t_5 : (5 : Int32).toInt = 5 := rfl
theorem t_7 : (7 : Int32).toInt = 7 := rfl
theorem t_8 : (8 : Int32).toInt = 8 := rfl
theorem t_9 : (9 : Int32).toInt = 9 := rfl
theorem t_10 : (10 : Int32).toInt = 10 := rfl
theorem t_12 : (12 : Int32).toInt = 12 := rfl
theorem t_16 : (16 : Int32).toInt = 16 := rfl
theorem t_20 : (20 : Int32).toInt = 20 := rfl
theorem t_40 : (40 : Int32).toInt = 40 := rfl
theorem t_60 : (60 : Int32).toInt = 60 := rfl
theorem t_99 : (99 : Int32).toInt = 99 := rfl
theorem t_255 : (255 : Int32).toInt = 255 := rfl
theorem t_256 : (256 : Int32).toInt = 256 := rfl
theorem t_250 : (250 : Int32).toInt = 250 := rfl
theorem t_99999 : (99999 : Int32).toInt = 99999 := rfl
theorem t_m1 : (-1 : Int32).toInt = -1 := rfl
theorem ne_01 : ((0 : Int32) = 1) = False := eq_false (by decide)
theorem ne_02 : ((0 : Int32) = 2) = False := eq_false (by decide)
theorem ne_03 : ((0 : Int32) = 3) = False := eq_false (by decide)
theorem ne_04 : ((0 : Int32) = 4) = False := eq_false (by decide)
theorem ne_05 : ((0 : Int32) = 5) = False := eq_false (by decide)
theorem ne_10 : ((1 : Int32) = 0) = False := eq_false (by decide)
theorem ne_12 : ((1 : Int32) = 2) = False := eq_false (by decide)
theorem ne_13 : ((1 : Int32) = 3) = False := eq_false (by decide)
theorem ne_14 : ((1 : Int32) = 4) = False := eq_false (by decide)
theorem ne_15 : ((1 : Int32) = 5) = False := eq_false (by decide)
theorem ne_20 : ((2 : Int32) = 0) = False := eq_false (by decide)
theorem ne_21 : ((2 : Int32) = 1) = False := eq_false (by decide)
theorem ne_23 : ((2 : Int32) = 3) = False := eq_false (by decide)
theorem ne_24 : ((2 : Int32) = 4) = False := eq_false (by decide)
theorem ne_25 : ((2 : Int32) = 5) = False := eq_false (by decide)
theorem ne_30 : ((3 : Int32) = 0) = False := eq_false (by decide)
theorem ne_31 : ((3 : Int32) = 1) = False := eq_false (by decide)
theorem ne_32 : ((3 : Int32) = 2) = False := eq_false (by decide)
theorem ne_34 : ((3 : Int32) = 4) = False := eq_false (by decide)
theorem ne_35 : ((3 : Int32) = 5) = False := eq_false (by decide)
theorem ne_40 : ((4 : Int32) = 0) = False := eq_false (by decide)
theorem ne_41 : ((4 : Int32) = 1) = False := eq_false (by decide)
theorem ne_42 : ((4 : Int32) = 2) = False := eq_false (by decide)
theorem ne_43 : ((4 : Int32) = 3) = False := eq_false (by decide)
theorem ne_45 : ((4 : Int32) = 5) = False := eq_false (by decide)
theorem ne_50 : ((5 : Int32) = 0) = False := eq_false (by decide)
theorem ne_51 : ((5 : Int32) = 1) = False := eq_false (by decide)
theorem ne_52 : ((5 : Int32) = 2) = False := eq_false (by decide)
theorem ne_53 : ((5 : Int32) = 3) = False := eq_false (by decide)
theorem ne_54 : ((5 : Int32) = 4) = False := eq_false (by decide)
theorem ShA_put {sh sh' : SH} {rm rm' : RM} {n s : Nat} (h : ShA sh rm n) (ho : ∀ x, x < 8 → x ≠ s → SH_held sh' x = SH_held sh x ∧ SH_lengths sh' x = SH_lengths sh x ∧ RM_shelf rm' x = RM_shelf rm x ∧ RM_rowSort rm' x = RM_rowSort rm x ∧ RM_rowSize rm' x = RM_rowSize rm x ∧ RM_shown rm' x = RM_shown rm x ∧ ∀ i, i < 40 → SH_cells sh' (x * 40 + i) = SH_cells sh (x * 40 + i) ∧ RM_rows rm' x i = RM_rows rm x i) (hs : shF sh' rm' s ∨ (∃ k z, shR sh' rm' s k z) ∨ ∃ b, shB sh' rm' n s b) : ShA sh' rm' n := by
  apply sh_of
  intro x hx
  by_cases e : x = s
  · rw [e]; exact hs
  · obtain ⟨a1, a2, a3, a4, a5, a6, a7⟩ := ho x hx e
    rcases sh_cases h hx with g | ⟨k, z, g⟩ | ⟨b, g⟩
    · exact Or.inl ⟨by rw [a3]; exact g.1, by rw [a1]; exact g.2⟩
    · refine Or.inr (Or.inl ⟨k, z, by rw [a3]; exact g.1, g.2.1, g.2.2.1, by rw [a1]; exact g.2.2.2.1, by rw [a4]; exact g.2.2.2.2.1, by rw [a2]; exact g.2.2.2.2.2.1, by rw [a5]; exact g.2.2.2.2.2.2.1, fun i hi => ?_⟩)
      have := g.2.2.1
      rw [(a7 i (by omega)).1, (a7 i (by omega)).2]
      exact g.2.2.2.2.2.2.2 i hi
    · exact Or.inr (Or.inr ⟨b, by rw [a3]; exact g.1, g.2.1, by rw [a1]; exact g.2.2.1, by rw [a6]; exact g.2.2.2⟩)
theorem upd_ne {f : Nat → Int32} {k j : Nat} {x : Int32} (h : j ≠ k) : upd f k x j = f j := if_neg h
theorem upd_eq (f : Nat → Int32) (k : Nat) (x : Int32) : upd f k x k = x := if_pos rfl
theorem r_in7 {N s : Nat} (hs : s < 8) : M_X6_in N (nI s).toInt64 0 7 = some 1 := R_q1 ⟨s, hs, rfl⟩ rfl (by omega)
theorem r_no7 {N : Nat} {p : Int32} (hp : ¬ vI 8 p) : M_X6_in N p.toInt64 0 7 = some 0 := R_q0 hp rfl (by omega)
theorem C_holdRow {sh : SH} {s z : Nat} {k : Int32} (hs : s < 8) (hz : z ≤ 40) : ∃ C, M_X3_holdRow NN sh (nI s) k (nI z) = some (SH_s_cells (SH_s_lengths (SH_s_held sh (upd (SH_held sh) s k)) (upd (SH_lengths sh) s (nI z))) C) ∧ ∀ j, C j = if s * 40 ≤ j ∧ j < s * 40 + z then 0 else SH_cells sh j := by
  unfold M_X3_holdRow
  rw [S_is hs, Option.bind_some, if_neg (by decide), if_neg (nI_pos (by omega)), if_pos (by rw [q_le_40 (by omega)]; exact hz), if_neg (S_in hs), if_neg (S_in hs), S_cl hs]
  obtain ⟨r, ⟨C, h1, h2⟩, h3⟩ := lp_inv (body := M_X3_holdRow_l35 NN (nI s) k (nI z)) (N := NN) (P := fun i Z => ∃ C, Z = (SH_s_cells (SH_s_lengths (SH_s_held sh (upd (SH_held sh) s k)) (upd (SH_lengths sh) s (nI z))) C, nI i) ∧ ∀ j, C j = if s * 40 ≤ j ∧ j < s * 40 + i then 0 else SH_cells sh j) (Qr := fun r => ∃ C, r = SH_s_cells (SH_s_lengths (SH_s_held sh (upd (SH_held sh) s k)) (upd (SH_lengths sh) s (nI z))) C ∧ ∀ j, C j = if s * 40 ≤ j ∧ j < s * 40 + z then 0 else SH_cells sh j) z
    (fun i Z hi hP => by
      obtain ⟨C, rfl, h2⟩ := hP
      refine Or.inl ⟨(SH_s_cells (SH_s_lengths (SH_s_held sh (upd (SH_held sh) s k)) (upd (SH_lengths sh) s (nI z))) (vp_updL C (s * 40 + i) 0), nI (i + 1)), ⟨_, rfl, fun j => ?_⟩, fun rec => ?_⟩
      · unfold vp_updL
        by_cases e : j = s * 40 + i
        · rw [if_pos e, if_pos (by omega)]
        · rw [if_neg e, h2 j]
          by_cases g : s * 40 ≤ j ∧ j < s * 40 + i
          · rw [if_pos g, if_pos (by omega)]
          · rw [if_neg g, if_neg (by omega)]
      · unfold M_X3_holdRow_l35
        simp only []
        rw [if_neg (by rw [nI_leI (by omega) (by omega)]; omega), at40 hs (by omega), if_neg (nI_in (by omega) (by omega)), nI_clamp (by omega), nI_1]
        rfl)
    (fun Z hP => by
      obtain ⟨C, rfl, h2⟩ := hP
      refine ⟨_, ⟨C, rfl, h2⟩, fun rec => ?_⟩
      unfold M_X3_holdRow_l35
      simp only []
      rw [if_pos (by rw [nI_leI (by omega) (by omega)]; exact Nat.le_refl _)])
    (by show z < 5000; omega) (z := (SH_s_lengths (SH_s_held sh (upd (SH_held sh) s k)) (upd (SH_lengths sh) s (nI z)), 0)) ⟨SH_cells sh, rfl, fun j => by rw [if_neg (by omega)]⟩
  exact ⟨C, by rw [← h1]; exact h3, h2⟩
theorem R_rowl {rm : RM} {s : Nat} {k p3 : Int32} (hs : s < 8) : ∃ R, lp (M_X6_row_l67 NN (nI s) k p3) NN (rm, 0) = some (1, RM_s_rows rm R) ∧ (∀ i, i < 40 → R s i = 0) ∧ ∀ x i, x ≠ s → R x i = RM_rows rm x i := by
  obtain ⟨r, ⟨R, h1, h2⟩, h3⟩ := lp_inv (body := M_X6_row_l67 NN (nI s) k p3) (N := NN) (P := fun i Z => ∃ R, Z = (RM_s_rows rm R, nI i) ∧ (∀ j, j < i → R s j = 0) ∧ ∀ x j, x ≠ s → R x j = RM_rows rm x j) (Qr := fun r => ∃ R, r = (1, RM_s_rows rm R) ∧ (∀ j, j < 40 → R s j = 0) ∧ ∀ x j, x ≠ s → R x j = RM_rows rm x j) 40
    (fun i Z hi hP => by
      obtain ⟨R, rfl, h2, h3⟩ := hP
      refine Or.inl ⟨(RM_s_rows rm (va_up R s (vp_updL (R s) i 0)), nI (i + 1)), ⟨_, rfl, fun j hj => ?_, fun x j hx => ?_⟩, fun rec => ?_⟩
      · unfold va_up
        rw [if_pos rfl]
        unfold vp_updL
        by_cases e : j = i
        · rw [if_pos e]
        · rw [if_neg e]; exact h2 j (by omega)
      · unfold va_up
        rw [if_neg hx]
        exact h3 x j hx
      · unfold M_X6_row_l67
        simp only []
        rw [if_neg (by rw [q_ge_40 (by omega)]; omega), if_neg (S_in hs), if_neg (nI_in (by omega) (by omega)), nI_clamp (n := i) (by omega), nI_1, S_cl hs]
        rfl)
    (fun Z hP => by
      obtain ⟨R, rfl, h2⟩ := hP
      refine ⟨_, ⟨R, rfl, h2⟩, fun rec => ?_⟩
      unfold M_X6_row_l67
      simp only []
      rw [if_pos (by decide)])
    (by decide) (z := (rm, 0)) ⟨RM_rows rm, rfl, fun j hj => absurd hj (Nat.not_lt_zero j), fun _ _ _ => rfl⟩
  exact ⟨R, by rw [← h1]; exact h3, h2⟩
theorem pS_row : S_row INV := by
  intro ro nw kp dr sh tp lw se rm K T hI p1 p2 p3
  obtain ⟨a, h1, h2, h3, h4, h5, h6, h7, h8⟩ := id hI
  by_cases hp : vI 8 p1 ∧ vI 5 p2 ∧ vI 41 p3
  · obtain ⟨⟨s, hs, rfl⟩, ⟨k, hk, rfl⟩, z, hz, rfl⟩ := hp
    obtain ⟨C, c1, c2⟩ := C_holdRow (sh := sh) (k := nI k) (z := z) hs (by omega)
    obtain ⟨R, r1, r2, r3⟩ := R_rowl (rm := RM_s_rowSize (RM_s_rowSort (RM_s_shelf rm (upd (RM_shelf rm) s 1)) (upd (RM_rowSort rm) s (nI k))) (upd (RM_rowSize rm) s (nI z))) (k := nI k) (p3 := nI z) hs
    refine ⟨(1, ro, SH_s_cells (SH_s_lengths (SH_s_held sh (upd (SH_held sh) s (nI k))) (upd (SH_lengths sh) s (nI z))) C), ?_, (1, RM_s_rows (RM_s_rowSize (RM_s_rowSort (RM_s_shelf rm (upd (RM_shelf rm) s 1)) (upd (RM_rowSort rm) s (nI k))) (upd (RM_rowSize rm) s (nI z))) R), ?_, rfl, ?_⟩
    · unfold M_X5_row
      rw [S_is hs, Option.bind_some, if_neg (by decide), if_neg (nI_pos (by omega)), if_neg (by rw [q_gt_4 (by omega)]; omega), if_neg (nI_pos (by omega)), if_pos (by rw [q_le_40 (by omega)]; omega), c1]
      rfl
    · unfold M_X6_row
      rw [r_in7 hs, Option.bind_some, if_neg (by decide), R_q1 (k := 5) ⟨k, hk, rfl⟩ rfl (by omega), Option.bind_some, if_neg (by decide), R_q1 (k := 41) ⟨z, hz, rfl⟩ rfl (by omega), Option.bind_some, if_pos (by decide), if_neg (S_in hs), if_neg (S_in hs), if_neg (S_in hs), S_cl hs]
      exact r1
    · refine ⟨a, h1, h2, h3, ShA_put (s := s) h4 (fun x hx e => ⟨upd_ne e, upd_ne e, upd_ne e, upd_ne e, upd_ne e, rfl, fun i hi => ⟨?_, r3 x i e⟩⟩) (Or.inr (Or.inl ⟨k, z, upd_eq _ _ _, by omega, by omega, upd_eq _ _ _, upd_eq _ _ _, upd_eq _ _ _, upd_eq _ _ _, fun i hi => ?_⟩)), h5, h6, h7, h8⟩
      · show C (x * 40 + i) = _
        rw [c2, if_neg (by omega)]
      · show C (s * 40 + i) = R s i
        rw [c2, if_pos (by omega), r2 i (by omega)]
  · refine ⟨(-2, xRf ro 0, sh), ?_, (-2, mRf rm 0), ?_, rfl, hI.rf 0⟩
    · have ej : M_X5_row_j26 NN p1 p2 p3 (ro, sh) = some (-2, xRf ro 0, sh) := by
        unfold M_X5_row_j26
        rw [xRf_ok.1]
        rfl
      unfold M_X5_row
      rw [ej]
      by_cases g : vI 8 p1
      · obtain ⟨s, hs, rfl⟩ := g
        have hp : ¬ (vI 5 p2 ∧ vI 41 p3) := fun z => hp ⟨⟨s, hs, rfl⟩, z⟩
        rw [vI_int (by omega), vI_int (by omega)] at hp
        rw [S_is hs, Option.bind_some, if_neg (by decide)]
        simp only [lt_toInt, le_toInt, t_0, t_1, t_2, t_3, t_4, t_5, t_7, t_8, t_9, t_10, t_12, t_16, t_20, t_40, t_60, t_99, t_255, t_256, t_250, t_99999]
        repeat' first | rfl | (exfalso; omega) | split
      · rw [S_no g]
        rfl
    · have ej : M_X6_row_j36 NN p1 p2 p3 rm = some (-2, mRf rm 0) := by
        unfold M_X6_row_j36
        rw [mRf_ok.1]
        rfl
      unfold M_X6_row
      rw [ej]
      by_cases g : vI 8 p1
      · obtain ⟨s, hs, rfl⟩ := g
        rw [r_in7 hs, Option.bind_some, if_neg (by decide)]
        by_cases g2 : vI 5 p2
        · rw [R_q1 g2 rfl (by omega), Option.bind_some, if_neg (by decide), R_q0 (k := 41) (fun g3 => hp ⟨⟨s, hs, rfl⟩, g2, g3⟩) rfl (by omega)]
          rfl
        · rw [R_q0 (k := 5) g2 rfl (by omega)]
          rfl
      · rw [r_no7 g]
        rfl
theorem fit_eq {N k : Nat} (hk : k ≤ 4) (v : Int64) : ∃ w, M_X3_lowestBits N (nI k) v = some w ∧ M_X6_fit N (nI k) v = some w := by
  have hk : k = 0 ∨ k = 1 ∨ k = 2 ∨ k = 3 ∨ k = 4 := by omega
  unfold M_X3_lowestBits M_X6_fit
  rcases hk with rfl | rfl | rfl | rfl | rfl
  · exact ⟨_, rfl, rfl⟩
  · exact ⟨_, rfl, rfl⟩
  · exact ⟨_, rfl, rfl⟩
  · exact ⟨_, rfl, rfl⟩
  · by_cases e : lg_cmp v 0 = 0
    · refine ⟨0, ?_, ?_⟩
      · rw [if_neg (by decide), if_neg (by decide), if_neg (by decide), if_neg (by decide), if_pos (by decide), if_pos e]
      · rw [if_neg (by decide), if_neg (by decide), if_neg (by decide), if_neg (by decide), if_pos e]
    · refine ⟨1, ?_, ?_⟩
      · rw [if_neg (by decide), if_neg (by decide), if_neg (by decide), if_neg (by decide), if_pos (by decide), if_neg e]
      · rw [if_neg (by decide), if_neg (by decide), if_neg (by decide), if_neg (by decide), if_neg e]
/-- the row that a shelf must hold -/
theorem R_noRow1 {N : Nat} {sh : SH} {rm : RM} {s k z : Nat} (hs : s < 8) (g : shR sh rm s k z) : M_X6_noRow N rm (nI s) = some (0, rm) := by
  unfold M_X6_noRow
  rw [r_in7 hs, Option.bind_some, if_pos (by decide), if_neg (S_in hs), if_neg (S_in hs), S_cl hs, g.1, if_pos (by decide), if_pos (by decide)]
theorem R_noRow2 {N : Nat} {sh : SH} {rm : RM} {s b n : Nat} (hs : s < 8) (g : shB sh rm n s b) : M_X6_noRow N rm (nI s) = some (-3, mRf rm 1) := by
  unfold M_X6_noRow
  rw [r_in7 hs, Option.bind_some, if_pos (by decide), if_neg (S_in hs), S_cl hs, g.1, if_neg (by decide), mRf_ok.2.1]
  rfl
theorem R_noRow0 {N : Nat} {sh : SH} {rm : RM} {s : Nat} (hs : s < 8) (g : shF sh rm s) : M_X6_noRow N rm (nI s) = some (-4, mRf rm 2) := by
  unfold M_X6_noRow
  rw [r_in7 hs, Option.bind_some, if_pos (by decide), if_neg (S_in hs), if_neg (S_in hs), S_cl hs, g.1, if_pos (by decide), if_neg (by decide), mRf_ok.2.2.1]
  rfl
theorem R_noRow {N : Nat} {rm : RM} {p : Int32} (g : ¬ vI 8 p) : M_X6_noRow N rm p = some (-2, mRf rm 0) := by
  unfold M_X6_noRow
  rw [r_no7 g, Option.bind_some, if_neg (by decide), mRf_ok.1]
  rfl
theorem pS_set : S_set INV := by
  intro ro nw kp dr sh tp lw se rm K T hI p1 p2 p3
  obtain ⟨a, h1, h2, h3, h4, h5, h6, h7, h8⟩ := id hI
  have hn := h3.1
  by_cases hp : vI 8 p1
  · obtain ⟨s, hs, rfl⟩ := hp
    rcases sh_cases h4 hs with g | ⟨k, z, g⟩ | ⟨b, g⟩
    · refine ⟨(-4, xRf ro 2, sh), ?_, (-4, mRf rm 2), ?_, rfl, hI.rf 2⟩
      · unfold M_X5_set
        rw [S_is hs, Option.bind_some, if_pos (by decide), S_barF hs g, Option.bind_some, if_pos rfl, S_freeF hs g, Option.bind_some, if_neg (by decide), xRf_ok.2.2.1]
        rfl
      · unfold M_X6_set
        rw [R_noRow0 hs g]
        rfl
    · have hz := g.2.2.1
      have hk := g.2.1
      by_cases hq : vI z p2
      · obtain ⟨i, hi, rfl⟩ := hq
        obtain ⟨w, w1, w2⟩ := fit_eq (N := NN) hk p3
        refine ⟨(1, ro, SH_s_cells sh (vp_updL (SH_cells sh) (s * 40 + i) w)), ?_, (1, RM_s_rows rm (va_up (RM_rows rm) s (vp_updL (RM_rows rm s) i w))), ?_, rfl, ?_⟩
        · unfold M_X5_set M_X3_write
          rw [S_is hs, Option.bind_some, if_pos (by decide), S_barR hs g, Option.bind_some, if_pos rfl, S_freeR hs g, Option.bind_some, if_pos rfl, S_cells1 hs g ⟨i, hi, rfl⟩, Option.bind_some, if_pos (by decide), Option.bind_some, if_neg (by decide), S_held hs, Option.bind_some, g.2.2.2.1, w1, Option.bind_some, at40 hs (by omega), if_neg (nI_in (by omega) (by omega)), nI_clamp (by omega)]
          rfl
        · unfold M_X6_set
          rw [R_noRow1 hs g, Option.bind_some]
          simp only []
          rw [if_pos trivial, if_neg (S_in hs), S_cl hs, g.2.2.2.2.2.2.1, R_i1 (by omega) ⟨i, hi, rfl⟩, Option.bind_some, if_pos (by decide), if_neg (S_ix hs), if_neg (S_ix hs), g.2.2.2.2.1, w2, Option.bind_some, if_neg (nI_in (by omega) (by omega)), nI_clamp (by omega)]
        · refine ⟨a, h1, h2, h3, ShA_put (s := s) h4 (fun x hx e => ⟨rfl, rfl, rfl, rfl, rfl, rfl, fun j hj => ⟨if_neg (by omega), ?_⟩⟩) (Or.inr (Or.inl ⟨k, z, g.1, hk, hz, g.2.2.2.1, g.2.2.2.2.1, g.2.2.2.2.2.1, g.2.2.2.2.2.2.1, fun j hj => ?_⟩)), h5, h6, h7, h8⟩
          · show va_up (RM_rows rm) s _ x j = _
            unfold va_up
            rw [if_neg e]
          · show vp_updL (SH_cells sh) (s * 40 + i) w (s * 40 + j) = va_up (RM_rows rm) s (vp_updL (RM_rows rm s) i w) s j
            unfold va_up vp_updL
            rw [if_pos rfl]
            by_cases e : j = i
            · rw [if_pos (by omega), if_pos e]
            · rw [if_neg (by omega), if_neg e]
              exact g.2.2.2.2.2.2.2 j hj
      · refine ⟨(-2, xRf ro 0, sh), ?_, (-2, mRf rm 0), ?_, rfl, hI.rf 0⟩
        · unfold M_X5_set
          rw [S_is hs, Option.bind_some, if_pos (by decide), S_barR hs g, Option.bind_some, if_pos rfl, S_freeR hs g, Option.bind_some, if_pos rfl, S_cells2 hs g hq, Option.bind_some, if_neg (by decide), xRf_ok.1]
          rfl
        · unfold M_X6_set
          rw [R_noRow1 hs g, Option.bind_some]
          simp only []
          rw [if_pos trivial, if_neg (S_in hs), S_cl hs, g.2.2.2.2.2.2.1, R_i0 (by omega) hq, Option.bind_some, if_neg (by decide), mRf_ok.1]
          rfl
    · refine ⟨(-3, xRf ro 1, sh), ?_, (-3, mRf rm 1), ?_, rfl, hI.rf 1⟩
      · unfold M_X5_set
        rw [S_is hs, Option.bind_some, if_pos (by decide), S_barB hs g hn, Option.bind_some, if_neg (by decide), xRf_ok.2.1]
        rfl
      · unfold M_X6_set
        rw [R_noRow2 hs g]
        rfl
  · refine ⟨(-2, xRf ro 0, sh), ?_, (-2, mRf rm 0), ?_, rfl, hI.rf 0⟩
    · unfold M_X5_set
      rw [S_no hp, Option.bind_some, if_neg (by decide), xRf_ok.1]
      rfl
    · unfold M_X6_set
      rw [R_noRow hp]
      rfl
theorem pS_holds : S_holds INV := by
  intro ro nw kp dr sh tp lw se rm K T hI p1
  obtain ⟨a, h1, h2, h3, h4, h5, h6, h7, h8⟩ := id hI
  have hn := h3.1
  have c1 : M_X5_holds NN ro sh p1 = M_X3_heldBy NN sh p1 := by
    unfold M_X5_holds
    cases M_X3_heldBy NN sh p1 <;> rfl
  rw [c1]
  unfold M_X6_holds
  by_cases hp : vI 8 p1
  · obtain ⟨s, hs, rfl⟩ := hp
    rw [S_held hs, r_in7 hs, Option.bind_some, if_neg (by decide), if_neg (S_in hs), if_neg (S_in hs), if_neg (S_in hs), S_cl hs, if_neg (S_ix hs)]
    rcases sh_cases h4 hs with g | ⟨k, z, g⟩ | ⟨b, g⟩
    · rw [g.1, g.2]
      exact ⟨_, rfl, _, rfl, rfl, hI⟩
    · rw [g.1, g.2.2.2.1, g.2.2.2.2.1]
      exact ⟨_, rfl, _, rfl, rfl, hI⟩
    · rw [g.1, g.2.2.1, g.2.2.2, if_pos (by decide), if_pos (by decide), show (10 : Int32) = nI 10 from rfl, nI_add]
      exact ⟨_, rfl, _, rfl, rfl, hI⟩
  · rw [S_noheld hp, r_no7 hp]
    exact ⟨_, rfl, _, rfl, rfl, hI⟩
theorem pS_element : S_element INV := by
  intro ro nw kp dr sh tp lw se rm K T hI p1 p2
  obtain ⟨a, h1, h2, h3, h4, h5, h6, h7, h8⟩ := id hI
  have hn := h3.1
  have c1 : M_X5_element NN ro sh p1 p2 = M_X3_cell NN sh p1 p2 := by
    unfold M_X5_element
    cases M_X3_cell NN sh p1 p2 <;> rfl
  rw [c1]
  unfold M_X6_element
  by_cases hp : vI 8 p1
  · obtain ⟨s, hs, rfl⟩ := hp
    rw [r_in7 hs, Option.bind_some, if_neg (by decide), if_neg (S_in hs), if_neg (S_in hs), if_neg (S_in hs), S_cl hs]
    rcases sh_cases h4 hs with g | ⟨k, z, g⟩ | ⟨b, g⟩
    · rw [g.1, if_pos (by decide), S_cell0 (S_cells0 (S_rowF hs g))]
      exact ⟨_, rfl, _, rfl, rfl, hI⟩
    · have hz := g.2.2.1
      rw [g.1, if_neg (by decide), g.2.2.2.2.2.2.1]
      by_cases hq : vI z p2
      · obtain ⟨i, hi, rfl⟩ := hq
        rw [S_cell hs g hi, R_i1 (by omega) ⟨i, hi, rfl⟩, Option.bind_some, if_neg (by decide), if_neg (nI_in (by omega) (by omega)), nI_clamp (by omega)]
        exact ⟨_, rfl, _, rfl, rfl, hI⟩
      · rw [S_cell0 (S_cells2 hs g hq), R_i0 (by omega) hq]
        exact ⟨_, rfl, _, rfl, rfl, hI⟩
    · rw [g.1, if_pos (by decide), S_cell0 (S_cells0 (S_rowB hs g hn))]
      exact ⟨_, rfl, _, rfl, rfl, hI⟩
  · rw [r_no7 hp, S_cell0 (S_cells0 (S_norow hp))]
    exact ⟨_, rfl, _, rfl, rfl, hI⟩
theorem pS_show : S_show INV := by
  intro ro nw kp dr sh tp lw se rm K T hI p1 p2
  obtain ⟨a, h1, h2, h3, h4, h5, h6, h7, h8⟩ := id hI
  have hn := h3.1
  by_cases hp : vI 8 p1
  · obtain ⟨s, hs, rfl⟩ := hp
    by_cases e : p2 = -1
    · subst e
      refine ⟨(1, ro, SH_s_held sh (upd (SH_held sh) s (-1))), ?_, (1, RM_s_shown (RM_s_shelf rm (upd (RM_shelf rm) s 0)) (upd (RM_shown rm) s (-1))), ?_, rfl, ?_⟩
      · unfold M_X5_show M_X5_show_j30 M_X3_free
        rw [S_is hs, Option.bind_some, if_neg (by decide), if_pos rfl, if_neg (by decide), Option.bind_some, if_neg (by decide), if_neg (S_in hs), S_cl hs]
        rfl
      · unfold M_X6_show M_X6_show_j32 M_X6_show_j47
        simp only []
        rw [r_in7 hs, Option.bind_some, if_neg (by decide), if_pos trivial, if_neg (not_not_intro trivial), if_neg (S_in hs), if_neg (S_in hs), S_cl hs]
        rfl
      · exact ⟨a, h1, h2, h3, ShA_put (s := s) h4 (fun x hx e => ⟨upd_ne e, rfl, upd_ne e, rfl, rfl, upd_ne e, fun i hi => ⟨rfl, rfl⟩⟩) (Or.inl ⟨upd_eq _ _ _, upd_eq _ _ _⟩), h5, h6, h7, h8⟩
    · by_cases hb : vB a p2
      · obtain ⟨b, hb, rfl⟩ := hb
        refine ⟨(1, ro, SH_s_held sh (upd (SH_held sh) s (nI (10 + b)))), ?_, (1, RM_s_shown (RM_s_shelf rm (upd (RM_shelf rm) s 2)) (upd (RM_shown rm) s (nI b))), ?_, rfl, ?_⟩
        · unfold M_X5_show M_X5_show_j30 M_X3_holdBar
          rw [S_is hs, Option.bind_some, if_neg (by decide), if_neg e, E_bar h1 h3 hb, Option.bind_some, if_pos (by decide), if_pos e, Option.bind_some, if_neg (by decide), if_neg (S_in hs), S_cl hs, show (10 : Int32) = nI 10 from rfl, nI_add]
          rfl
        · unfold M_X6_show M_X6_show_j32 M_X6_show_j47
          simp only []
          rw [r_in7 hs, Option.bind_some, if_neg (by decide), if_neg e, R_bar h2 h3 hb, Option.bind_some, if_pos (by decide), if_pos e, if_neg (S_in hs), if_neg (S_in hs), S_cl hs]
          rfl
        · exact ⟨a, h1, h2, h3, ShA_put (s := s) h4 (fun x hx e => ⟨upd_ne e, rfl, upd_ne e, rfl, rfl, upd_ne e, fun i hi => ⟨rfl, rfl⟩⟩) (Or.inr (Or.inr ⟨b, upd_eq _ _ _, hb, upd_eq _ _ _, upd_eq _ _ _⟩)), h5, h6, h7, h8⟩
      · refine ⟨(-2, xRf ro 0, sh), ?_, (-2, mRf rm 0), ?_, rfl, hI.rf 0⟩
        · unfold M_X5_show M_X5_show_j23
          rw [S_is hs, Option.bind_some, if_neg (by decide), if_neg e, E_nobar h1 h3 hb, Option.bind_some, if_neg (by decide), xRf_ok.1]
          rfl
        · unfold M_X6_show M_X6_show_j25
          rw [r_in7 hs, Option.bind_some, if_neg (by decide), if_neg e, R_nobar h2 h3 hb, Option.bind_some, if_neg (by decide), mRf_ok.1]
          rfl
  · refine ⟨(-2, xRf ro 0, sh), ?_, (-2, mRf rm 0), ?_, rfl, hI.rf 0⟩
    · unfold M_X5_show M_X5_show_j23
      rw [S_no hp, Option.bind_some, if_pos rfl, xRf_ok.1]
      rfl
    · unfold M_X6_show M_X6_show_j25
      rw [r_no7 hp, Option.bind_some, if_pos rfl, mRf_ok.1]
      rfl
