/-! the law of one bar: which moves may be -/
def oB (b : Bool) : Int32 := bif b then 1 else 0
theorem oB_0 (b : Bool) : (oB b = 0) = (b = false) := by cases b <;> decide
theorem oB_01 (b : Bool) : (oB b = 0 ∨ oB b = 1) = True := by cases b <;> decide
theorem oB_ite {α : Type} (b : Bool) (x y : α) : (if oB b = 0 then x else y) = bif b then y else x := by cases b <;> rfl
theorem oB_nite {α : Type} (b : Bool) (x y : α) : (if ¬ oB b = 0 then x else y) = bif b then x else y := by cases b <;> rfl
theorem mk_r {m : Nat} (h : m ≠ 20) : mk m = 2 ^ m := if_neg h
theorem mk_20 : mk 20 = 3 := rfl
theorem mvb_of {q : PL} {s m : Nat} (h : lgl q s m = true) : mvb q m = true := by
  unfold lgl at h
  unfold mvb
  by_cases e : m = 20
  · subst e
    rw [if_pos rfl] at h
    unfold bo at h
    simp only [Bool.and_eq_true, Bool.or_eq_true] at h ⊢
    exact Or.inr ⟨⟨rfl, h.1.1.1⟩, h.1.1.2⟩
  · rw [if_neg e] at h
    simp only [Bool.and_eq_true, Bool.or_eq_true] at h ⊢
    exact Or.inl h.1.1
theorem mvb_mk {q : PL} {m u : Nat} (hz : q.2.1 ≤ 10) (h : mvb q m = true) (hu : u < 2 ^ q.2.1) : u ^^^ mk m < 2 ^ q.2.1 := by
  apply Nat.xor_lt_two_pow hu
  unfold mvb at h
  simp only [Bool.or_eq_true, Bool.and_eq_true, decide_eq_true_eq, beq_iff_eq] at h
  rcases h with h | ⟨⟨rfl, -⟩, h⟩
  · rw [mk_r (by omega)]
    exact Nat.pow_lt_pow_right (by omega) h
  · rw [mk_20]
    have : 2 ^ 2 ≤ 2 ^ q.2.1 := Nat.pow_le_pow_right (by omega) h
    omega
theorem mvb_20 {q : PL} {m : Nat} (hz : q.2.1 ≤ 10) (h : mvb q m = true) : m ≤ 20 ∧ (m < 10 ∨ m = 20) := by
  unfold mvb at h
  simp only [Bool.or_eq_true, Bool.and_eq_true, decide_eq_true_eq, beq_iff_eq] at h
  omega
theorem lg_bit {q : PL} {s m : Nat} (hm : m ≤ 20) : (lg q s).testBit m = lgl q s m := by
  unfold lg
  rw [bs_bit, decide_eq_true (by omega), Bool.true_and]
theorem lg_lt (q : PL) (s : Nat) : lg q s < 2 ^ 21 := bs_lt _ _
theorem xor_xor (u v : Nat) : (u ^^^ v) ^^^ v = u := by rw [Nat.xor_assoc, Nat.xor_self, Nat.xor_zero]
theorem tu_lt (z s : Nat) : tu z s < 2 ^ z := bs_lt _ _
def LwQ (lw : LW) (q : PL) : Prop := LW_kind lw = nI q.1 ∧ LW_size lw = nI q.2.1 ∧ LW_stuck lw = nI q.2.2.1 ∧ (q.1 = 5 → ∀ r, r < 10 → LW_musts lw r = nI (q.2.2.2.1 r) ∧ LW_nots lw r = nI (q.2.2.2.2 r))
def OkQ (q : PL) : Prop := q.1 ≤ 5 ∧ 1 ≤ q.2.1 ∧ q.2.1 ≤ 10 ∧ q.2.2.1 < 2 ^ q.2.1
theorem L_told {lw : LW} {M X : Nat → Nat} (h : ∀ r, r < 10 → LW_musts lw r = nI (M r) ∧ LW_nots lw r = nI (X r)) (s : Nat) : M_X1_toldRings NN lw (nI s) = some (nI (bs (td M X s) 10)) := by
  unfold M_X1_toldRings
  refine lp_for (fun i => (nI (bs (td M X s) i), nI i)) 10 (fun i hi rec => ?_) (fun rec => ?_) (by decide)
  · show M_X1_toldRings_l4 NN lw (nI s) rec (nI (bs (td M X s) i), nI i) = _
    unfold M_X1_toldRings_l4 M_X1_toldRings_j40
    simp (disch := omega) only [nI_in, q_lt_0, q_le_0, q_gt_0, q_ge_0, q_eq_0, q_lt_1, q_le_1, q_gt_1, q_ge_1, q_eq_1, q_lt_2, q_le_2, q_gt_2, q_ge_2, q_eq_2, q_lt_3, q_le_3, q_gt_3, q_ge_3, q_eq_3, q_lt_4, q_le_4, q_gt_4, q_ge_4, q_eq_4, q_lt_5, q_le_5, q_gt_5, q_ge_5, q_eq_5, q_lt_6, q_le_6, q_gt_6, q_ge_6, q_eq_6, q_lt_7, q_le_7, q_gt_7, q_ge_7, q_eq_7, q_lt_8, q_le_8, q_gt_8, q_ge_8, q_eq_8, q_lt_9, q_le_9, q_gt_9, q_ge_9, q_eq_9, q_lt_10, q_le_10, q_gt_10, q_ge_10, q_eq_10, q_lt_11, q_le_11, q_gt_11, q_ge_11, q_eq_11, q_lt_12, q_le_12, q_gt_12, q_ge_12, q_eq_12, q_lt_16, q_le_16, q_gt_16, q_ge_16, q_eq_16, q_lt_20, q_le_20, q_gt_20, q_ge_20, q_eq_20, q_lt_30, q_le_30, q_gt_30, q_ge_30, q_eq_30, q_lt_31, q_le_31, q_gt_31, q_ge_31, q_eq_31, q_lt_32, q_le_32, q_gt_32, q_ge_32, q_eq_32, q_lt_40, q_le_40, q_gt_40, q_ge_40, q_eq_40, q_lt_48, q_le_48, q_gt_48, q_ge_48, q_eq_48, q_lt_57, q_le_57, q_gt_57, q_ge_57, q_eq_57, q_lt_59, q_le_59, q_gt_59, q_ge_59, q_eq_59, q_lt_60, q_le_60, q_gt_60, q_ge_60, q_eq_60, q_lt_64, q_le_64, q_gt_64, q_ge_64, q_eq_64, q_lt_97, q_le_97, q_gt_97, q_ge_97, q_eq_97, q_lt_99, q_le_99, q_gt_99, q_ge_99, q_eq_99, q_lt_122, q_le_122, q_gt_122, q_ge_122, q_eq_122, q_lt_250, q_le_250, q_gt_250, q_ge_250, q_eq_250, q_lt_255, q_le_255, q_gt_255, q_ge_255, q_eq_255, q_lt_256, q_le_256, q_gt_256, q_ge_256, q_eq_256, q_lt_320, q_le_320, q_gt_320, q_ge_320, q_eq_320, q_lt_1023, q_le_1023, q_gt_1023, q_ge_1023, q_eq_1023, q_lt_1024, q_le_1024, q_gt_1024, q_ge_1024, q_eq_1024, q_lt_65536, q_le_65536, q_gt_65536, q_ge_65536, q_eq_65536, q_lt_99999, q_le_99999, q_gt_99999, q_ge_99999, q_eq_99999, q_lt_100000, q_le_100000, q_gt_100000, q_ge_100000, q_eq_100000, q_lt_1000000, q_le_1000000, q_gt_1000000, q_ge_1000000, q_eq_1000000, nI_clamp, h i hi, sh_1, nI_1, if_neg (show ¬ 10 ≤ i by omega), if_false, ite_false, Nat.not_lt_zero, false_or]
    have e : td M X s i = ((nI (M i) &&& (nI s ^^^ -1) == 0) && (nI (X i) &&& nI s == 0)) := rfl
    by_cases g : nI (M i) &&& (nI s ^^^ -1) = 0
    · by_cases g2 : nI (X i) &&& nI s = 0
      · rw [if_neg (not_not_intro g), if_neg (not_not_intro g2), fa_or, bs, e, g, g2]
        rfl
      · rw [if_neg (not_not_intro g), if_pos g2, bs, e, beq_eq_false_iff_ne.mpr g2, Bool.and_false, if_neg (by decide), Nat.or_zero]
    · rw [if_pos g, bs, e, beq_eq_false_iff_ne.mpr g, Bool.false_and, if_neg (by decide), Nat.or_zero]
  · rfl
theorem L_kind {lw : LW} {q : PL} (h : LwQ lw q) (ok : OkQ q) {s : Nat} (hs : s < 2 ^ q.2.1) : ∃ R, M_X1_ringsByKind NN lw (nI s) = some R ∧ ∀ m, m < q.2.1 → bt R m = bk q s m := by
  obtain ⟨k, z, t, M, X⟩ := q
  obtain ⟨h1, h2, h3, h4⟩ := h
  obtain ⟨o1, o2, o3, o4⟩ := ok
  simp only at h1 h2 h3 h4 o1 o2 o3 o4 hs
  have hs2 : s < 1024 := by have := p10 o3; omega
  have hch : M_X1_chainRings NN (nI s) = some ((1 : Int32) ||| ((nI s &&& (-nI s)) <<< ((1 : Int32) &&& 31))) := rfl
  have hc2 : ∀ m, m < z → bt ((1 : Int32) ||| ((nI s &&& (-nI s)) <<< ((1 : Int32) &&& 31))) m = ch s m := fun m hm => L_chain s hs2 m (by omega)
  have haf : ∃ A, M_X1_afterRings NN lw (nI s) = some A ∧ ∀ m, m < z → bt A m = af z s m := by
    have e : M_X1_afterRings NN lw (nI s) = afR z s := by
      unfold afR M_X1_afterRings
      rw [h2]
      rfl
    have hh := L_after z (by omega) s hs
    rw [e]
    cases g : afR z s with
    | none =>
      have := hh 0 (by omega)
      rw [g] at this
      cases this
    | some A =>
      refine ⟨A, rfl, fun m hm => ?_⟩
      have := hh m hm
      rw [g] at this
      exact Option.some.inj this
  obtain ⟨A, haf, ha2⟩ := haf
  unfold M_X1_ringsByKind
  rw [h1]
  have hk : k = 0 ∨ k = 1 ∨ k = 2 ∨ k = 3 ∨ k = 4 ∨ k = 5 := by omega
  rcases hk with rfl | rfl | rfl | rfl | rfl | rfl
  · exact ⟨-1, rfl, fun m (hm : m < z) => b_m1 m (by omega)⟩
  · exact ⟨_, by rw [hch]; rfl, hc2⟩
  · exact ⟨_, by rw [hch]; rfl, hc2⟩
  · refine ⟨_, by rw [hch, haf]; rfl, fun m hm => ?_⟩
    rw [b_or, hc2 m hm, ha2 m hm]
    rfl
  · exact ⟨A, by rw [haf]; rfl, ha2⟩
  · refine ⟨_, by rw [L_told (h4 rfl)]; rfl, fun m (hm : m < z) => ?_⟩
    rw [bt_bs _ (by omega), decide_eq_true (by omega), Bool.true_and]
    rfl
theorem L_both {lw : LW} {q : PL} (h : LwQ lw q) (ok : OkQ q) (s : Nat) : M_X1_bothMayGo NN lw (nI s) = some (oB (bo q s)) := by
  obtain ⟨k, z, t, M, X⟩ := q
  obtain ⟨h1, h2, h3, h4⟩ := h
  obtain ⟨o1, o2, o3, o4⟩ := ok
  simp only at h1 h2 h3 h4 o1 o2 o3 o4
  have m3 : ∀ n, nI n &&& (3 : Int32) = nI (n % 4) := fun n => fa_mask n 2
  have l4 : ∀ n, n % 4 < 2 ^ 31 := fun n => by omega
  unfold M_X1_bothMayGo bo
  rw [h1, h2, h3, m3, m3]
  simp (disch := omega) only [q_eq_2, q_lt_2, q_eq_0, q_eq_3, l4]
  by_cases g1 : k = 2
  · by_cases g2 : z < 2
    · rw [if_neg (by omega), if_pos g2]
      simp [g1, show ¬ 2 ≤ z by omega]
      rfl
    · by_cases g3 : t % 4 = 0
      · by_cases g4 : s % 4 = 0
        · simp [g1, g2, g3, g4, show 2 ≤ z by omega, oB]
        · by_cases g5 : s % 4 = 3
          · simp [g1, g2, g3, g5, show 2 ≤ z by omega, oB]
          · simp [g1, g2, g3, g4, g5, oB, b_ne g4, b_ne g5]
      · simp [g1, g2, g3, oB, b_ne g3]
  · simp [g1, oB, b_ne g1]
theorem L_legal {lw : LW} {q : PL} (h : LwQ lw q) (ok : OkQ q) {s : Nat} (hs : s < 2 ^ q.2.1) : M_X1_legalIn NN lw (nI s) = some (nI (lg q s)) := by
  obtain ⟨R, hR, hb⟩ := L_kind h ok hs
  have hz := ok.2.2.1
  have ht : q.2.2.1 < 2 ^ q.2.1 := ok.2.2.2
  have key : ∀ i, i < 32 → bt ((R &&& ((1 : Int32) <<< (LW_size lw &&& 31) - 1)) &&& (LW_stuck lw ^^^ -1)) i = (decide (i < q.2.1) && (!q.2.2.1.testBit i && bk q s i)) := by
    intro i hi
    rw [b_and, b_and, h.2.1, h.2.2.1, bt_all hz, bt_not _ hi, bt_nI, decide_eq_true hi, Bool.true_and]
    by_cases l : i < q.2.1
    · rw [hb i l, decide_eq_true l, Bool.and_true, Bool.true_and, Bool.and_comm]
    · rw [decide_eq_false l, Bool.and_false, Bool.false_and, Bool.false_and]
  unfold M_X1_legalIn
  rw [hR, Option.bind_some, L_both h ok, Option.bind_some, oB_ite]
  cases g : bo q s
  · show some _ = _
    refine congrArg some (eq_bs (by omega) fun i hi => ?_)
    rw [key i hi]
    unfold lgl
    by_cases e : i = 20
    · subst e
      rw [if_pos rfl, g, decide_eq_false (show ¬ 20 < q.2.1 by omega), Bool.and_false, Bool.false_and]
    · rw [if_neg e]
      by_cases l : i < q.2.1
      · simp [l, show i < 21 by omega]
      · simp [l]
  · show some _ = _
    refine congrArg some (eq_bs (by omega) fun i hi => ?_)
    rw [b_or, key i hi, show (1048576 : Int32) = nI (2 ^ 20) from rfl, bt_nI, Nat.testBit_two_pow]
    unfold lgl
    by_cases e : i = 20
    · subst e
      rw [if_pos rfl, g]
      simp
    · rw [if_neg e]
      by_cases l : i < q.2.1
      · simp [l, show i < 21 by omega, show ¬ 20 = i by omega]
      · simp [l, show ¬ 20 = i by omega]
