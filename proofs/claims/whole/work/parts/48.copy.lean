/-! copy -/
theorem R_cpy1 {rm : RM} {p i n : Nat} {p2 p4 : Int32} (hp : p < 8) (hn : i + n ≤ 40) : ∃ V M, (∀ k, k < n → V k = RM_rows rm p (i + k)) ∧ lp (M_X6_copy_l191 NN (nI p) p2 (nI i) p4 (nI n)) NN (rm, 0) = lp (M_X6_copy_l225 NN (nI p) p2 (nI i) p4 (nI n)) NN (RM_s_moved1 rm V, 0) ∧ M = 0 := by
  obtain ⟨z', M, ⟨V, rfl, k1⟩, k3⟩ := lp_to (body := M_X6_copy_l191 NN (nI p) p2 (nI i) p4 (nI n)) (N := NN) (P := fun k Z => ∃ V, Z = (RM_s_moved1 rm V, nI k) ∧ ∀ x, x < k → V x = RM_rows rm p (i + x)) n (fun k Z hk hP => by
    obtain ⟨V, rfl, k1⟩ := hP
    refine ⟨_, ⟨vp_updL V k (RM_rows rm p (i + k)), rfl, fun x hx => ?_⟩, fun rec => ?_⟩
    · unfold vp_updL
      by_cases e : x = k
      · rw [if_pos e, e]
      · rw [if_neg e]; exact k1 x (by omega)
    · unfold M_X6_copy_l191
      simp only []
      rw [if_neg (by rw [nI_leI (by omega) (by omega)]; omega), if_neg (S_in hp), nI_add, if_neg (nI_in (by omega) (by omega)), if_neg (nI_in (by omega) (by omega)), S_cl hp, nI_clamp (n := i + k) (by omega), nI_clamp (n := k) (by omega), nI_1]
      rfl) (by show n < 5000; omega) (z := (rm, 0)) ⟨RM_moved1 rm, rfl, fun x hx => absurd hx (Nat.not_lt_zero x)⟩
  refine ⟨V, 0, k1, ?_, rfl⟩
  rw [k3]
  unfold M_X6_copy_l191
  simp only []
  rw [if_pos (by rw [nI_leI (by omega) (by omega)]; exact Nat.le_refl _)]
theorem R_cpy2 {rm : RM} {q j n : Nat} {p1 p3 : Int32} {W : Nat → Int64} (hq : q < 8) (hn : j + n ≤ 40) (hW : ∀ k, k < n → RM_moved1 rm k = W k) : ∃ R, lp (M_X6_copy_l225 NN p1 (nI q) p3 (nI j) (nI n)) NN (rm, 0) = some (nI n, RM_s_rows rm R) ∧ (∀ x y, x ≠ q → R x y = RM_rows rm x y) ∧ ∀ y, R q y = if j ≤ y ∧ y < j + n then W (y - j) else RM_rows rm q y := by
  obtain ⟨r, ⟨R, h1, h2⟩, h3⟩ := lp_inv (body := M_X6_copy_l225 NN p1 (nI q) p3 (nI j) (nI n)) (N := NN) (P := fun k Z => ∃ R, Z = (RM_s_rows rm R, nI k) ∧ (∀ x y, x ≠ q → R x y = RM_rows rm x y) ∧ ∀ y, R q y = if j ≤ y ∧ y < j + k then W (y - j) else RM_rows rm q y) (Qr := fun r => ∃ R, r = (nI n, RM_s_rows rm R) ∧ (∀ x y, x ≠ q → R x y = RM_rows rm x y) ∧ ∀ y, R q y = if j ≤ y ∧ y < j + n then W (y - j) else RM_rows rm q y) n
    (fun k Z hk hP => by
      obtain ⟨R, rfl, h2, h3⟩ := hP
      refine Or.inl ⟨_, ⟨va_up R q (vp_updL (R q) (j + k) (W k)), rfl, fun x y hx => ?_, fun y => ?_⟩, fun rec => ?_⟩
      · unfold va_up
        rw [if_neg hx]
        exact h2 x y hx
      · unfold va_up
        rw [if_pos rfl]
        unfold vp_updL
        by_cases e : y = j + k
        · rw [if_pos e, if_pos (by omega), e]
          exact congrArg W (by omega)
        · rw [if_neg e, h3]
          by_cases l : j ≤ y ∧ y < j + k
          · rw [if_pos l, if_pos (by omega)]
          · rw [if_neg l, if_neg (by omega)]
      · unfold M_X6_copy_l225
        simp only []
        rw [if_neg (by rw [nI_leI (by omega) (by omega)]; omega), if_neg (S_in hq), if_neg (nI_in (by omega) (by omega)), nI_add, if_neg (nI_in (by omega) (by omega)), S_cl hq, nI_clamp (n := j + k) (by omega), nI_clamp (n := k) (by omega), nI_1, show RM_moved1 (RM_s_rows rm R) k = RM_moved1 rm k from rfl, hW k hk]
        rfl)
    (fun Z hP => by
      obtain ⟨R, rfl, h2⟩ := hP
      refine ⟨_, ⟨R, rfl, h2⟩, fun rec => ?_⟩
      unfold M_X6_copy_l225
      simp only []
      rw [if_pos (by rw [nI_leI (by omega) (by omega)]; exact Nat.le_refl _)])
    (by show n < 5000; omega) (z := (rm, 0)) ⟨RM_rows rm, rfl, fun _ _ _ => rfl, fun y => by rw [if_neg (by omega)]⟩
  exact ⟨R, by rw [← h1]; exact h3, h2⟩
theorem pS_copy : S_copy INV := by
  intro ro nw kp dr sh tp lw se rm K T hI p1 p2 p3 p4 p5
  obtain ⟨a, h1, h2, h3, h4, h5, h6, h7, h8⟩ := id hI
  have hn := h3.1
  have j1 : M_X5_copy_j120 NN p1 p2 p3 p4 p5 (ro, sh) = some (-2, xRf ro 0, sh) := by unfold M_X5_copy_j120; rw [xRf_ok.1]; rfl
  have j2 : M_X5_copy_j84 NN p1 p2 p3 p4 p5 (ro, sh) = some (-4, xRf ro 2, sh) := by unfold M_X5_copy_j84; rw [xRf_ok.2.2.1]; rfl
  have j3 : M_X5_copy_j55 NN p1 p2 p3 p4 p5 (ro, sh) = some (-3, xRf ro 1, sh) := by unfold M_X5_copy_j55; rw [xRf_ok.2.1]; rfl
  have j4 : M_X5_copy_j14 NN p1 p2 p3 p4 p5 (ro, sh) = some (-2, xRf ro 0, sh) := by unfold M_X5_copy_j14; rw [xRf_ok.1]; rfl
  have i1 : M_X6_copy_j181 NN p1 p2 p3 p4 p5 rm = some (-2, mRf rm 0) := by unfold M_X6_copy_j181; rw [mRf_ok.1]; rfl
  have i2 : M_X6_copy_j111 NN p1 p2 p3 p4 p5 rm = some (-4, mRf rm 2) := by unfold M_X6_copy_j111; rw [mRf_ok.2.2.1]; rfl
  have i3 : M_X6_copy_j86 NN p1 p2 p3 p4 p5 rm = some (-3, mRf rm 1) := by unfold M_X6_copy_j86; rw [mRf_ok.2.1]; rfl
  have i4 : M_X6_copy_j24 NN p1 p2 p3 p4 p5 rm = some (-2, mRf rm 0) := by unfold M_X6_copy_j24; rw [mRf_ok.1]; rfl
  have n2 : ∃ o1, some ((-2 : Int32), xRf ro 0, sh) = some o1 ∧ ∃ o2, some ((-2 : Int32), mRf rm 0) = some o2 ∧ o1.1 = o2.1 ∧ INV o1.2.1 nw kp dr o1.2.2 tp lw se o2.2 K T := ⟨_, rfl, _, rfl, rfl, hI.rf 0⟩
  have n3 : ∃ o1, some ((-3 : Int32), xRf ro 1, sh) = some o1 ∧ ∃ o2, some ((-3 : Int32), mRf rm 1) = some o2 ∧ o1.1 = o2.1 ∧ INV o1.2.1 nw kp dr o1.2.2 tp lw se o2.2 K T := ⟨_, rfl, _, rfl, rfl, hI.rf 1⟩
  have n4 : ∃ o1, some ((-4 : Int32), xRf ro 2, sh) = some o1 ∧ ∃ o2, some ((-4 : Int32), mRf rm 2) = some o2 ∧ o1.1 = o2.1 ∧ INV o1.2.1 nw kp dr o1.2.2 tp lw se o2.2 K T := ⟨_, rfl, _, rfl, rfl, hI.rf 2⟩
  unfold M_X5_copy M_X6_copy M_X6_copy_j93
  rw [j1, j2, j3, j4, i1, i2, i3, i4]
  by_cases hp : vI 8 p1
  · obtain ⟨p, hp, rfl⟩ := hp
    rw [S_is hp, Option.bind_some, if_neg (by decide), r_in7 hp, Option.bind_some, if_neg (by decide)]
    by_cases hq : vI 8 p2
    · obtain ⟨q, hq, rfl⟩ := hq
      simp only [if_neg (S_ix hp), if_neg (S_ix hq), S_cl hp, S_cl hq, S_is hq, r_in7 hq, Option.bind_some]
      rw [if_pos (by decide), if_pos (by decide)]
      rcases sh_cases h4 hp with g | ⟨k, z, g⟩ | ⟨b, g⟩
      · rw [S_barF hp g, S_freeF hp g, g.1]
        rcases sh_cases h4 hq with g' | ⟨k', z', g'⟩ | ⟨b', g'⟩
        · rw [S_barF hq g', g'.1]
          unfold M_X3_differ
          rw [S_freeF hp g]
          exact n4
        · rw [S_barR hq g', g'.1]
          unfold M_X3_differ
          rw [S_freeF hp g]
          exact n4
        · rw [S_barB hq g' hn, g'.1]
          exact n3
      · rw [S_barR hp g, S_freeR hp g, g.1]
        rcases sh_cases h4 hq with g' | ⟨k', z', g'⟩ | ⟨b', g'⟩
        · rw [S_barF hq g', g'.1]
          unfold M_X3_differ
          rw [S_freeR hp g, S_freeF hq g']
          exact n4
        · have hk := g.2.1
          have hk' := g'.2.1
          have hz := g.2.2.1
          have hz' := g'.2.2.1
          rw [S_barR hq g', g'.1]
          unfold M_X3_differ
          rw [S_freeR hp g, S_freeR hq g', S_held hp, S_held hq, g.2.2.2.1, g'.2.2.2.1, g.2.2.2.2.1, g'.2.2.2.2.1, g.2.2.2.2.2.2.1, g'.2.2.2.2.2.2.1]
          simp only [Option.bind_some, i_10, i_00, not_true_eq_false, not_false_eq_true, if_true, if_false]
          by_cases e : nI k = nI k'
          · rw [if_pos e, if_pos e]
            have e' : k = k' := (nI_eq (by omega) (by omega)).mp e
            subst e'
            simp only [Option.bind_some, i_00, if_true]
            rw [S_cellsR hp g, S_cellsR hq g', Option.bind_some, Option.bind_some]
            rw [if_neg (show ¬ (1 : Int32) = 2 by decide), if_neg (show ¬ (1 : Int32) = 2 by decide)]
            by_cases A : 0 ≤ p3.toInt ∧ 0 ≤ p5.toInt ∧ p3.toInt + p5.toInt ≤ z
            · by_cases B : 0 ≤ p4.toInt ∧ 0 ≤ p5.toInt ∧ p4.toInt + p5.toInt ≤ z'
              · obtain ⟨i, hi, rfl⟩ := of_int A.1
                obtain ⟨n, hn', rfl⟩ := of_int A.2.1
                obtain ⟨j, hj, rfl⟩ := of_int B.1
                rw [nI_toInt hi, nI_toInt hn'] at A
                rw [nI_toInt hj, nI_toInt hn'] at B
                have A3 : i + n ≤ z := by omega
                have B3 : j + n ≤ z' := by omega
                obtain ⟨V, _, v1, v2, -⟩ := R_cpy1 (rm := rm) (p2 := nI q) (p4 := nI j) (n := n) (i := i) hp (by omega)
                obtain ⟨R, w1, w2, w3⟩ := R_cpy2 (rm := RM_s_moved1 rm V) (p1 := nI p) (p3 := nI i) (n := n) (j := j) (W := fun k => RM_rows rm p (i + k)) hq (by omega) v1
                have c1 : M_X3_carry NN sh (nI p) (nI q) (nI i) (nI j) (nI n) = some (SH_s_cells sh (va_cpy (SH_cells sh) (SH_cells sh) (p * 40 + i) (q * 40 + j) n)) := by
                  unfold M_X3_carry
                  rw [S_cellsR hp g, S_cellsR hq g', Option.bind_some, Option.bind_some, nI_toInt hi, nI_toInt hn', nI_toInt hj, if_pos A, if_pos B, if_neg (by decide), if_neg (by decide), at40 hp (by omega), at40 hq (by omega), nI_clamp (n := p * 40 + i) (by omega), nI_clamp (n := q * 40 + j) (by omega), nI_clamp (n := n) (by omega)]
                  simp (disch := omega) only [q_lt_0]
                  rw [if_neg (by omega)]
                rw [nI_toInt hi, nI_toInt hn', nI_toInt hj, if_pos A, if_pos B, if_neg (by decide), if_pos (by decide), c1]
                rw [if_neg (nI_pos hn'), if_neg (nI_pos hi), if_neg (nI_pos hj), if_neg (by rw [nI_ltI (by omega) hn']; omega), if_neg (by rw [nI_ltI (by omega) hn']; omega), pk_sub (by omega), pk_sub (by omega), if_neg (by rw [nI_ltI (by omega) hi]; omega), if_pos (by rw [nI_leI hj (by omega)]; omega), v2, w1]
                refine ⟨_, rfl, _, rfl, rfl, a, h1, h2, h3, ShA_put (s := q) h4 (fun x hx e => ⟨rfl, rfl, rfl, rfl, rfl, rfl, fun y hy => ⟨pk_cpy_out (by omega), w2 x y e⟩⟩) (Or.inr (Or.inl ⟨k, z', g'.1, hk, hz', g'.2.2.2.1, g'.2.2.2.2.1, g'.2.2.2.2.2.1, g'.2.2.2.2.2.2.1, fun y hy => ?_⟩)), h5, h6, h7, h8⟩
                show va_cpy (SH_cells sh) (SH_cells sh) (p * 40 + i) (q * 40 + j) n (q * 40 + y) = R q y
                rw [w3]
                by_cases l : j ≤ y ∧ y < j + n
                · rw [if_pos l, pk_cpy_in (by omega) (by omega), ← g.2.2.2.2.2.2.2 (i + (y - j)) (by omega)]
                  exact congrArg (SH_cells sh) (by omega)
                · rw [if_neg l, pk_cpy_out (by omega)]
                  exact g'.2.2.2.2.2.2.2 y hy
              · rw [if_pos A, if_neg B, if_neg (by decide), if_neg (by decide)]
                refine ⟨_, rfl, (-2, mRf rm 0), ?_, rfl, hI.rf 0⟩
                simp only [lt_toInt, le_toInt, t_0, nI_toInt (show z < 2 ^ 31 by omega), nI_toInt (show z' < 2 ^ 31 by omega), subI (a := nI z) (b := p5) (by rw [nI_toInt (by omega)]; omega) A.2.1, subI (a := nI z') (b := p5) (by rw [nI_toInt (by omega)]; omega) A.2.1]
                repeat' first | rfl | (exfalso; omega) | split
            · rw [if_neg A, if_pos rfl]
              refine ⟨_, rfl, (-2, mRf rm 0), ?_, rfl, hI.rf 0⟩
              by_cases n0 : 0 ≤ p5.toInt
              · simp only [lt_toInt, le_toInt, t_0, nI_toInt (show z < 2 ^ 31 by omega), nI_toInt (show z' < 2 ^ 31 by omega), subI (a := nI z) (b := p5) (by rw [nI_toInt (by omega)]; omega) n0, subI (a := nI z') (b := p5) (by rw [nI_toInt (by omega)]; omega) n0]
                repeat' first | rfl | (exfalso; omega) | split
              · rw [if_pos (by rw [lt_toInt, t_0]; omega)]
          · rw [if_neg e, if_neg e]
            exact n3
        · rw [S_barB hq g' hn, g'.1]
          exact n3
      · rw [S_barB hp g hn, g.1]
        exact n3
    · rw [S_no hq, r_no7 hq]
      exact n2
  · rw [S_no hp, r_no7 hp]
    exact n2
