/-! longest, ends, movable, first -/
theorem n20z : ¬ (20 : Int32) < 0 := by decide
theorem jmaxN {a b : Nat} (ha : a < 2 ^ 31) (hb : b < 2 ^ 31) : jmax (nI a) (nI b) = nI (max a b) := by
  unfold jmax
  by_cases l : a < b
  · rw [if_pos (by rw [nI_ltI ha hb]; exact l), Nat.max_eq_right (by omega)]
  · rw [if_neg (by rw [nI_ltI ha hb]; exact l), Nat.max_eq_left (by omega)]
/-- how far the last found is -/
def lastF (B : BB) : Nat := B.1 (B.2.1 (B.2.2 - 1)) - 1
theorem sp_pos (op : Nat → Nat → Bool) (st : Nat) : 0 < (sp1 op st).2.2 ∧ (sp1 op st).2.1 0 = st := by
  have : Bup _ (sp1 op st) := Bup_bfs (op := op) 1025 0 (B := ins st 1 (fun _ => 0, fun _ => 0, 0))
  exact ⟨Nat.lt_of_lt_of_le (show 0 < 0 + 1 by omega) this.1, by rw [this.2.1 0 (show 0 < 0 + 1 by omega)]; rfl⟩
theorem lastF_ge {op : Nat → Nat → Bool} {n st i c : Nat} {B : BB} (h : BJ op n st i c B) (s : Nat) : B.1 s - 1 ≤ lastF B := by
  by_cases e : B.1 s = 0
  · omega
  · obtain ⟨j, hj, rfl⟩ := BI_mem h.1 (h.2.2.2.2.2.2 s e) e
    have := h.2.1 j (B.2.2 - 1) (by omega) (by omega)
    unfold lastF
    omega
def lg_max (q : PL) : Nat → Nat
  | 0 => 0
  | i + 1 => max (lg_max q i) (lastF (sp1 (lgl q) i))
theorem pS_longest : S_longest INV := by
  intro ro nw kp dr sh tp lw se rm K T hI p1
  obtain ⟨a, h1, h2, h3, h4, h5, h6, h7, h8⟩ := id hI
  have hn := h3.1
  unfold M_X5_longest M_X6_longest
  by_cases hb : vB a p1
  · obtain ⟨b, hb, rfl⟩ := hb
    have hz := (h3.2 b hb).2.2.1
    have hp := p10 hz
    have hp0 : 0 < 2 ^ aZ a b := Nat.two_pow_pos _
    obtain ⟨g1, g2, g3, g4, -⟩ := h2.2.1 b (by omega)
    rw [E_bar h1 h3 hb, Option.bind_some, if_pos n10, E_size h1 h3 hb, Option.bind_some, R_bar h2 h3 hb, Option.bind_some, if_pos n10, if_neg (E_in h3 hb), E_cl h3 hb, g2]
    by_cases l6 : nI (aZ a b) ≤ (6 : Int32)
    · rw [if_pos l6, if_pos l6]
      obtain ⟨lw', se1, c1, c2⟩ := C_study (ro := ro) h1 h3 hb lw se
      have mxb : ∀ i, i ≤ 2 ^ aZ a b → lg_max (aL a b) i ≤ 1024 := by
        intro i
        induction i with
        | zero => exact fun _ => Nat.zero_le _
        | succ i ih =>
          intro hi
          obtain ⟨c, bj⟩ := sp_BJ h3 hb (st := i) (by omega)
          have h := BJ_bound bj ((sp1 (lgl (aL a b)) i).2.1 ((sp1 (lgl (aL a b)) i).2.2 - 1))
          have := ih (by omega)
          show max _ (lastF _) ≤ 1024
          unfold lastF
          omega
      have e1 : ∃ se2, M_X2_greatestFewest NN se1 = some (nI (lg_max (aL a b) (2 ^ aZ a b)), se2) := by
        unfold M_X2_greatestFewest
        obtain ⟨r, ⟨se2, h⟩, h'⟩ := lp_inv (body := M_X2_greatestFewest_l4 NN) (N := NN) (P := fun i Z => ∃ s, Z = (s, nI (lg_max (aL a b) i), nI i) ∧ SeL s (aL a b)) (Qr := fun r => ∃ se2, r = (nI (lg_max (aL a b) (2 ^ aZ a b)), se2)) (2 ^ aZ a b)
          (fun i Z hi hP => by
            obtain ⟨s, rfl, k⟩ := hP
            obtain ⟨s2, m1, m2, m3, m4, m5⟩ := C_anew (q := aL a b) hz (σ := 1) (by omega) k (st := i) hi
            obtain ⟨c, bj⟩ := sp_BJ h3 hb (st := i) hi
            have eo : opS (aL a b) 1 = lgl (aL a b) := if_pos rfl
            rw [eo] at m2 m3 m4
            have hpos := (sp_pos (lgl (aL a b)) i).1
            have hle := BI_le m3
            have hl : (sp1 (lgl (aL a b)) i).2.2 ≤ 1024 := Nat.le_trans hle hp
            have hq := m3.1 ((sp1 (lgl (aL a b)) i).2.2 - 1) (by omega)
            have hq1 : (sp1 (lgl (aL a b)) i).2.1 ((sp1 (lgl (aL a b)) i).2.2 - 1) < 2 ^ aZ a b := hq.1
            refine Or.inl ⟨(s2, nI (lg_max (aL a b) (i + 1)), nI (i + 1)), ⟨s2, rfl, m1⟩, fun rec => ?_⟩
            unfold M_X2_greatestFewest_l4
            simp only []
            rw [k.2.1, if_neg (by rw [nI_leI (by show 2 ^ aZ a b < _; omega) (by omega)]; show ¬ 2 ^ aZ a b ≤ i; omega), show (1 : Int32) = nI 1 from rfl, m5, Option.bind_some, m2.2.1, show nI 1 = (1 : Int32) from rfl, nI_s1 (by omega), C_foundAt (q := aL a b) hz m2 m3 (by omega), Option.bind_some, C_far m1 hz m2 (by omega), Option.bind_some, if_pos (show (sp1 (lgl (aL a b)) i).2.1 ((sp1 (lgl (aL a b)) i).2.2 - 1) < 2 ^ (aL a b).2.1 from hq1), nI_1]
            have ef : fI ((sp1 (lgl (aL a b)) i).1 ((sp1 (lgl (aL a b)) i).2.1 ((sp1 (lgl (aL a b)) i).2.2 - 1))) = nI (lastF (sp1 (lgl (aL a b)) i)) := by
              unfold fI
              rw [if_neg hq.2]
              rfl
            have hb1 := mxb i (by omega)
            have hb2 := mxb (i + 1) (by omega)
            have hb3 : max (lg_max (aL a b) i) (lastF (sp1 (lgl (aL a b)) i)) ≤ 1024 := hb2
            rw [ef, jmaxN (by omega) (by omega)]
            rfl)
          (fun Z hP => by
            obtain ⟨s, rfl, k⟩ := hP
            refine ⟨_, ⟨s, rfl⟩, fun rec => ?_⟩
            unfold M_X2_greatestFewest_l4
            simp only []
            rw [k.2.1, if_pos (by exact Int32.le_refl _)])
          (by show 2 ^ aZ a b < 5000; omega) (z := (se1, 0, 0)) ⟨se1, rfl, c2⟩
        exact ⟨se2, by rw [← h]; exact h'⟩
      obtain ⟨se2, e1⟩ := e1
      have e2 : ∃ rm', Sg rm rm' ∧ lp (M_X6_longest_l37 NN (nI b)) NN (rm, 0, 0) = some (nI (lg_max (aL a b) (2 ^ aZ a b)), rm') := by
        obtain ⟨r, ⟨rm', h, k⟩, h'⟩ := lp_inv (body := M_X6_longest_l37 NN (nI b)) (N := NN) (P := fun i Z => ∃ s, Z = (s, nI (lg_max (aL a b) i), nI i) ∧ Sg rm s) (Qr := fun r => ∃ rm', r = (nI (lg_max (aL a b) (2 ^ aZ a b)), rm') ∧ Sg rm rm') (2 ^ aZ a b)
          (fun i Z hi hP => by
            obtain ⟨s, rfl, k⟩ := hP
            obtain ⟨s2, m1, m2, m3⟩ := R_find (h2.sg k) h3 hb (σ := 1) (by omega) hi
            rw [opR_1] at m2
            obtain ⟨c, bj⟩ := sp_BJ h3 hb (st := i) hi
            have hpos := (sp_pos (lgl (aL a b)) i).1
            have hq := bj.1.1 ((sp1 (lgl (aL a b)) i).2.2 - 1) (by omega)
            have hf : ∀ s, (sp1 (lgl (aL a b)) i).1 s ≤ 1024 := fun s => by have := BJ_bound bj s; omega
            have hlast : lastF (sp1 (lgl (aL a b)) i) ≤ 1024 := by
              have := hf ((sp1 (lgl (aL a b)) i).2.1 ((sp1 (lgl (aL a b)) i).2.2 - 1))
              unfold lastF
              omega
            have hb1 := mxb i (by omega)
            have inner : ∀ rec37 : (RM × Int32 × Int32) → Option (Int32 × RM), lp (M_X6_longest_l56 NN (nI b) rec37) NN (s2, nI (lg_max (aL a b) i), nI i, 0) = rec37 (s2, nI (lg_max (aL a b) (i + 1)), nI (i + 1)) := by
              intro rec37
              obtain ⟨z', M, ⟨w, rfl, w1, w2, w3⟩, k3⟩ := lp_to (body := M_X6_longest_l56 NN (nI b) rec37) (N := NN) (P := fun j Z => ∃ w, Z = (s2, nI w, nI i, nI j) ∧ lg_max (aL a b) i ≤ w ∧ w ≤ max (lg_max (aL a b) i) (lastF (sp1 (lgl (aL a b)) i)) ∧ ∀ x, x < j → (sp1 (lgl (aL a b)) i).1 x - 1 ≤ w) (2 ^ aZ a b) (fun j Z hj hP => by
                obtain ⟨w, rfl, w1, w2, w3⟩ := hP
                have hw : w ≤ 1024 := by omega
                have hge := lastF_ge bj j
                have hfj := hf j
                have step : ∀ rec56 : (RM × Int32 × Int32 × Int32) → Option (Int32 × RM), M_X6_longest_l56 NN (nI b) rec37 rec56 (s2, nI w, nI i, nI j) = rec56 (s2, (if (sp1 (lgl (aL a b)) i).1 j ≤ w + 1 then nI w else nI ((sp1 (lgl (aL a b)) i).1 j - 1)), nI i, nI (j + 1)) := by
                  intro rec56
                  unfold M_X6_longest_l56 M_X6_longest_j88
                  simp only []
                  rw [R_alln (h2.sg (k.trans m1)) h3 hb, Option.bind_some, if_neg (by rw [nI_ltI (by omega) (by omega)]; omega), if_neg (nI_in (by omega) (by omega)), if_neg (nI_in (by omega) (by omega)), nI_clamp (by omega), m2.1 j hj, nI_1]
                  have ew : nI w = fI (w + 1) := rfl
                  by_cases l : (sp1 (lgl (aL a b)) i).1 j ≤ w + 1
                  · rw [if_pos l, if_pos (by rw [ew, fI_le (by omega) (by omega)]; exact l)]
                  · rw [if_neg l, if_neg (by rw [ew, fI_le (by omega) (by omega)]; exact l)]
                    unfold fI
                    rw [if_neg (by omega)]
                by_cases l : (sp1 (lgl (aL a b)) i).1 j ≤ w + 1
                · refine ⟨(s2, nI w, nI i, nI (j + 1)), ⟨w, rfl, w1, w2, fun x hx => ?_⟩, fun rec => by rw [step, if_pos l]⟩
                  by_cases e : x = j
                  · subst e; omega
                  · exact w3 x (by omega)
                · refine ⟨(s2, nI ((sp1 (lgl (aL a b)) i).1 j - 1), nI i, nI (j + 1)), ⟨_, rfl, by omega, by omega, fun x hx => ?_⟩, fun rec => by rw [step, if_neg l]⟩
                  by_cases e : x = j
                  · subst e; exact Nat.le_refl _
                  · have := w3 x (by omega)
                    omega) (by show 2 ^ aZ a b < 5000; omega) (z := (s2, nI (lg_max (aL a b) i), nI i, 0)) ⟨lg_max (aL a b) i, rfl, Nat.le_refl _, by omega, fun x hx => absurd hx (Nat.not_lt_zero x)⟩
              have ewm : w = lg_max (aL a b) (i + 1) := by
                have := w3 _ hq.1
                show w = max (lg_max (aL a b) i) (lastF (sp1 (lgl (aL a b)) i))
                have e : lastF (sp1 (lgl (aL a b)) i) ≤ w := this
                omega
              rw [k3]
              unfold M_X6_longest_l56
              simp only []
              rw [R_alln (h2.sg (k.trans m1)) h3 hb, Option.bind_some, if_pos (by rw [nI_ltI (by omega) (by omega)]; omega), nI_1, ewm]
            refine Or.inl ⟨_, ⟨s2, rfl, k.trans m1⟩, fun rec => ?_⟩
            unfold M_X6_longest_l37
            simp only []
            rw [R_alln (h2.sg k) h3 hb, Option.bind_some, if_neg (by rw [nI_ltI (by omega) (by omega)]; omega), show (1 : Int32) = nI 1 from rfl, m3, Option.bind_some, inner])
          (fun Z hP => by
            obtain ⟨s, rfl, k⟩ := hP
            refine ⟨_, ⟨s, rfl, k⟩, fun rec => ?_⟩
            unfold M_X6_longest_l37
            simp only []
            rw [R_alln (h2.sg k) h3 hb, Option.bind_some, if_pos (by rw [nI_ltI (by omega) (by omega)]; omega)])
          (by show 2 ^ aZ a b < 5000; omega) (z := (rm, 0, 0)) ⟨rm, rfl, rfl⟩
        exact ⟨rm', k, by rw [← h]; exact h'⟩
      obtain ⟨rm', k, e2⟩ := e2
      rw [c1, Option.bind_some, e1, e2]
      exact ⟨_, rfl, _, rfl, rfl, hI.sg k⟩
    · rw [if_neg l6, if_neg l6, xRf_ok.2.2.2.1, mRf_ok.2.2.2.1]
      exact ⟨_, rfl, _, rfl, rfl, hI.rf 3⟩
  · rw [E_nobar h1 h3 hb, R_nobar h2 h3 hb, Option.bind_some, Option.bind_some, if_neg n00, if_neg n00, xRf_ok.1, mRf_ok.1]
    exact ⟨_, rfl, _, rfl, rfl, hI.rf 0⟩
/-! how many moves may be -/
theorem bs_skip (p : Nat → Bool) {k : Nat} : ∀ (j : Nat), (∀ m, k ≤ m → m < k + j → p m = false) → bs p (k + j) = bs p k
  | 0, _ => rfl
  | j + 1, h => by
    show bs p (k + j) ||| (if p (k + j) then 2 ^ (k + j) else 0) = bs p k
    rw [h (k + j) (by omega) (by omega), if_neg (by decide), Nat.or_zero, bs_skip p j (fun m h1 h2 => h m h1 (by omega))]
theorem ct_skip (p : Nat → Bool) {k : Nat} : ∀ (j : Nat), (∀ m, k ≤ m → m < k + j → p m = false) → fb_ct p (k + j) = fb_ct p k
  | 0, _ => rfl
  | j + 1, h => by
    show fb_ct p (k + j) + (if p (k + j) then 1 else 0) = fb_ct p k
    rw [h (k + j) (by omega) (by omega), if_neg (by decide), Nat.add_zero, ct_skip p j (fun m h1 h2 => h m h1 (by omega))]
theorem lgl_gap {q : PL} (hz : q.2.1 ≤ 10) (s : Nat) {m : Nat} (h1 : 10 ≤ m) (h2 : m < 20) : lgl q s m = false := by
  cases e : lgl q s m
  · rfl
  · have := mvb_20 hz (mvb_of e)
    omega
theorem bs_21 {p : Nat → Bool} (hp : ∀ m, 10 ≤ m → m < 20 → p m = false) : bs p 21 = bs p 10 + 1048576 * (if p 20 then 1 else 0) := by
  have h20 : bs p 20 = bs p 10 := bs_skip p (k := 10) 10 (fun m h1 h2 => hp m h1 h2)
  have hlt : bs p 10 < 2 ^ 20 := Nat.lt_trans (bs_lt p 10) (by decide)
  show bs p 20 ||| (if p 20 then 2 ^ 20 else 0) = _
  rw [h20]
  cases p 20
  · rw [if_neg (by decide), if_neg (by decide), Nat.or_zero]
    rfl
  · rw [if_pos rfl, if_pos rfl, Nat.or_comm]
    have := Nat.two_pow_add_eq_or_of_lt hlt 1
    rw [Nat.mul_one] at this
    rw [← this]
    omega
theorem lg_cnt {q : PL} (hz : q.2.1 ≤ 10) (s : Nat) (N : Nat) : M_J6_bitCount_0f7a4 N (nI (lg q s)) = some (nI (fb_ct (lgl q s) 21)) := by
  have hg : ∀ m, 10 ≤ m → m < 20 → lgl q s m = false := fun m h1 h2 => lgl_gap hz s h1 h2
  have e1 : lg q s = bs (lgl q s) 10 + 1048576 * (if lgl q s 20 then 1 else 0) := bs_21 hg
  have e2 : fb_ct (lgl q s) 21 = pc (bs (lgl q s) 10) + (if lgl q s 20 then 1 else 0) := by
    show fb_ct (lgl q s) 20 + (if lgl q s 20 then 1 else 0) = _
    rw [ct_skip (lgl q s) (k := 10) 10 (fun m h1 h2 => hg m h1 h2)]
    unfold pc
    rw [fb_ct_cong (p := fun i => (bs (lgl q s) 10).testBit i) (q := lgl q s) (fun k hk => by rw [bs_bit, decide_eq_true hk, Bool.true_and])]
  rw [e1, e2]
  exact B_cntL _ (bs_lt _ _) (if lgl q s 20 then 1 else 0) (by split <;> omega)
def en1 (q : PL) (B : BB) (i : Nat) : Bool := fb_ct (lgl q (B.2.1 i)) 21 == 1
theorem pS_ends : S_ends INV := by
  intro ro nw kp dr sh tp lw se rm K T hI p1
  obtain ⟨a, h1, h2, h3, h4, h5, h6, h7, h8⟩ := id hI
  have hn := h3.1
  unfold M_X5_ends M_X6_ends
  by_cases hb : vB a p1
  · obtain ⟨b, hb, rfl⟩ := hb
    have hz := (h3.2 b hb).2.2.1
    have hp := p10 hz
    have ho := (h3.2 b hb).2.2.2.1
    obtain ⟨lw', se', c1, c2, c3, c4, c5⟩ := C_now (ro := ro) h1 h3 hb lw se
    obtain ⟨rm', r1, r2, r3⟩ := R_now h2 h3 hb
    have hle : (sp1 (lgl (aL a b)) (aO a b)).2.2 ≤ 1024 := Nat.le_trans (BI_le c4) hp
    have e1 : M_X2_countEnds NN se' = some (nI (fb_ct (en1 (aL a b) (sp1 (lgl (aL a b)) (aO a b))) (sp1 (lgl (aL a b)) (aO a b)).2.2)) := by
      unfold M_X2_countEnds
      refine lp_for (fun i => (nI (fb_ct (en1 (aL a b) (sp1 (lgl (aL a b)) (aO a b))) i), nI i)) (sp1 (lgl (aL a b)) (aO a b)).2.2 (fun i hi rec => ?_) (fun rec => ?_) (by show _ < 5000; omega)
      · show M_X2_countEnds_l4 NN se' rec (nI (fb_ct (en1 (aL a b) (sp1 (lgl (aL a b)) (aO a b))) i), nI i) = _
        have hq := (c4.1 i hi).1
        have hq2 : (sp1 (lgl (aL a b)) (aO a b)).2.1 i < 2 ^ (aL a b).2.1 := hq
        have hcb : fb_ct (lgl (aL a b) ((sp1 (lgl (aL a b)) (aO a b)).2.1 i)) 21 < 2 ^ 31 := by have := fb_ct_le (lgl (aL a b) ((sp1 (lgl (aL a b)) (aO a b)).2.1 i)) 21; omega
        unfold M_X2_countEnds_l4 M_X2_countEnds_j31
        simp only []
        rw [c3.2.1, if_neg (by rw [nI_leI (by omega) (by omega)]; omega), C_foundAt (q := aL a b) hz c3 c4 hi, Option.bind_some, C_legalAt c2 hz (by omega), Option.bind_some, if_pos hq2, lg_cnt (q := aL a b) hz, Option.bind_some, fb_ct_succ (en1 (aL a b) (sp1 (lgl (aL a b)) (aO a b))) i, nI_1, nI_1]
        unfold en1
        by_cases e : fb_ct (lgl (aL a b) ((sp1 (lgl (aL a b)) (aO a b)).2.1 i)) 21 = 1
        · rw [if_neg (by rw [q_eq_1 hcb]; exact not_not_intro e), b_eq e, if_pos rfl]
        · rw [if_pos (by rw [q_eq_1 hcb]; exact e), b_ne e, if_neg (by decide)]
          rfl
      · show M_X2_countEnds_l4 NN se' rec (nI (fb_ct (en1 (aL a b) (sp1 (lgl (aL a b)) (aO a b))) (sp1 (lgl (aL a b)) (aO a b)).2.2), nI (sp1 (lgl (aL a b)) (aO a b)).2.2) = _
        unfold M_X2_countEnds_l4
        simp only []
        rw [c3.2.1, if_pos (by exact Int32.le_refl _)]
    have e2 : lp (M_X6_ends_l31 NN (nI b)) NN (rm', 0, 0) = some (nI (fb_ct (en1 (aL a b) (sp1 (lgl (aL a b)) (aO a b))) (sp1 (lgl (aL a b)) (aO a b)).2.2), rm') := by
      refine lp_for (fun i => (rm', nI (fb_ct (en1 (aL a b) (sp1 (lgl (aL a b)) (aO a b))) i), nI i)) (sp1 (lgl (aL a b)) (aO a b)).2.2 (fun i hi rec => ?_) (fun rec => ?_) (by show _ < 5000; omega)
      · show M_X6_ends_l31 NN (nI b) rec (rm', nI (fb_ct (en1 (aL a b) (sp1 (lgl (aL a b)) (aO a b))) i), nI i) = _
        have hq := (c4.1 i hi).1
        have hcb : fb_ct (lgl (aL a b) ((sp1 (lgl (aL a b)) (aO a b)).2.1 i)) 21 < 2 ^ 31 := by have := fb_ct_le (lgl (aL a b) ((sp1 (lgl (aL a b)) (aO a b)).2.1 i)) 21; omega
        generalize hE : fb_ct (en1 (aL a b) (sp1 (lgl (aL a b)) (aO a b))) i = E
        have inner : lp (M_X6_ends_l45 NN (nI b) rec) NN (rm', nI E, nI i, 0, 0) = rec (rm', nI (E + (if en1 (aL a b) (sp1 (lgl (aL a b)) (aO a b)) i = true then 1 else 0)), nI (i + 1)) := by
          refine lp_for (fun m => (rm', nI E, nI i, nI (fb_ct (lgl (aL a b) ((sp1 (lgl (aL a b)) (aO a b)).2.1 i)) m), nI m)) 21 (fun m hm rec45 => ?_) (fun rec45 => ?_) (by decide)
          · show M_X6_ends_l45 NN (nI b) rec rec45 (rm', nI E, nI i, nI (fb_ct (lgl (aL a b) ((sp1 (lgl (aL a b)) (aO a b)).2.1 i)) m), nI m) = _
            unfold M_X6_ends_l45 M_X6_ends_j75
            simp only []
            rw [if_neg (by rw [q_gt_20 (by omega)]; omega), if_neg (nI_in (by omega) (by omega)), nI_clamp (n := i) (by omega), r2.2.2 i hi, R_may (h2.sg r1) h3 hb hq (by omega), Option.bind_some, fb_ct_succ (lgl (aL a b) ((sp1 (lgl (aL a b)) (aO a b)).2.1 i)) m, nI_1, nI_1]
            cases lgl (aL a b) ((sp1 (lgl (aL a b)) (aO a b)).2.1 i) m
            · rw [if_pos (by decide), if_neg (by decide), Int32.add_zero]
              rfl
            · rw [if_neg (show ¬ oB true = 0 by decide), if_pos rfl]
          · show M_X6_ends_l45 NN (nI b) rec rec45 (rm', nI E, nI i, nI (fb_ct (lgl (aL a b) ((sp1 (lgl (aL a b)) (aO a b)).2.1 i)) 21), nI 21) = _
            unfold M_X6_ends_l45 M_X6_ends_j96
            simp only []
            rw [if_pos (show (20 : Int32) < nI 21 by decide), nI_1]
            unfold en1
            by_cases e : fb_ct (lgl (aL a b) ((sp1 (lgl (aL a b)) (aO a b)).2.1 i)) 21 = 1
            · rw [if_neg (by rw [q_eq_1 hcb]; exact not_not_intro e), b_eq e, if_pos rfl, nI_1]
            · rw [if_pos (by rw [q_eq_1 hcb]; exact e), b_ne e, if_neg (by decide), Int32.add_zero]
              rfl
        unfold M_X6_ends_l31
        simp only []
        rw [r2.2.1, if_neg (by rw [nI_leI (by omega) (by omega)]; omega), inner, fb_ct_succ (en1 (aL a b) (sp1 (lgl (aL a b)) (aO a b))) i, hE]
      · show M_X6_ends_l31 NN (nI b) rec (rm', nI (fb_ct (en1 (aL a b) (sp1 (lgl (aL a b)) (aO a b))) (sp1 (lgl (aL a b)) (aO a b)).2.2), nI (sp1 (lgl (aL a b)) (aO a b)).2.2) = _
        unfold M_X6_ends_l31
        simp only []
        rw [r2.2.1, if_pos (by exact Int32.le_refl _)]
    rw [E_bar h1 h3 hb, Option.bind_some, if_pos n10, c1, R_bar h2 h3 hb, Option.bind_some, Option.bind_some, if_pos n10, if_neg (E_in h3 hb), E_cl h3 hb, (h2.2.1 b (by omega)).2.2.1, r3, Option.bind_some, e1, e2]
    exact ⟨_, rfl, _, rfl, rfl, hI.sg r1⟩
  · rw [E_nobar h1 h3 hb, R_nobar h2 h3 hb, Option.bind_some, Option.bind_some, if_neg n00, if_neg n00, xRf_ok.1, mRf_ok.1]
    exact ⟨_, rfl, _, rfl, rfl, hI.rf 0⟩
