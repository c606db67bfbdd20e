/-! reach, fewest, between, farthest, longest, ends, movable, first -/
theorem opR_1 (q : PL) : opR q 1 = lgl q := if_pos rfl
theorem opR_0 (q : PL) : opR q 0 = rev (lgl q) := if_neg (by decide)
theorem R_now {rm : RM} {a : AE} {b : Nat} (h : RmA rm a) (ok : OkA a) (hb : b < aN a) : ∃ rm', Sg rm rm' ∧ RmB rm' (aL a b) (sp1 (lgl (aL a b)) (aO a b)) ∧ M_X6_findFar NN rm (nI b) (nI (aO a b)) 1 = some rm' := by
  obtain ⟨rm', k1, k2, k3⟩ := R_find h ok hb (σ := 1) (by omega) (ok.2 b hb).2.2.2.1
  rw [opR_1] at k2
  exact ⟨rm', k1, k2, k3⟩
theorem R_back {rm : RM} {a : AE} {b v : Nat} (h : RmA rm a) (ok : OkA a) (hb : b < aN a) (hv : v < 2 ^ aZ a b) : ∃ rm', Sg rm rm' ∧ RmB rm' (aL a b) (sp1 (rev (lgl (aL a b))) v) ∧ M_X6_findFar NN rm (nI b) (nI v) 0 = some rm' := by
  obtain ⟨rm', k1, k2, k3⟩ := R_find h ok hb (σ := 0) (by omega) hv
  rw [opR_0] at k2
  exact ⟨rm', k1, k2, k3⟩
theorem sp_BJ {a : AE} {b : Nat} (ok : OkA a) (hb : b < aN a) {st : Nat} (hs : st < 2 ^ aZ a b) : ∃ c, BJ (lgl (aL a b)) (2 ^ aZ a b) st (sp1 (lgl (aL a b)) st).2.2 c (sp1 (lgl (aL a b)) st) := by
  have hz := (ok.2 b hb).2.2.1
  exact sp1_BJ (lgl_ok (q := aL a b) hz) (p10 hz) hs
theorem sp_BJr {a : AE} {b : Nat} (ok : OkA a) (hb : b < aN a) {st : Nat} (hs : st < 2 ^ aZ a b) : ∃ c, BJ (rev (lgl (aL a b))) (2 ^ aZ a b) st (sp1 (rev (lgl (aL a b))) st).2.2 c (sp1 (rev (lgl (aL a b))) st) := by
  have hz := (ok.2 b hb).2.2.1
  exact sp1_BJ (lgl_rok (q := aL a b) hz) (p10 hz) hs
theorem BJ_small {op : Nat → Nat → Bool} {n st i c : Nat} {B : BB} (h : BJ op n st i c B) : ∀ d v, B.1 v = d + 1 → d < B.2.2
  | 0, v, hv => by
    obtain ⟨j, hj, -⟩ := BI_mem h.1 (h.2.2.2.2.2.2 v (by omega)) (by omega)
    omega
  | d + 1, v, hv => by
    obtain ⟨u, m, -, -, -, hu⟩ := h.2.2.2.2.1 v d hv
    have ih := BJ_small h d u hu
    obtain ⟨j, hj, ej⟩ := BI_mem h.1 (h.2.2.2.2.2.2 v (by omega)) (by omega)
    obtain ⟨k, hk, ek⟩ := BI_mem h.1 (h.2.2.2.2.2.2 u (by omega)) (by omega)
    have hs : ∀ d v, B.1 v = d + 1 → ∃ f : Nat → Nat, ∀ x, x ≤ d → B.1 (f x) = x + 1 := by
      intro d
      induction d with
      | zero => exact fun v hv => ⟨fun _ => v, fun x hx => by rw [hv]; omega⟩
      | succ d ihd =>
        intro v hv
        obtain ⟨w, m, -, -, -, hw⟩ := h.2.2.2.2.1 v d hv
        obtain ⟨f, hf⟩ := ihd w hw
        refine ⟨fun x => if x = d + 1 then v else f x, fun x hx => ?_⟩
        show B.1 (if x = d + 1 then v else f x) = x + 1
        by_cases e : x = d + 1
        · rw [if_pos e, hv, e]
        · rw [if_neg e]; exact hf x (by omega)
    obtain ⟨f, hf⟩ := hs (d + 1) v hv
    have hmem : ∀ x, x ≤ d + 1 → ∃ i, i < B.2.2 ∧ B.2.1 i = f x := fun x hx => BI_mem h.1 (h.2.2.2.2.2.2 _ (by rw [hf x hx]; omega)) (by rw [hf x hx]; omega)
    have hx : ∀ x, ∃ i, x ≤ d + 1 → i < B.2.2 ∧ B.2.1 i = f x := fun x => by
      by_cases e : x ≤ d + 1
      · obtain ⟨i, hi⟩ := hmem x e
        exact ⟨i, fun _ => hi⟩
      · exact ⟨0, fun z => absurd z e⟩
    have key := fb_holes B.2.2 (d + 2) (fun x => (hx x).choose) (fun x hx2 => ((hx x).choose_spec (by omega)).1) (fun x y hxy hy e => by
      have e1 := ((hx x).choose_spec (by omega)).2
      have e2 := ((hx y).choose_spec (by omega)).2
      have e3 : f x = f y := by rw [← e1, ← e2]; exact congrArg B.2.1 e
      have e4 := hf x (by omega)
      have e5 := hf y (by omega)
      rw [e3] at e4
      omega)
    omega
theorem BJ_bound {op : Nat → Nat → Bool} {n st i c : Nat} {B : BB} (h : BJ op n st i c B) (s : Nat) : B.1 s ≤ n := by
  have hle := BI_le h.1
  cases e : B.1 s with
  | zero => omega
  | succ d => have := BJ_small h d s e; omega
theorem fI_lt {x y : Nat} (hx : x < 2 ^ 31) (hy : y < 2 ^ 31) : fI x < fI y ↔ x < y := by
  cases x with
  | zero =>
    cases y with
    | zero => rw [fI_0, lt_toInt]; omega
    | succ y => rw [fI_0, fI_s, lt_toInt, t_m1, nI_toInt (by omega)]; omega
  | succ x =>
    cases y with
    | zero => rw [fI_0, fI_s, lt_toInt, t_m1, nI_toInt (by omega)]; omega
    | succ y => rw [fI_s, fI_s, nI_ltI (by omega) (by omega)]; omega
theorem fI_le {x y : Nat} (hx : x < 2 ^ 31) (hy : y < 2 ^ 31) : fI x ≤ fI y ↔ x ≤ y := by
  have := fI_lt hy hx
  rw [← Int32.not_lt, this]
  omega
theorem fI_eq {x y : Nat} (hx : x < 2 ^ 31) (hy : y < 2 ^ 31) : fI x = fI y ↔ x = y := by
  constructor
  · intro e
    have h1 := (fI_le hx hy).mp (by rw [e]; exact Int32.le_refl _)
    have h2 := (fI_le hy hx).mp (by rw [e]; exact Int32.le_refl _)
    omega
  · intro e; rw [e]
theorem pS_reach : S_reach INV := by
  intro ro nw kp dr sh tp lw se rm K T hI p1
  obtain ⟨a, h1, h2, h3, h4, h5, h6, h7, h8⟩ := id hI
  have hn := h3.1
  unfold M_X5_reach M_X6_reach
  by_cases hb : vB a p1
  · obtain ⟨b, hb, rfl⟩ := hb
    obtain ⟨lw', se', c1, c2, c3, c4, c5⟩ := C_now (ro := ro) h1 h3 hb lw se
    obtain ⟨rm', r1, r2, r3⟩ := R_now h2 h3 hb
    rw [E_bar h1 h3 hb, Option.bind_some, if_pos (by decide), c1, R_bar h2 h3 hb, Option.bind_some, Option.bind_some, if_pos (by decide), if_neg (E_in h3 hb), E_cl h3 hb, (h2.2.1 b (by omega)).2.2.1, r3]
    refine ⟨_, rfl, _, rfl, ?_, hI.sg r1⟩
    show SE_found se' = RM_queued rm'
    rw [c3.2.1, r2.2.1]
  · rw [E_nobar h1 h3 hb, R_nobar h2 h3 hb, Option.bind_some, Option.bind_some, if_neg (by decide), if_neg (by decide), xRf_ok.1, mRf_ok.1]
    exact ⟨_, rfl, _, rfl, rfl, hI.rf 0⟩
theorem pS_fewest : S_fewest INV := by
  intro ro nw kp dr sh tp lw se rm K T hI p1 p2
  obtain ⟨a, h1, h2, h3, h4, h5, h6, h7, h8⟩ := id hI
  have hn := h3.1
  rcases p_set_cases a p1 p2 with ⟨b, s, hb, rfl, hs, rfl⟩ | hno
  · have ho := (h3.2 b hb).2.2.2.1
    obtain ⟨lw', se', c1, c2, c3⟩ := C_lead (ro := ro) h1 h3 hb lw se ho hs
    obtain ⟨rm', r1, r2⟩ := R_fewest h2 h3 hb ho hs
    unfold M_X5_fewest M_X6_fewest
    rw [E_setI h1 h3 hb hs, Option.bind_some, if_pos (by decide), E_on h1 h3 hb, Option.bind_some, c1, Option.bind_some, R_bar h2 h3 hb, Option.bind_some, if_neg n10, R_setI h2 h3 hb hs, Option.bind_some, if_neg n10, if_neg (E_in h3 hb), E_cl h3 hb, (h2.2.1 b (by omega)).2.2.1, r2]
    exact ⟨_, rfl, _, rfl, rfl, hI.sg r1⟩
  · refine ⟨(-2, xRf ro 0, lw, se), ?_, (-2, mRf rm 0), ?_, rfl, hI.rf 0⟩
    · unfold M_X5_fewest
      rw [E_nosetI h1 h3 hno, Option.bind_some, if_neg (by decide), xRf_ok.1]
      rfl
    · unfold M_X6_fewest M_X6_fewest_j33
      rcases R_setnot (N := NN) h2 h3 hno with e | ⟨e, e'⟩
      · rw [e, Option.bind_some, if_pos rfl, mRf_ok.1]
        rfl
      · rw [e, Option.bind_some, if_neg (by decide), e', Option.bind_some, if_pos rfl, mRf_ok.1]
        rfl
theorem pS_between : S_between INV := by
  intro ro nw kp dr sh tp lw se rm K T hI p1 p2 p3
  obtain ⟨a, h1, h2, h3, h4, h5, h6, h7, h8⟩ := id hI
  have hn := h3.1
  have ej : M_X5_between_j26 NN nw p1 p2 p3 (ro, lw, se) = some (-2, xRf ro 0, lw, se) := by
    unfold M_X5_between_j26
    rw [xRf_ok.1]
    rfl
  have ej2 : M_X6_between_j38 NN p1 p2 p3 rm = some (-2, mRf rm 0) := by
    unfold M_X6_between_j38
    rw [mRf_ok.1]
    rfl
  unfold M_X5_between M_X6_between
  rw [ej, ej2]
  rcases p_set_cases a p1 p2 with ⟨b, s, hb, rfl, hs, rfl⟩ | hno
  · rw [E_setI h1 h3 hb hs, Option.bind_some, if_neg n10, R_bar h2 h3 hb, Option.bind_some, if_neg n10, R_setI h2 h3 hb hs, Option.bind_some, if_neg n10]
    by_cases hv : vI (2 ^ aZ a b) p3
    · obtain ⟨v, hv, rfl⟩ := hv
      obtain ⟨lw', se', c1, c2, c3⟩ := C_lead (ro := ro) h1 h3 hb lw se hs hv
      obtain ⟨rm', r1, r2⟩ := R_fewest h2 h3 hb hs hv
      rw [E_setI h1 h3 hb hv, Option.bind_some, if_pos n10, c1, R_setI h2 h3 hb hv, Option.bind_some, Option.bind_some, if_neg n10, r2]
      exact ⟨_, rfl, _, rfl, rfl, hI.sg r1⟩
    · rw [E_nosetb h1 h3 hb hv, R_nosetb h2 h3 hb hv]
      exact ⟨_, rfl, _, rfl, rfl, hI.rf 0⟩
  · rw [E_nosetI h1 h3 hno]
    refine ⟨(-2, xRf ro 0, lw, se), rfl, (-2, mRf rm 0), ?_, rfl, hI.rf 0⟩
    rcases R_setnot (N := NN) h2 h3 hno with e | ⟨e, e'⟩
    · rw [e]; rfl
    · rw [e, Option.bind_some, if_neg (by decide), e']; rfl
def bst1 (F : Nat → Nat) (st : Nat) : Nat → Nat
  | 0 => st
  | i + 1 => if F (bst1 F st i) < F i then i else bst1 F st i
theorem bst1_lt {F : Nat → Nat} {st n : Nat} (hs : st < n) : ∀ i, i ≤ n → bst1 F st i < n
  | 0, _ => hs
  | i + 1, hi => by
    unfold bst1
    split
    · omega
    · exact bst1_lt hs i (by omega)
theorem bst1_or (F : Nat → Nat) (st : Nat) : ∀ i, bst1 F st i = st ∨ bst1 F st i < i
  | 0 => Or.inl rfl
  | i + 1 => by
    unfold bst1
    split
    · exact Or.inr (by omega)
    · rcases bst1_or F st i with h | h
      · exact Or.inl h
      · exact Or.inr (by omega)
theorem pS_farthest : S_farthest INV := by
  intro ro nw kp dr sh tp lw se rm K T hI p1 p2
  obtain ⟨a, h1, h2, h3, h4, h5, h6, h7, h8⟩ := id hI
  have hn := h3.1
  have ej : M_X5_farthest_j20 NN nw p1 p2 (ro, lw, se) = some (-2, xRf ro 0, lw, se) := by
    unfold M_X5_farthest_j20
    rw [xRf_ok.1]
    rfl
  have ej2 : M_X6_farthest_j18 NN p1 p2 rm = some (-2, mRf rm 0) := by
    unfold M_X6_farthest_j18
    rw [mRf_ok.1]
    rfl
  unfold M_X5_farthest M_X6_farthest
  rw [ej, ej2]
  by_cases hb : vB a p1
  · obtain ⟨b, hb, rfl⟩ := hb
    rw [E_bar h1 h3 hb, Option.bind_some, if_neg n10, R_bar h2 h3 hb, Option.bind_some, if_neg n10]
    by_cases hw : vI 2 p2
    · obtain ⟨w, hw, rfl⟩ := hw
      have hz := (h3.2 b hb).2.2.1
      have hp := p10 hz
      have ho := (h3.2 b hb).2.2.2.1
      obtain ⟨lw', se', c1, c2, c3, c4, c5⟩ := C_now (ro := ro) h1 h3 hb lw se
      obtain ⟨rm', r1, r2, r3⟩ := R_now h2 h3 hb
      obtain ⟨c, bj⟩ := sp_BJ h3 hb ho
      have hf : ∀ s, (sp1 (lgl (aL a b)) (aO a b)).1 s < 2 ^ 31 := fun s => by have := BJ_bound bj s; omega
      have q0 : (sp1 (lgl (aL a b)) (aO a b)).2.1 0 = aO a b := by
        have : Bup _ (sp1 (lgl (aL a b)) (aO a b)) := Bup_bfs (op := lgl (aL a b)) 1025 0 (B := ins (aO a b) 1 (fun _ => 0, fun _ => 0, 0))
        rw [this.2.1 0 (show 0 < 0 + 1 by omega)]
        rfl
      have cp : 0 < (sp1 (lgl (aL a b)) (aO a b)).2.2 := by
        have : Bup _ (sp1 (lgl (aL a b)) (aO a b)) := Bup_bfs (op := lgl (aL a b)) 1025 0 (B := ins (aO a b) 1 (fun _ => 0, fun _ => 0, 0))
        exact Nat.lt_of_lt_of_le (show 0 < 0 + 1 by omega) this.1
      generalize sp1 (lgl (aL a b)) (aO a b) = B at *
      have bl : ∀ i, i ≤ 2 ^ aZ a b → bst1 B.1 (aO a b) i < 2 ^ aZ a b := bst1_lt ho
      have e1 : M_X2_farthestSet NN se' = some (nI (bst1 B.1 (aO a b) (2 ^ aZ a b))) := by
        unfold M_X2_farthestSet
        rw [show (0 : Int32) = nI 0 from rfl, C_foundAt (q := aL a b) hz c3 c4 cp, q0, Option.bind_some]
        refine lp_for (fun i => (nI (bst1 B.1 (aO a b) i), nI i)) (2 ^ aZ a b) (fun i hi rec => ?_) (fun rec => ?_) (by show 2 ^ aZ a b < 5000; omega)
        · have bi := bl i (by omega)
          show M_X2_farthestSet_l8 NN se' rec (nI (bst1 B.1 (aO a b) i), nI i) = rec (nI (if B.1 (bst1 B.1 (aO a b) i) < B.1 i then i else bst1 B.1 (aO a b) i), nI (i + 1))
          unfold M_X2_farthestSet_l8 M_X2_farthestSet_j31
          simp only []
          rw [c2.2.1, if_neg (by rw [nI_leI (by show 2 ^ aZ a b < _; omega) (by omega)]; show ¬ 2 ^ aZ a b ≤ i; omega), C_far c2 hz c3 (by omega), C_far c2 hz c3 (by omega), Option.bind_some, Option.bind_some, if_pos (show i < 2 ^ (aL a b).2.1 from hi), if_pos (show bst1 B.1 (aO a b) i < 2 ^ (aL a b).2.1 from bi), nI_1]
          by_cases l : B.1 (bst1 B.1 (aO a b) i) < B.1 i
          · rw [if_pos l, if_neg (by rw [fI_le (hf _) (hf _)]; omega)]
          · rw [if_neg l, if_pos (by rw [fI_le (hf _) (hf _)]; omega)]
        · show M_X2_farthestSet_l8 NN se' rec (nI (bst1 B.1 (aO a b) (2 ^ aZ a b)), nI (2 ^ aZ a b)) = _
          unfold M_X2_farthestSet_l8
          simp only []
          rw [c2.2.1, if_pos (by exact Int32.le_refl _)]
      have e2 : lp (M_X6_farthest_l47 NN (nI b) (nI w)) NN (rm', nI (aO a b), 0) = some (if w = 0 then nI (bst1 B.1 (aO a b) (2 ^ aZ a b)) else fI (B.1 (bst1 B.1 (aO a b) (2 ^ aZ a b))), rm') := by
        refine lp_for (fun i => (rm', nI (bst1 B.1 (aO a b) i), nI i)) (2 ^ aZ a b) (fun i hi rec => ?_) (fun rec => ?_) (by show 2 ^ aZ a b < 5000; omega)
        · have bi := bl i (by omega)
          show M_X6_farthest_l47 NN (nI b) (nI w) rec (rm', nI (bst1 B.1 (aO a b) i), nI i) = rec (rm', nI (if B.1 (bst1 B.1 (aO a b) i) < B.1 i then i else bst1 B.1 (aO a b) i), nI (i + 1))
          unfold M_X6_farthest_l47 M_X6_farthest_j100 M_X6_farthest_j95 M_X6_farthest_j101
          simp only []
          rw [R_alln (h2.sg r1) h3 hb, Option.bind_some, if_neg (by rw [nI_ltI (by omega) (by omega)]; omega), if_neg (nI_in (by omega) (by omega)), if_neg (nI_in (by omega) (by omega)), if_neg (nI_in (by omega) (by omega)), if_neg (nI_in (by omega) (by omega)), nI_clamp (n := i) (by omega), nI_clamp (n := bst1 B.1 (aO a b) i) (by omega), r2.1 i hi, r2.1 _ bi, nI_1]
          by_cases l : B.1 (bst1 B.1 (aO a b) i) < B.1 i
          · rw [if_pos l, if_pos (by rw [fI_lt (hf _) (hf _)]; exact l)]
          · rw [if_neg l, if_neg (by rw [fI_lt (hf _) (hf _)]; exact l)]
            by_cases l2 : B.1 i = B.1 (bst1 B.1 (aO a b) i)
            · have l3 : bst1 B.1 (aO a b) i ≤ i := by
                rcases bst1_or B.1 (aO a b) i with o | o
                · have : B.1 (aO a b) = 1 := (bj.2.2.2.2.2.1 _).mpr rfl
                  rw [o, this] at l2
                  rw [o, (bj.2.2.2.2.2.1 _).mp l2]
                  exact Nat.le_refl _
                · omega
              rw [if_neg (by rw [fI_eq (hf _) (hf _)]; exact not_not_intro l2), if_pos (by rw [nI_leI (by omega) (by omega)]; exact l3)]
            · rw [if_pos (by rw [fI_eq (hf _) (hf _)]; exact l2)]
        · have bi := bl _ (Nat.le_refl _)
          show M_X6_farthest_l47 NN (nI b) (nI w) rec (rm', nI (bst1 B.1 (aO a b) (2 ^ aZ a b)), nI (2 ^ aZ a b)) = _
          unfold M_X6_farthest_l47
          simp only []
          rw [R_alln (h2.sg r1) h3 hb, Option.bind_some, if_pos (by rw [nI_ltI (by omega) (by omega)]; omega)]
          by_cases e : w = 0
          · rw [if_pos e, if_neg (by rw [q_eq_0 (by omega)]; exact not_not_intro e)]
          · rw [if_neg e, if_pos (by rw [q_eq_0 (by omega)]; exact e), if_neg (nI_in (by omega) (by omega)), nI_clamp (by omega), r2.1 _ bi]
      have bi := bl _ (Nat.le_refl _)
      rw [if_neg (nI_pos (by omega)), if_pos (by rw [q_le_1 (by omega)]; omega), c1, Option.bind_some, e1, Option.bind_some, R_q1 (k := 2) ⟨w, hw, rfl⟩ rfl (by omega), Option.bind_some, if_pos n10, if_neg (E_in h3 hb), E_cl h3 hb, (h2.2.1 b (by omega)).2.2.1, r3, Option.bind_some, if_neg (E_ix h3 hb), ((h2.sg r1).2.1 b (by omega)).2.2.1, e2, C_far c2 hz c3 (by omega), if_pos (show bst1 B.1 (aO a b) (2 ^ aZ a b) < 2 ^ (aL a b).2.1 from bi)]
      by_cases e : w = 0
      · rw [if_neg (by rw [q_eq_0 (by omega)]; exact not_not_intro e), if_pos e]
        exact ⟨_, rfl, _, rfl, rfl, hI.sg r1⟩
      · rw [if_pos (by rw [q_eq_0 (by omega)]; exact e), if_neg e]
        exact ⟨_, rfl, _, rfl, rfl, hI.sg r1⟩
    · rw [R_q0 (k := 2) hw rfl (by omega)]
      refine ⟨(-2, xRf ro 0, lw, se), ?_, (-2, mRf rm 0), rfl, rfl, hI.rf 0⟩
      rw [vI_int (by omega)] at hw
      by_cases l : p2 < 0
      · rw [if_pos l]
      · rw [if_neg l, if_neg]
        rw [lt_toInt, t_0] at l
        rw [le_toInt, t_1]
        omega
  · rw [E_nobar h1 h3 hb, R_nobar h2 h3 hb]
    exact ⟨_, rfl, _, rfl, rfl, hI.rf 0⟩
