/-! shape -/
def pr (q : PL) (B : BB) (s m : Nat) : Bool := decide (s ^^^ mk m < 2 ^ q.2.1) && !(B.1 (s ^^^ mk m) == 0) && (lgl q s m || lgl q (s ^^^ mk m) m)
def pn (q : PL) (B : BB) (s : Nat) : Nat := fb_ct (pr q B s) 21
theorem pr_gap {q : PL} (hz : q.2.1 ≤ 10) (B : BB) (s : Nat) {m : Nat} (h1 : q.2.1 ≤ m) (h2 : m < 20) : pr q B s m = false := by
  have e : ∀ u, lgl q u m = false := fun u => op_gap (q := q) (op := lgl q) (fun _ _ h => mvb_of h) h1 h2
  unfold pr
  rw [e, e]
  simp
theorem pn_le (q : PL) (B : BB) (s : Nat) : pn q B s ≤ 21 := fb_ct_le _ _
theorem C_pairs {q : PL} (hz : q.2.1 ≤ 10) {se : SE} {B : BB} (h : SeL se q) (hB : SeB se q B) (hs : ∀ s, B.1 s < 2 ^ 31) {s : Nat} (hq : s < 2 ^ q.2.1) : M_X2_pairsOf NN se (nI s) = some (nI (pn q B s)) := by
  have h2 := p10 hz
  unfold M_X2_pairsOf
  have step : ∀ j, j ≤ q.2.1 → ∀ (c : Nat) (rec : (Int32 × Int32) → Option Int32), M_X2_pairsOf_l4 NN se (nI s) rec (nI c, nI j) = rec (nI (c + (if pr q B s (if j < q.2.1 then j else 20) = true then 1 else 0)), nI (j + 1)) := by
    intro j hj c rec
    have hm : (if j < q.2.1 then j else 20) < 10 ∨ (if j < q.2.1 then j else 20) = 20 := by split <;> omega
    unfold M_X2_pairsOf_l4 M_X2_pairsOf_j54
    simp only []
    rw [h.1, if_neg (by rw [nI_ltI (by omega) (by omega)]; omega), C_moveOf h hz (by omega), Option.bind_some]
    generalize (if j < q.2.1 then j else 20) = m at hm ⊢
    have hv : s ^^^ mk m < 2 ^ 10 := by
      refine Nat.xor_lt_two_pow (by omega) ?_
      rcases hm with hm | rfl
      · rw [mk_r (by omega)]; exact Nat.pow_lt_pow_right (by omega) hm
      · decide
    rw [C_rings hm, Option.bind_some, fb_xorI, C_far h hz hB (by omega), Option.bind_some, show (3 : Int32) = nI 3 from rfl, C_isOpen h hz hq hm (σ := 3) (by omega), Option.bind_some, nI_1, nI_1]
    unfold pr
    rw [show opS q 3 s m = (lgl q s m || lgl q (s ^^^ mk m) m) from rfl]
    by_cases l : s ^^^ mk m < 2 ^ q.2.1
    · rw [if_pos l, decide_eq_true l, Bool.true_and]
      by_cases e : B.1 (s ^^^ mk m) = 0
      · rw [if_pos ((fI_m (hs _)).mpr e), b_eq e]
        rfl
      · rw [if_neg (fun z => e ((fI_m (hs _)).mp z)), b_ne e]
        cases (lgl q s m || lgl q (s ^^^ mk m) m)
        · rw [if_pos (show oB false = 0 by decide)]
          rfl
        · rw [if_neg (show ¬ oB true = 0 by decide)]
          rfl
    · rw [if_neg l, if_pos rfl, decide_eq_false l]
      rfl
  have := lp_for (body := M_X2_pairsOf_l4 NN se (nI s)) (N := NN) (r := some (nI (pn q B s))) (fun j => (nI (if j ≤ q.2.1 then fb_ct (pr q B s) j else pn q B s), nI j)) (q.2.1 + 1) (fun j hj rec => by
    show M_X2_pairsOf_l4 NN se (nI s) rec (nI (if j ≤ q.2.1 then fb_ct (pr q B s) j else pn q B s), nI j) = rec (nI (if j + 1 ≤ q.2.1 then fb_ct (pr q B s) (j + 1) else pn q B s), nI (j + 1))
    rw [if_pos (by omega), step j (by omega)]
    by_cases l : j < q.2.1
    · rw [if_pos l, if_pos (show j + 1 ≤ q.2.1 by omega), fb_ct_succ (pr q B s) j]
    · obtain rfl : j = q.2.1 := by omega
      rw [if_neg l, if_neg (show ¬ q.2.1 + 1 ≤ q.2.1 by omega)]
      have e := ct_skip (pr q B s) (k := q.2.1) (20 - q.2.1) (fun m h1 h2 => pr_gap hz B s h1 (by omega))
      rw [show q.2.1 + (20 - q.2.1) = 20 by omega] at e
      have e2 : pn q B s = fb_ct (pr q B s) 20 + (if pr q B s 20 = true then 1 else 0) := rfl
      rw [e2, e]) (fun rec => by
    show M_X2_pairsOf_l4 NN se (nI s) rec (nI (if q.2.1 + 1 ≤ q.2.1 then fb_ct (pr q B s) (q.2.1 + 1) else pn q B s), nI (q.2.1 + 1)) = _
    unfold M_X2_pairsOf_l4
    simp only []
    rw [h.1, if_pos (by rw [nI_ltI (by omega) (by omega)]; omega), if_neg (by omega)]) (by show _ < 5000; omega)
  exact this
def mxN (f : Nat → Nat) : Nat → Nat
  | 0 => 0
  | n + 1 => max (mxN f n) (f n)
theorem mxN_le {f : Nat → Nat} {c : Nat} : ∀ {n : Nat}, (∀ k, k < n → f k ≤ c) → mxN f n ≤ c
  | 0, _ => Nat.zero_le _
  | n + 1, h => Nat.max_le.mpr ⟨mxN_le fun k hk => h k (by omega), h n (by omega)⟩
theorem le_mxN {f : Nat → Nat} : ∀ {n k : Nat}, k < n → f k ≤ mxN f n
  | n + 1, k, h => by
    show f k ≤ max (mxN f n) (f n)
    by_cases e : k = n
    · subst e; exact Nat.le_max_right _ _
    · exact Nat.le_trans (le_mxN (show k < n by omega)) (Nat.le_max_left _ _)
theorem arePair_ok {rm : RM} {a : AE} {b : Nat} (h : RmA rm a) (ok : OkA a) (hb : b < aN a) {s m : Nat} (hs : s < 2 ^ aZ a b) (hm : m ≤ 20) : M_X6_arePair NN rm (nI b) (nI s) (nI m) = some (oB (mvb (aL a b) m && (lgl (aL a b) s m || lgl (aL a b) (s ^^^ mk m) m))) := by
  have hz := (ok.2 b hb).2.2.1
  unfold M_X6_arePair
  rw [R_move h ok hb (by omega), Option.bind_some]
  cases v : mvb (aL a b) m
  · rfl
  · have hto : s ^^^ mk m < 2 ^ aZ a b := mvb_mk (q := aL a b) hz v hs
    rw [if_neg (show ¬ oB true = 0 by decide), R_may h ok hb hs (by omega), Option.bind_some, M_mask hm, Option.bind_some, fb_xorI, R_may h ok hb hto (by omega), Option.bind_some]
    cases lgl (aL a b) s m <;> cases lgl (aL a b) (s ^^^ mk m) m <;> rfl
theorem fb_sm_le' {f : Nat → Nat} {c : Nat} (hf : ∀ k, f k ≤ c) : ∀ n, fb_sm f n ≤ n * c
  | 0 => Nat.zero_le _
  | n + 1 => by
    have h1 := fb_sm_le' hf n
    have h2 := hf n
    rw [fb_sm_succ, Nat.succ_mul]
    omega
theorem pS_shape : S_shape INV := by
  intro ro nw kp dr sh tp lw se rm K T hI p1
  obtain ⟨a, h1, h2, h3, h4, h5, h6, h7, h8⟩ := id hI
  have hn := h3.1
  unfold M_X5_shape M_X6_shape
  by_cases hb : vB a p1
  · obtain ⟨b, hb, rfl⟩ := hb
    have hz := (h3.2 b hb).2.2.1
    have hp := p10 hz
    have hp0 : 0 < 2 ^ aZ a b := Nat.two_pow_pos _
    have ho := (h3.2 b hb).2.2.2.1
    obtain ⟨lw', se', c1, c2, c3, c4, c5⟩ := C_now (ro := ro) h1 h3 hb lw se
    obtain ⟨rm', r1, r2, r3⟩ := R_now h2 h3 hb
    obtain ⟨cc, bj⟩ := sp_BJ h3 hb ho
    have hf : ∀ s, (sp1 (lgl (aL a b)) (aO a b)).1 s < 2 ^ 31 := fun s => by have := BJ_bound bj s; omega
    generalize hB : sp1 (lgl (aL a b)) (aO a b) = B at *
    have hle : B.2.2 ≤ 1024 := Nat.le_trans (BI_le c4) hp
    have hle2 : ∀ f : Nat → Nat, (∀ k, f k ≤ 21) → ∀ n, n ≤ 1024 → fb_sm f n ≤ 21504 := fun f hf n hn => by
      have := fb_sm_le' hf n
      omega
    have mxb : ∀ (f : Nat → Nat), (∀ k, f k ≤ 21) → ∀ n, mxN f n ≤ 21 := fun f hf n => mxN_le fun k _ => hf k
    generalize hTv : fb_sm (fun i => pn (aL a b) B (B.2.1 i)) B.2.2 = TT
    generalize hMv : mxN (fun i => pn (aL a b) B (B.2.1 i)) B.2.2 = MX
    have hTT : TT ≤ 21504 := by rw [← hTv]; exact hle2 _ (fun k => pn_le _ _ _) _ hle
    have hMX : MX ≤ 21 := by rw [← hMv]; exact mxb _ (fun k => pn_le _ _ _) _
    have e1 : M_X2_shapeOfFound NN se' = some (if TT < 2 * B.2.2 then (if 2 < MX then 1 else 0) else 2) := by
      unfold M_X2_shapeOfFound
      refine lp_for (fun i => (nI (fb_sm (fun i => pn (aL a b) B (B.2.1 i)) i), nI (mxN (fun i => pn (aL a b) B (B.2.1 i)) i), nI i)) B.2.2 (fun i hi rec => ?_) (fun rec => ?_) (by show _ < 5000; omega)
      · show M_X2_shapeOfFound_l6 NN se' rec (nI (fb_sm (fun i => pn (aL a b) B (B.2.1 i)) i), nI (mxN (fun i => pn (aL a b) B (B.2.1 i)) i), nI i) = rec (nI (fb_sm (fun i => pn (aL a b) B (B.2.1 i)) (i + 1)), nI (max (mxN (fun i => pn (aL a b) B (B.2.1 i)) i) (pn (aL a b) B (B.2.1 i))), nI (i + 1))
        have hq : B.2.1 i < 2 ^ aZ a b := (c4.1 i hi).1
        have m1 := mxb (fun i => pn (aL a b) B (B.2.1 i)) (fun k => pn_le _ _ _) i
        have m2 := pn_le (aL a b) B (B.2.1 i)
        unfold M_X2_shapeOfFound_l6
        simp only []
        rw [c3.2.1, if_neg (by rw [nI_leI (by omega) (by omega)]; omega), C_foundAt (q := aL a b) hz c3 c4 hi, Option.bind_some, C_pairs (q := aL a b) hz c2 c3 hf hq, Option.bind_some, jmaxN (by omega) (by omega), nI_add, nI_1, fb_sm_succ]
      · show M_X2_shapeOfFound_l6 NN se' rec (nI (fb_sm (fun i => pn (aL a b) B (B.2.1 i)) B.2.2), nI (mxN (fun i => pn (aL a b) B (B.2.1 i)) B.2.2), nI B.2.2) = _
        unfold M_X2_shapeOfFound_l6
        simp only []
        rw [hTv, hMv, c3.2.1, if_pos (by exact Int32.le_refl _), show (2 : Int32) * nI B.2.2 = nI (2 * B.2.2) from pk_mul 2 B.2.2]
        by_cases l : TT < 2 * B.2.2
        · rw [if_pos l, if_pos (by rw [nI_ltI (by omega) (by omega)]; exact l)]
          by_cases l2 : 2 < MX
          · rw [if_pos l2, if_pos (by rw [q_gt_2 (by omega)]; exact l2)]
          · rw [if_neg l2, if_neg (by rw [q_gt_2 (by omega)]; exact l2)]
        · rw [if_neg l, if_neg (by rw [nI_ltI (by omega) (by omega)]; exact l)]
    have e2 : lp (M_X6_shape_l37 NN (nI b)) NN (rm', 0, 0, 0, 0) = some ((if TT < 2 * B.2.2 then (if 2 < MX then 1 else 0) else 2), rm') := by
      have hS : ∀ i, i ≤ 2 ^ aZ a b → fb_sm (fun s => if B.1 s = 0 then 0 else 1) i ≤ 1024 := fun i hi => by
        have := fb_sm_le' (f := fun s => if B.1 s = 0 then 0 else 1) (c := 1) (fun k => by split <;> omega) i
        omega
      have hE : ∀ i, i ≤ 2 ^ aZ a b → fb_sm (fun s => if B.1 s = 0 then 0 else pn (aL a b) B s) i ≤ 21504 := fun i hi => hle2 _ (fun k => by have := pn_le (aL a b) B k; split <;> omega) i (by omega)
      have hM : ∀ i, mxN (fun s => if B.1 s = 0 then 0 else pn (aL a b) B s) i ≤ 21 := fun i => mxb _ (fun k => by have := pn_le (aL a b) B k; split <;> omega) i
      have main := lp_for (body := M_X6_shape_l37 NN (nI b)) (N := NN) (r := some ((if TT < 2 * B.2.2 then (if 2 < MX then 1 else 0) else 2), rm')) (fun i => (rm', nI (fb_sm (fun s => if B.1 s = 0 then 0 else 1) i), nI (fb_sm (fun s => if B.1 s = 0 then 0 else pn (aL a b) B s) i), nI (mxN (fun s => if B.1 s = 0 then 0 else pn (aL a b) B s) i), nI i)) (2 ^ aZ a b) (fun i hi rec => by
        have g1 := hS i (by omega)
        have g2 := hE i (by omega)
        have g3 := hM i
        have g4 := pn_le (aL a b) B i
        show M_X6_shape_l37 NN (nI b) rec (rm', nI (fb_sm (fun s => if B.1 s = 0 then 0 else 1) i), nI (fb_sm (fun s => if B.1 s = 0 then 0 else pn (aL a b) B s) i), nI (mxN (fun s => if B.1 s = 0 then 0 else pn (aL a b) B s) i), nI i) = rec (rm', nI (fb_sm (fun s => if B.1 s = 0 then 0 else 1) (i + 1)), nI (fb_sm (fun s => if B.1 s = 0 then 0 else pn (aL a b) B s) (i + 1)), nI (max (mxN (fun s => if B.1 s = 0 then 0 else pn (aL a b) B s) i) (if B.1 i = 0 then 0 else pn (aL a b) B i)), nI (i + 1))
        rw [fb_sm_succ, fb_sm_succ]
        generalize fb_sm (fun s => if B.1 s = 0 then 0 else 1) i = S at g1 ⊢
        generalize fb_sm (fun s => if B.1 s = 0 then 0 else pn (aL a b) B s) i = E at g2 ⊢
        generalize mxN (fun s => if B.1 s = 0 then 0 else pn (aL a b) B s) i = M at g3 ⊢
        have inner : lp (M_X6_shape_l64 NN (nI b) rec) NN (rm', nI S, nI E, nI M, nI i, 0, 0) = rec (rm', nI (S + 1), nI (E + pn (aL a b) B i), nI (max M (pn (aL a b) B i)), nI (i + 1)) := by
          refine lp_for (fun m => (rm', nI S, nI E, nI M, nI i, nI (fb_ct (pr (aL a b) B i) m), nI m)) 21 (fun m hm rec64 => ?_) (fun rec64 => ?_) (by decide)
          · show M_X6_shape_l64 NN (nI b) rec rec64 (rm', nI S, nI E, nI M, nI i, nI (fb_ct (pr (aL a b) B i) m), nI m) = rec64 (rm', nI S, nI E, nI M, nI i, nI (fb_ct (pr (aL a b) B i) (m + 1)), nI (m + 1))
            rw [fb_ct_succ (pr (aL a b) B i) m]
            generalize fb_ct (pr (aL a b) B i) m = C
            unfold M_X6_shape_l64 M_X6_shape_j104 M_X6_shape_j105 M_X6_shape_j119
            simp only []
            rw [if_neg (by rw [q_gt_20 (by omega)]; omega), arePair_ok (h2.sg r1) h3 hb hi (by omega), Option.bind_some, M_mask (by omega), Option.bind_some, fb_xorI, nI_1]
            have no : ∀ x, (if True then rec64 (rm', nI S, nI E, nI M, nI i, nI C + 0, nI (m + 1)) else x) = rec64 (rm', nI S, nI E, nI M, nI i, nI (C + 0), nI (m + 1)) := fun x => by
              rw [if_pos trivial, Int32.add_zero]
              rfl
            have yes : ∀ x, (if (1 : Int32) = 0 then x else rec64 (rm', nI S, nI E, nI M, nI i, nI C + 1, nI (m + 1))) = rec64 (rm', nI S, nI E, nI M, nI i, nI (C + 1), nI (m + 1)) := fun x => by
              rw [if_neg n10, nI_1]
            rw [no, yes]
            cases v : mvb (aL a b) m
            · have ep : pr (aL a b) B i m = false := by
                unfold pr
                cases e1 : lgl (aL a b) i m
                · cases e2 : lgl (aL a b) (i ^^^ mk m) m
                  · simp
                  · rw [mvb_of e2] at v; cases v
                · rw [mvb_of e1] at v; cases v
              rw [Bool.false_and, if_pos (show oB false = 0 by decide), ep, if_neg (show ¬ false = true by decide)]
            · have hto : i ^^^ mk m < 2 ^ aZ a b := mvb_mk (q := aL a b) hz v hi
              have ep : pr (aL a b) B i m = (!(B.1 (i ^^^ mk m) == 0) && (lgl (aL a b) i m || lgl (aL a b) (i ^^^ mk m) m)) := by
                unfold pr
                rw [decide_eq_true (show i ^^^ mk m < 2 ^ (aL a b).2.1 from hto), Bool.true_and]
              rw [Bool.true_and, ep, if_neg (nI_in (by omega) (by omega)), nI_clamp (by omega), r2.1 _ hto]
              cases (lgl (aL a b) i m || lgl (aL a b) (i ^^^ mk m) m)
              · rw [if_pos (show oB false = 0 by decide), Bool.and_false, if_neg (show ¬ false = true by decide)]
              · rw [if_neg (show ¬ oB true = 0 by decide), Bool.and_true]
                by_cases e : B.1 (i ^^^ mk m) = 0
                · rw [if_pos ((fI_m (hf _)).mpr e), b_eq e, if_neg (show ¬ (!true) = true by decide)]
                · rw [if_neg (fun z => e ((fI_m (hf _)).mp z)), b_ne e, if_pos (show (!false) = true by decide)]
          · show M_X6_shape_l64 NN (nI b) rec rec64 (rm', nI S, nI E, nI M, nI i, nI (pn (aL a b) B i), nI 21) = _
            unfold M_X6_shape_l64 M_X6_shape_j150 M_X6_shape_j152
            simp only []
            rw [if_pos (show (20 : Int32) < nI 21 by decide), nI_1, nI_1, nI_add]
            by_cases l : pn (aL a b) B i ≤ M
            · rw [if_pos (by rw [nI_leI (by omega) (by omega)]; exact l), Nat.max_eq_left l]
            · rw [if_neg (by rw [nI_leI (by omega) (by omega)]; exact l), Nat.max_eq_right (by omega)]
        unfold M_X6_shape_l37 M_X6_shape_j152
        simp only []
        rw [R_alln (h2.sg r1) h3 hb, Option.bind_some, if_neg (by rw [nI_ltI (by omega) (by omega)]; omega), if_neg (nI_in (by omega) (by omega)), nI_clamp (n := i) (by omega), r2.1 i hi]
        by_cases e : B.1 i = 0
        · rw [if_pos ((fI_m (hf _)).mpr e), if_pos e, if_pos e, nI_1, Nat.max_eq_left (Nat.zero_le _)]
          rfl
        · rw [if_neg (fun z => e ((fI_m (hf _)).mp z)), if_neg e, if_neg e, inner]) (fun rec => by
        have s1 : fb_sm (fun s => if B.1 s = 0 then 0 else 1) (2 ^ aZ a b) = B.2.2 := by
          have := c4.2 (fun _ => 1)
          rw [fb_sm_const] at this
          omega
        have s2 : fb_sm (fun s => if B.1 s = 0 then 0 else pn (aL a b) B s) (2 ^ aZ a b) = TT := by
          rw [← hTv]
          exact (c4.2 (pn (aL a b) B)).symm
        have s3 : mxN (fun s => if B.1 s = 0 then 0 else pn (aL a b) B s) (2 ^ aZ a b) = MX := by
          rw [← hMv]
          apply Nat.le_antisymm
          · refine mxN_le fun k hk => ?_
            by_cases e : B.1 k = 0
            · rw [if_pos e]; exact Nat.zero_le _
            · rw [if_neg e]
              obtain ⟨j, hj, rfl⟩ := BI_mem c4 hk e
              exact le_mxN (f := fun i => pn (aL a b) B (B.2.1 i)) hj
          · refine mxN_le fun k hk => ?_
            have hq := c4.1 k hk
            have := le_mxN (f := fun s => if B.1 s = 0 then 0 else pn (aL a b) B s) hq.1
            simp only [if_neg hq.2] at this
            exact this
        show M_X6_shape_l37 NN (nI b) rec (rm', nI (fb_sm (fun s => if B.1 s = 0 then 0 else 1) (2 ^ aZ a b)), nI (fb_sm (fun s => if B.1 s = 0 then 0 else pn (aL a b) B s) (2 ^ aZ a b)), nI (mxN (fun s => if B.1 s = 0 then 0 else pn (aL a b) B s) (2 ^ aZ a b)), nI (2 ^ aZ a b)) = _
        rw [s1, s2, s3]
        unfold M_X6_shape_l37
        simp only []
        rw [R_alln (h2.sg r1) h3 hb, Option.bind_some, if_pos (by rw [nI_ltI (by omega) (by omega)]; omega), if_neg (show ¬ (2 : Int32) = 0 by decide), show nI TT / (2 : Int32) = nI (TT / 2) from pk_div (d := 2) (by omega) (by omega) (by omega)]
        by_cases l : TT < 2 * B.2.2
        · rw [if_pos l, if_pos (by rw [nI_ltI (by omega) (by omega)]; omega)]
          by_cases l2 : 2 < MX
          · rw [if_pos l2, if_pos (by rw [q_gt_2 (by omega)]; exact l2)]
          · rw [if_neg l2, if_neg (by rw [q_gt_2 (by omega)]; exact l2)]
        · rw [if_neg l, if_neg (by rw [nI_ltI (by omega) (by omega)]; omega)]) (by show _ < 5000; omega)
      exact main
    rw [E_bar h1 h3 hb, Option.bind_some, if_pos n10, c1, R_bar h2 h3 hb, Option.bind_some, Option.bind_some, if_pos n10, if_neg (E_in h3 hb), E_cl h3 hb, (h2.2.1 b (by omega)).2.2.1, r3, Option.bind_some, e1, e2]
    exact ⟨_, rfl, _, rfl, rfl, hI.sg r1⟩
  · rw [E_nobar h1 h3 hb, R_nobar h2 h3 hb, Option.bind_some, Option.bind_some, if_neg n00, if_neg n00, xRf_ok.1, mRf_ok.1]
    exact ⟨_, rfl, _, rfl, rfl, hI.rf 0⟩
