/-! movable, first -/
def wm (q : PL) (B : BB) : Nat → Nat → Bool
  | 0, _ => false
  | i + 1, m => wm q B i m || lgl q (B.2.1 i) m
theorem wm_gap {q : PL} (hz : q.2.1 ≤ 10) (B : BB) {m : Nat} (h1 : 10 ≤ m) (h2 : m < 20) : ∀ i, wm q B i m = false
  | 0 => rfl
  | i + 1 => by
    show (wm q B i m || lgl q (B.2.1 i) m) = false
    rw [wm_gap hz B h1 h2 i, lgl_gap hz _ h1 h2]
    rfl
theorem bs_or (p r : Nat → Bool) : ∀ n, bs p n ||| bs r n = bs (fun m => p m || r m) n := by
  intro n
  apply Nat.eq_of_testBit_eq
  intro i
  rw [Nat.testBit_or, bs_bit, bs_bit, bs_bit]
  cases decide (i < n) <;> cases p i <;> rfl
def rv (w : Nat → Bool) : Nat := bs w 10 ||| (if w 20 = true then 3 else 0)
def rvx (x : Nat) (c : Bool) : Nat := x ||| (if c = true then 3 else 0)
theorem rvx_or (x y : Nat) (c d : Bool) : rvx x c ||| rvx y d = rvx (x ||| y) (c || d) := by
  unfold rvx
  cases c <;> cases d
  · simp
  · simp [Nat.or_assoc]
  · simp
    rw [Nat.or_assoc, Nat.or_comm 3 y, ← Nat.or_assoc]
  · simp
    rw [Nat.or_assoc, ← Nat.or_assoc 3 y 3, Nat.or_comm 3 y, Nat.or_assoc y 3 3, Nat.or_self, ← Nat.or_assoc]
theorem rv_or (w p : Nat → Bool) : rv w ||| rv p = rv (fun m => w m || p m) := by
  show rvx (bs w 10) (w 20) ||| rvx (bs p 10) (p 20) = rvx (bs (fun m => w m || p m) 10) (w 20 || p 20)
  rw [← bs_or, rvx_or]
theorem bs_f : ∀ n, bs (fun _ => false) n = 0
  | 0 => rfl
  | n + 1 => by
    show bs (fun _ => false) n ||| 0 = 0
    rw [bs_f n]
    rfl
theorem wm_0 (q : PL) (B : BB) : wm q B 0 = fun _ => false := by
  funext m
  rfl
theorem rv_0 (q : PL) (B : BB) : rv (wm q B 0) = 0 := by
  unfold rv
  rw [wm_0, bs_f]
  rfl
def gm (p : Nat → Bool) : Nat → Nat
  | 0 => 0
  | n + 1 => gm p n ||| (if p n = true then mk n else 0)
theorem gm_bs (p : Nat → Bool) : ∀ n, n ≤ 20 → gm p n = bs p n
  | 0, _ => rfl
  | n + 1, h => by
    show gm p n ||| (if p n = true then mk n else 0) = bs p n ||| (if p n then 2 ^ n else 0)
    rw [gm_bs p n (by omega), mk_r (by omega)]
theorem gm_21 {p : Nat → Bool} (hp : ∀ m, 10 ≤ m → m < 20 → p m = false) : gm p 21 = rv p := by
  show gm p 20 ||| (if p 20 = true then mk 20 else 0) = _
  rw [gm_bs p 20 (by omega), show bs p 20 = bs p 10 from bs_skip p (k := 10) 10 (fun m h1 h2 => hp m h1 h2)]
  rfl
theorem pS_movable : S_movable INV := by
  intro ro nw kp dr sh tp lw se rm K T hI p1
  obtain ⟨a, h1, h2, h3, h4, h5, h6, h7, h8⟩ := id hI
  have hn := h3.1
  unfold M_X5_movable M_X6_movable
  by_cases hb : vB a p1
  · obtain ⟨b, hb, rfl⟩ := hb
    have hz := (h3.2 b hb).2.2.1
    have hp := p10 hz
    have ho := (h3.2 b hb).2.2.2.1
    obtain ⟨lw', se', c1, c2, c3, c4, c5⟩ := C_now (ro := ro) h1 h3 hb lw se
    obtain ⟨rm', r1, r2, r3⟩ := R_now h2 h3 hb
    generalize hB : sp1 (lgl (aL a b)) (aO a b) = B at *
    have hle : B.2.2 ≤ 1024 := Nat.le_trans (BI_le c4) hp
    have e1 : M_X2_movableRings NN se' = some (nI (rv (wm (aL a b) B B.2.2))) := by
      unfold M_X2_movableRings
      rw [show ((0, 0) : Int32 × Int32) = (nI (bs (wm (aL a b) B 0) 21), nI 0) from by rw [wm_0, bs_f]; rfl]
      refine lp_for (fun i => (nI (bs (wm (aL a b) B i) 21), nI i)) B.2.2 (fun i hi rec => ?_) (fun rec => ?_) (by show _ < 5000; omega)
      · show M_X2_movableRings_l4 NN se' rec (nI (bs (wm (aL a b) B i) 21), nI i) = _
        have hq : B.2.1 i < 2 ^ aZ a b := (c4.1 i hi).1
        unfold M_X2_movableRings_l4
        simp only []
        rw [c3.2.1, if_neg (by rw [nI_leI (by omega) (by omega)]; omega), C_foundAt (q := aL a b) hz c3 c4 hi, Option.bind_some, C_legalAt c2 hz (by omega), Option.bind_some, if_pos (show B.2.1 i < 2 ^ (aL a b).2.1 from hq), fa_or, nI_1]
        unfold lg
        rw [bs_or]
        rfl
      · show M_X2_movableRings_l4 NN se' rec (nI (bs (wm (aL a b) B B.2.2) 21), nI B.2.2) = _
        generalize hw : wm (aL a b) B B.2.2 = w
        have hg : ∀ m, 10 ≤ m → m < 20 → w m = false := fun m g1 g2 => by rw [← hw]; exact wm_gap hz B g1 g2 _
        have hlt : bs w 10 < 1024 := bs_lt w 10
        have em : nI (bs w 21) &&& (1023 : Int32) = nI (bs w 10) := by
          rw [show (1023 : Int32) = nI (2 ^ 10 - 1) from rfl, fa_mask, bs_21 hg]
          congr 1
          split <;> omega
        unfold M_X2_movableRings_l4
        simp only []
        rw [c3.2.1, if_pos (by exact Int32.le_refl _), show (20 : Int32) = nI 20 from rfl, C_bit _ (by omega), Option.bind_some, bt_bs _ (by omega), C_rings (by omega), Option.bind_some, em, mk_20]
        unfold rv
        cases w 20
        · rw [if_pos (by decide), if_neg (by decide), Nat.or_zero]
        · rw [if_neg (by decide), if_pos rfl, fa_or]
    have e2 : lp (M_X6_movable_l31 NN (nI b)) NN (rm', 0, 0) = some (nI (rv (wm (aL a b) B B.2.2)), rm') := by
      rw [show ((rm', 0, 0) : RM × Int32 × Int32) = (rm', nI (rv (wm (aL a b) B 0)), nI 0) from by rw [rv_0]; rfl]
      refine lp_for (fun i => (rm', nI (rv (wm (aL a b) B i)), nI i)) B.2.2 (fun i hi rec => ?_) (fun rec => ?_) (by show _ < 5000; omega)
      · show M_X6_movable_l31 NN (nI b) rec (rm', nI (rv (wm (aL a b) B i)), nI i) = _
        have hq := (c4.1 i hi).1
        have inner : lp (M_X6_movable_l42 NN (nI b) rec) NN (rm', nI (rv (wm (aL a b) B i)), nI i, 0) = rec (rm', nI (rv (wm (aL a b) B (i + 1))), nI (i + 1)) := by
          have := lp_for (body := M_X6_movable_l42 NN (nI b) rec) (N := NN) (r := rec (rm', nI (rv (wm (aL a b) B (i + 1))), nI (i + 1))) (fun m => (rm', nI (rv (wm (aL a b) B i) ||| gm (lgl (aL a b) (B.2.1 i)) m), nI i, nI m)) 21 (fun m hm rec42 => by
            show M_X6_movable_l42 NN (nI b) rec rec42 (rm', nI (rv (wm (aL a b) B i) ||| gm (lgl (aL a b) (B.2.1 i)) m), nI i, nI m) = rec42 (rm', nI (rv (wm (aL a b) B i) ||| (gm (lgl (aL a b) (B.2.1 i)) m ||| (if lgl (aL a b) (B.2.1 i) m = true then mk m else 0))), nI i, nI (m + 1))
            unfold M_X6_movable_l42 M_X6_movable_j75
            simp only []
            rw [if_neg (by rw [q_gt_20 (by omega)]; omega), if_neg (nI_in (by omega) (by omega)), nI_clamp (n := i) (by omega), r2.2.2 i hi, R_may (h2.sg r1) h3 hb hq (by omega), Option.bind_some, M_mask (by omega), Option.bind_some, nI_1]
            cases lgl (aL a b) (B.2.1 i) m
            · rw [if_pos (by decide), if_neg (by decide), Nat.or_zero, show (0 : Int32) = nI 0 from rfl, fa_or, Nat.or_zero]
            · rw [if_neg (show ¬ oB true = 0 by decide), if_pos rfl, fa_or, Nat.or_assoc]) (fun rec42 => by
            show M_X6_movable_l42 NN (nI b) rec rec42 (rm', nI (rv (wm (aL a b) B i) ||| gm (lgl (aL a b) (B.2.1 i)) 21), nI i, nI 21) = _
            unfold M_X6_movable_l42
            simp only []
            rw [if_pos (show (20 : Int32) < nI 21 by decide), nI_1, gm_21 (fun m g1 g2 => lgl_gap (q := aL a b) hz _ g1 g2), rv_or]
            rfl) (by decide)
          have e0 : rv (wm (aL a b) B i) ||| gm (lgl (aL a b) (B.2.1 i)) 0 = rv (wm (aL a b) B i) := Nat.or_zero _
          simp only [e0] at this
          exact this
        unfold M_X6_movable_l31
        simp only []
        rw [r2.2.1, if_neg (by rw [nI_leI (by omega) (by omega)]; omega), inner]
      · show M_X6_movable_l31 NN (nI b) rec (rm', nI (rv (wm (aL a b) B B.2.2)), nI B.2.2) = _
        unfold M_X6_movable_l31
        simp only []
        rw [r2.2.1, if_pos (by exact Int32.le_refl _)]
    rw [E_bar h1 h3 hb, Option.bind_some, if_pos n10, c1, R_bar h2 h3 hb, Option.bind_some, Option.bind_some, if_pos n10, if_neg (E_in h3 hb), E_cl h3 hb, (h2.2.1 b (by omega)).2.2.1, r3, Option.bind_some, e1, e2]
    exact ⟨_, rfl, _, rfl, rfl, hI.sg r1⟩
  · rw [E_nobar h1 h3 hb, R_nobar h2 h3 hb, Option.bind_some, Option.bind_some, if_neg n00, if_neg n00, xRf_ok.1, mRf_ok.1]
    exact ⟨_, rfl, _, rfl, rfl, hI.rf 0⟩
def fp (q : PL) (B : BB) (r i : Nat) : Bool := lgl q (B.2.1 i) r || (decide (r < 2) && lgl q (B.2.1 i) 20)
theorem fp_bits {q : PL} {B : BB} {r i : Nat} (hr : r < 10) : nI (lg q (B.2.1 i)) &&& nI (2 ^ r ||| (if r < 2 then 2 ^ 20 else 0)) = 0 ↔ fp q B r i = false := by
  have hl := lg_lt q (B.2.1 i)
  have ha : lg q (B.2.1 i) &&& (2 ^ r ||| (if r < 2 then 2 ^ 20 else 0)) ≤ lg q (B.2.1 i) := Nat.and_le_left
  unfold fp
  rw [fa_and, q_eq_0 (by omega), Nat.and_or_distrib_left, Nat.or_eq_zero_iff, fb_bit_nat, lg_bit (by omega), Bool.or_eq_false_iff]
  by_cases l : r < 2
  · rw [if_pos l, fb_bit_nat, lg_bit (by omega), decide_eq_true l, Bool.true_and]
  · rw [if_neg l, decide_eq_false l, Nat.and_zero]
    simp
theorem pS_first : S_first INV := by
  intro ro nw kp dr sh tp lw se rm K T hI p1 p2
  obtain ⟨a, h1, h2, h3, h4, h5, h6, h7, h8⟩ := id hI
  have hn := h3.1
  have ej : M_X6_first_j17 NN p1 p2 rm = some (-2, mRf rm 0) := by
    unfold M_X6_first_j17
    rw [mRf_ok.1]
    rfl
  unfold M_X5_first M_X6_first
  rw [ej]
  by_cases hb : vB a p1
  · obtain ⟨b, hb, rfl⟩ := hb
    rw [R_bar h2 h3 hb, Option.bind_some, if_neg n10]
    have hz := (h3.2 b hb).2.2.1
    by_cases hr : vI (aZ a b) p2
    · obtain ⟨r, hr, rfl⟩ := hr
      have hp := p10 hz
      have ho := (h3.2 b hb).2.2.2.1
      obtain ⟨lw', se', c1, c2, c3, c4, c5⟩ := C_now (ro := ro) h1 h3 hb lw se
      obtain ⟨rm', r1, r2, r3⟩ := R_now h2 h3 hb
      generalize hB : sp1 (lgl (aL a b)) (aO a b) = B at *
      have hle : B.2.2 ≤ 1024 := Nat.le_trans (BI_le c4) hp
      have hpr : 2 ^ r ≤ 2 ^ 10 := Nat.pow_le_pow_right (by omega) (by omega)
      have cs : M_X2_soonestMoveOf NN se' (nI r) = lp (M_X2_soonestMoveOf_l26 NN se' (nI r)) NN (nI (2 ^ r ||| (if r < 2 then 2 ^ 20 else 0)), 0) := by
        unfold M_X2_soonestMoveOf M_X2_soonestMoveOf_j22
        have t3 : ∀ r, r < 10 → bt (nI (mk 20)) r = decide (r < 2) := by decide +kernel
        rw [C_rings (by omega), Option.bind_some, show (20 : Int32) = nI 20 from rfl, C_rings (by omega), Option.bind_some, C_bit _ (by omega), Option.bind_some, t3 r (by omega), mk_r (by omega)]
        by_cases l : r < 2
        · rw [decide_eq_true l, if_neg (by decide), if_pos l]
          simp only []
          rw [show (1048576 : Int32) = nI (2 ^ 20) from rfl, fa_or]
        · rw [decide_eq_false l, if_pos (by decide), if_neg l]
          simp only []
          rw [show (0 : Int32) = nI 0 from rfl, fa_or]
      have cstep : ∀ i, i < B.2.2 → ∀ rec, M_X2_soonestMoveOf_l26 NN se' (nI r) rec (nI (2 ^ r ||| (if r < 2 then 2 ^ 20 else 0)), nI i) = if fp (aL a b) B r i = true then some (nI (B.1 (B.2.1 i))) else rec (nI (2 ^ r ||| (if r < 2 then 2 ^ 20 else 0)), nI (i + 1)) := by
        intro i hi rec
        have hq : B.2.1 i < 2 ^ aZ a b := (c4.1 i hi).1
        have hq0 := (c4.1 i hi).2
        unfold M_X2_soonestMoveOf_l26
        simp only []
        rw [c3.2.1, if_neg (by rw [nI_leI (by omega) (by omega)]; omega), C_foundAt (q := aL a b) hz c3 c4 hi, Option.bind_some, C_legalAt c2 hz (by omega), Option.bind_some, if_pos (show B.2.1 i < 2 ^ (aL a b).2.1 from hq), Option.bind_some, C_far c2 hz c3 (by omega), Option.bind_some, if_pos (show B.2.1 i < 2 ^ (aL a b).2.1 from hq), nI_1]
        cases e : fp (aL a b) B r i
        · rw [if_pos ((fp_bits (by omega)).mpr e), if_neg (show ¬ false = true by decide)]
        · rw [if_neg (fun z => by rw [fp_bits (by omega), e] at z; cases z), if_pos rfl]
          unfold fI
          rw [if_neg hq0, nI_1, show B.1 (B.2.1 i) - 1 + 1 = B.1 (B.2.1 i) by omega]
      have rstep : ∀ i, i < B.2.2 → ∀ rec, M_X6_first_l38 NN (nI b) (nI r) rec (rm', nI i) = if fp (aL a b) B r i = true then some (nI (B.1 (B.2.1 i)), rm') else rec (rm', nI (i + 1)) := by
        intro i hi rec
        have hq : B.2.1 i < 2 ^ aZ a b := (c4.1 i hi).1
        have hq0 := (c4.1 i hi).2
        have ej82 : M_X6_first_j82 NN (nI b) (nI r) (rm', nI i) = some (nI (B.1 (B.2.1 i)), rm') := by
          unfold M_X6_first_j82
          simp only []
          rw [if_neg (nI_in (by omega) (by omega)), nI_clamp (n := i) (by omega), r2.2.2 i hi, if_neg (nI_in (by omega) (by omega)), nI_clamp (by omega), r2.1 _ hq]
          unfold fI
          rw [if_neg hq0, nI_1, show B.1 (B.2.1 i) - 1 + 1 = B.1 (B.2.1 i) by omega]
        unfold M_X6_first_l38 M_X6_first_j96
        simp only []
        rw [ej82, r2.2.1, if_neg (by rw [nI_leI (by omega) (by omega)]; omega), if_neg (nI_in (by omega) (by omega)), if_neg (nI_in (by omega) (by omega)), nI_clamp (n := i) (by omega), r2.2.2 i hi, R_may (h2.sg r1) h3 hb hq (by omega), Option.bind_some, show (20 : Int32) = nI 20 from rfl, R_may (h2.sg r1) h3 hb hq (by omega), Option.bind_some, nI_1]
        unfold fp
        cases lgl (aL a b) (B.2.1 i) r
        · rw [if_neg (show ¬ ¬ oB false = 0 by decide)]
          by_cases l : r < 2
          · rw [if_neg (by rw [q_ge_2 (by omega)]; omega), decide_eq_true l]
            cases lgl (aL a b) (B.2.1 i) 20
            · rw [if_pos (show oB false = 0 by decide), if_neg (show ¬ (false || (true && false)) = true by decide)]
            · rw [if_neg (show ¬ oB true = 0 by decide), if_pos (show (false || (true && true)) = true by decide)]
          · rw [if_pos (by rw [q_ge_2 (by omega)]; omega), decide_eq_false l, Bool.false_and, if_neg (show ¬ (false || false) = true by decide)]
        · rw [if_pos (show ¬ oB true = 0 by decide), Bool.true_or, if_pos rfl]
      have res : ∃ v, lp (M_X2_soonestMoveOf_l26 NN se' (nI r)) NN (nI (2 ^ r ||| (if r < 2 then 2 ^ 20 else 0)), 0) = some v ∧ lp (M_X6_first_l38 NN (nI b) (nI r)) NN (rm', 0) = some (v, rm') := by
        by_cases ex : ∃ i, i < B.2.2 ∧ fp (aL a b) B r i = true
        · obtain ⟨i, hi, e, he⟩ := fb_first (p := fun i => fp (aL a b) B r i = true) ex
          refine ⟨nI (B.1 (B.2.1 i)), ?_, ?_⟩
          · exact lp_for (fun i => (nI (2 ^ r ||| (if r < 2 then 2 ^ 20 else 0)), nI i)) i (fun k hk rec => (cstep k (by omega) rec).trans (if_neg (he k hk))) (fun rec => (cstep i hi rec).trans (if_pos e)) (by show i < 5000; omega)
          · exact lp_for (fun i => (rm', nI i)) i (fun k hk rec => (rstep k (by omega) rec).trans (if_neg (he k hk))) (fun rec => (rstep i hi rec).trans (if_pos e)) (by show i < 5000; omega)
        · have he : ∀ i, i < B.2.2 → ¬ fp (aL a b) B r i = true := fun i hi e => ex ⟨i, hi, e⟩
          refine ⟨-1, ?_, ?_⟩
          · refine lp_for (fun i => (nI (2 ^ r ||| (if r < 2 then 2 ^ 20 else 0)), nI i)) B.2.2 (fun k hk rec => (cstep k (by omega) rec).trans (if_neg (he k hk))) (fun rec => ?_) (by show B.2.2 < 5000; omega)
            show M_X2_soonestMoveOf_l26 NN se' (nI r) rec (nI (2 ^ r ||| (if r < 2 then 2 ^ 20 else 0)), nI B.2.2) = _
            unfold M_X2_soonestMoveOf_l26
            simp only []
            rw [c3.2.1, if_pos (by exact Int32.le_refl _)]
          · refine lp_for (fun i => (rm', nI i)) B.2.2 (fun k hk rec => (rstep k (by omega) rec).trans (if_neg (he k hk))) (fun rec => ?_) (by show B.2.2 < 5000; omega)
            show M_X6_first_l38 NN (nI b) (nI r) rec (rm', nI B.2.2) = _
            unfold M_X6_first_l38
            simp only []
            rw [r2.2.1, if_pos (by exact Int32.le_refl _)]
      obtain ⟨v, v1, v2⟩ := res
      rw [E_ring h1 h3 hb hr, Option.bind_some, if_pos n10, c1, Option.bind_some, cs, v1, R_ring h2 h3 hb hr, Option.bind_some, Option.bind_some, if_pos n10, if_neg (E_in h3 hb), E_cl h3 hb, (h2.2.1 b (by omega)).2.2.1, r3, Option.bind_some, v2]
      exact ⟨_, rfl, _, rfl, rfl, hI.sg r1⟩
    · rw [E_noringb h1 h3 hb hr, R_noring h2 h3 hb hr, Option.bind_some, Option.bind_some, if_neg n00, if_neg n00, xRf_ok.1]
      exact ⟨_, rfl, _, rfl, rfl, hI.rf 0⟩
  · rw [E_noring h1 h3 (fun ⟨b, hb', e, _⟩ => hb ⟨b, hb', e⟩), R_nobar h2 h3 hb, Option.bind_some, Option.bind_some, if_neg n00, xRf_ok.1]
    exact ⟨_, rfl, _, rfl, rfl, hI.rf 0⟩
