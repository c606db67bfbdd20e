/-! parts -/
theorem lp_toF {I S R : Type} {body : I → (S → Option R) → S → Option R} {P : Nat → S → Prop} (n : Nat) (hs : ∀ k z, k < n → P k z → ∃ z', P (k + 1) z' ∧ ∀ (i : I) (rec : S → Option R), body i rec z = rec z') {z : S} (hz : P 0 z) : ∃ z', P n z' ∧ ∀ (i : I) (N : Nat), n < N → ∃ M, lp (body i) N z = body i (lp (body i) M) z' := by
  have key : ∀ (k j : Nat), j + k = n → ∀ z, P j z → ∃ z', P n z' ∧ ∀ (i : I) (N : Nat), k < N → ∃ M, lp (body i) N z = body i (lp (body i) M) z' := by
    intro k
    induction k with
    | zero =>
      intro j hj z hz
      obtain rfl : j = n := by omega
      refine ⟨z, hz, fun i N hN => ?_⟩
      obtain ⟨M, rfl⟩ : ∃ M', N = M' + 1 := ⟨N - 1, by omega⟩
      exact ⟨M, rfl⟩
    | succ k ih =>
      intro j hj z hz
      obtain ⟨z1, h1, h2⟩ := hs j z (by omega) hz
      obtain ⟨z', h3, h4⟩ := ih (j + 1) (by omega) z1 h1
      refine ⟨z', h3, fun i N hN => ?_⟩
      obtain ⟨M, rfl⟩ : ∃ M', N = M' + 1 := ⟨N - 1, by omega⟩
      obtain ⟨M2, h5⟩ := h4 i M (by omega)
      exact ⟨M2, by rw [lp, h2, h5]⟩
  obtain ⟨z', h1, h2⟩ := key n 0 (by omega) z hz
  exact ⟨z', h1, h2⟩
def RmS (rm : RM) (q : PL) (base : Nat) (B : BB) : Prop := (∀ s, s < 2 ^ q.2.1 → (RM_far rm s = -1 ↔ B.1 s = 0)) ∧ base ≤ B.2.2 ∧ RM_queued rm = nI (B.2.2 - base) ∧ ∀ j, base + j < B.2.2 → RM_queue rm j = nI (B.2.1 (base + j))
theorem RmS_1 {rm : RM} {q : PL} {base : Nat} {B : BB} {F Q : Nat → Int32} {c : Int32} (h1 : ∀ s, s < 2 ^ q.2.1 → (F s = -1 ↔ B.1 s = 0)) (h0 : base ≤ B.2.2) (h2 : c = nI (B.2.2 - base)) (h3 : ∀ j, base + j < B.2.2 → Q j = nI (B.2.1 (base + j))) : RmS (RM_s_queue (RM_s_queued (RM_s_far rm F) c) Q) q base B := by
  unfold RmS
  rw [RM_far_s_queue, RM_far_s_queued, RM_far_s_far, RM_queued_s_queue, RM_queued_s_queued, RM_queue_s_queue]
  exact ⟨h1, h0, h2, h3⟩
theorem RmS_2 {rm : RM} {q : PL} {base : Nat} {B : BB} {F Q : Nat → Int32} {c : Int32} (h1 : ∀ s, s < 2 ^ q.2.1 → (F s = -1 ↔ B.1 s = 0)) (h0 : base ≤ B.2.2) (h2 : c = nI (B.2.2 - base)) (h3 : ∀ j, base + j < B.2.2 → Q j = nI (B.2.1 (base + j))) : RmS (RM_s_queued (RM_s_queue (RM_s_far rm F) Q) c) q base B := by
  unfold RmS
  rw [RM_far_s_queued, RM_far_s_queue, RM_far_s_far, RM_queue_s_queued, RM_queue_s_queue, RM_queued_s_queued]
  exact ⟨h1, h0, h2, h3⟩
theorem op3 (q : PL) (u m : Nat) : opS q 3 u m = (lgl q u m || lgl q (u ^^^ mk m) m) := rfl
theorem op3_mv (q : PL) (u m : Nat) : (mvb q m && (lgl q u m || lgl q (u ^^^ mk m) m)) = opS q 3 u m := by
  rw [← op3]
  cases e : opS q 3 u m
  · rw [Bool.and_false]
  · rw [opS_mv e]; rfl
section PA
variable {rm : RM} {a : AE} {b : Nat}
theorem P_one (h : RmA rm a) (ok : OkA a) (hb : b < aN a) {base i u j d np s : Nat} {C : BB} (hC : RmS rm (aL a b) base C) (hI : BI (2 ^ aZ a b) C) (hi : base + i < C.2.2) (hu : C.2.1 (base + i) = u) (hnp : np < 2 ^ 31) (hj : j ≤ 20) (hd : d ≠ 0) : ∃ rm', Sg rm rm' ∧ RmS rm' (aL a b) base (bst (opS (aL a b) 3) u d C j) ∧ ∀ (rec43 : (RM × Int32 × Int32) → Option (Int32 × RM)) (rec84 : (RM × Int32 × Int32 × Int32) → Option (Int32 × RM)), ∀ rec96 : (RM × Int32 × Int32 × Int32 × Int32) → Option (Int32 × RM), M_X6_parts_l96 NN (nI b) rec43 rec84 rec96 (rm, nI np, nI s, nI i, nI j) = rec96 (rm', nI np, nI s, nI i, nI (j + 1)) := by
  have hz := (ok.2 b hb).2.2.1
  have h2 := p10 hz
  have hle := BI_le hI
  have hu1 := (hI.1 (base + i) hi).1
  rw [hu] at hu1
  have hqi : RM_queue rm i = nI u := by rw [hC.2.2.2 i hi, hu]
  have hil : i < 1024 := by omega
  have start : ∀ (rec43 : (RM × Int32 × Int32) → Option (Int32 × RM)) (rec84 : (RM × Int32 × Int32 × Int32) → Option (Int32 × RM)), ∀ rec96 : (RM × Int32 × Int32 × Int32 × Int32) → Option (Int32 × RM), M_X6_parts_l96 NN (nI b) rec43 rec84 rec96 (rm, nI np, nI s, nI i, nI j) = if oB (opS (aL a b) 3 u j) = 0 then rec96 (rm, nI np, nI s, nI i, nI (j + 1)) else (if nI (u ^^^ mk j) < 0 ∨ 1024 ≤ u ^^^ mk j then none else (if ¬ RM_far rm (u ^^^ mk j) = -1 then rec96 (rm, nI np, nI s, nI i, nI (j + 1)) else (if nI (u ^^^ mk j) < 0 ∨ 1024 ≤ u ^^^ mk j then none else (if RM_queued rm < 0 ∨ 1024 ≤ (RM_queued rm).toNatClampNeg then none else rec96 (RM_s_queue (RM_s_queued (RM_s_far rm (upd (RM_far rm) (u ^^^ mk j) (nI np))) (RM_queued rm + 1)) (upd (RM_queue rm) (RM_queued rm).toNatClampNeg (nI (u ^^^ mk j))), nI np, nI s, nI i, nI (j + 1)))))) := by
    intro rec43 rec84 rec96
    have hv : u ^^^ mk j < 2 ^ 31 := by
      refine Nat.xor_lt_two_pow (by omega) ?_
      by_cases e : j = 20
      · subst e; decide
      · rw [mk_r e]; exact Nat.pow_lt_pow_right (by omega) (by omega)
    unfold M_X6_parts_l96 M_X6_parts_j190
    simp only [nI_clamp (show i < 2 ^ 31 by omega), if_neg (ix hil (show 1024 < 2 ^ 31 by omega)), hqi, M_mask hj, Option.bind_some, fb_xorI, nI_clamp hv, RM_queued_s_far, RM_queue_s_queued, RM_queue_s_far]
    rw [if_neg (by rw [q_gt_20 (by omega)]; omega), arePair_ok h ok hb hu1 hj, Option.bind_some, op3_mv, nI_1]
  have noop : opS (aL a b) 3 u j = false ∨ C.1 (u ^^^ mk j) ≠ 0 → bst (opS (aL a b) 3) u d C j = C := fun hh => by
    unfold bst
    rw [if_neg]
    intro z
    rcases hh with hh | hh
    · rw [hh] at z; cases z.1
    · exact hh z.2
  cases e : opS (aL a b) 3 u j
  · rw [noop (Or.inl e)]
    refine ⟨rm, rfl, hC, fun rec43 rec84 rec96 => ?_⟩
    rw [start, e, if_pos (show oB false = 0 by decide)]
  · have hto : u ^^^ mk j < 2 ^ aZ a b := mvb_mk (q := aL a b) hz (opS_mv e) hu1
    by_cases e0 : C.1 (u ^^^ mk j) = 0
    · have hlt := BI_lt hI hto e0
      have eb : bst (opS (aL a b) 3) u d C j = ins (u ^^^ mk j) d C := if_pos ⟨e, e0⟩
      rw [eb]
      refine ⟨_, Sg_1, RmS_1 (F := upd (RM_far rm) (u ^^^ mk j) (nI np)) (Q := upd (RM_queue rm) (C.2.2 - base) (nI (u ^^^ mk j))) (c := nI (C.2.2 - base + 1)) (fun x hx => ?_) ?_ ?_ (fun k hk => ?_), fun rec43 rec84 rec96 => ?_⟩
      · show upd (RM_far rm) (u ^^^ mk j) (nI np) x = -1 ↔ vu C.1 (u ^^^ mk j) d x = 0
        unfold upd vu
        by_cases es : x = u ^^^ mk j
        · rw [if_pos es, if_pos es, nI_pm hnp]
          simp [hd]
        · rw [if_neg es, if_neg es]; exact hC.1 x hx
      · show base ≤ C.2.2 + 1
        have := hC.2.1
        omega
      · show nI (C.2.2 - base + 1) = nI (C.2.2 + 1 - base)
        have := hC.2.1
        rw [show C.2.2 + 1 - base = C.2.2 - base + 1 by omega]
      · show upd (RM_queue rm) (C.2.2 - base) (nI (u ^^^ mk j)) k = nI (vu C.2.1 C.2.2 (u ^^^ mk j) (base + k))
        have hk : base + k < C.2.2 + 1 := hk
        have hb0 := hC.2.1
        unfold upd vu
        by_cases es : k = C.2.2 - base
        · rw [if_pos es, if_pos (by omega)]
        · rw [if_neg es, if_neg (by omega)]; exact hC.2.2.2 k (by omega)
      · rw [start, e, if_neg (show ¬ oB true = 0 by decide), if_neg (ix (by omega) (by omega)), if_neg (not_not_intro ((hC.1 _ hto).mpr e0)), if_neg (ix (by omega) (by omega)), hC.2.2.1, if_neg (nI_in (by omega) (by omega)), nI_clamp (by omega), nI_1]
    · rw [noop (Or.inr e0)]
      refine ⟨rm, rfl, hC, fun rec43 rec84 rec96 => ?_⟩
      rw [start, e, if_neg (show ¬ oB true = 0 by decide), if_neg (ix (by omega) (by omega)), if_pos (fun z => e0 ((hC.1 _ hto).mp z))]
theorem P_row (h : RmA rm a) (ok : OkA a) (hb : b < aN a) {base i u d np s : Nat} {B : BB} (hB : RmS rm (aL a b) base B) (hI : BI (2 ^ aZ a b) B) (hi : base + i < B.2.2) (hu : B.2.1 (base + i) = u) (hnp : np < 2 ^ 31) (hd : d ≠ 0) : ∃ rm', Sg rm rm' ∧ RmS rm' (aL a b) base (brow (opS (aL a b) 3) u d 21 B) ∧ ∀ (rec43 : (RM × Int32 × Int32) → Option (Int32 × RM)) (rec84 : (RM × Int32 × Int32 × Int32) → Option (Int32 × RM)), lp (M_X6_parts_l96 NN (nI b) rec43 rec84) NN (rm, nI np, nI s, nI i, 0) = rec84 (rm', nI np, nI s, nI (i + 1)) := by
  have hz := (ok.2 b hb).2.2.1
  have hu1 := (hI.1 (base + i) hi).1
  rw [hu] at hu1
  obtain ⟨z', ⟨rm', rfl, k1, k2⟩, k3⟩ := lp_toF (I := ((RM × Int32 × Int32) → Option (Int32 × RM)) × ((RM × Int32 × Int32 × Int32) → Option (Int32 × RM))) (body := fun r => M_X6_parts_l96 NN (nI b) r.1 r.2) (P := fun j Z => ∃ rm', Z = (rm', nI np, nI s, nI i, nI j) ∧ Sg rm rm' ∧ RmS rm' (aL a b) base (brow (opS (aL a b) 3) u d j B)) 21 (fun j Z hj hP => by
    obtain ⟨rm1, rfl, k1, k2⟩ := hP
    have up := Bup_brow (op := opS (aL a b) 3) (u := u) (d := d) j (B := B)
    have hI2 := brow_BI (d := d) (opS_ok (q := aL a b) hz 3) hu1 hd j hI
    obtain ⟨rm2, m1, m2, m3⟩ := P_one (h.sg k1) ok hb (j := j) (s := s) k2 hI2 (Nat.lt_of_lt_of_le hi up.1) ((up.2.1 _ hi).trans hu) hnp (by omega) hd
    exact ⟨_, ⟨rm2, rfl, k1.trans m1, m2⟩, fun r => m3 r.1 r.2⟩) (z := (rm, nI np, nI s, nI i, 0)) ⟨rm, rfl, rfl, hB⟩
  refine ⟨rm', k1, k2, fun rec43 rec84 => ?_⟩
  obtain ⟨M, k4⟩ := k3 (rec43, rec84) NN (by decide)
  refine k4.trans ?_
  unfold M_X6_parts_l96
  simp only []
  rw [if_pos (show (20 : Int32) < nI 21 by decide), nI_1]
end PA
theorem P_bfs {a : AE} {b : Nat} (ok : OkA a) (hb : b < aN a) {base np s : Nat} (hnp : np < 2 ^ 31) : ∀ (f i : Nat) (rm : RM) (B : BB), RmA rm a → RmS rm (aL a b) base B → BI (2 ^ aZ a b) B → 2 ^ aZ a b < f + (base + i) → base + i ≤ 1025 → ∃ rm', Sg rm rm' ∧ RmS rm' (aL a b) base (bfs (opS (aL a b) 3) f (base + i) B) ∧ ∀ (rec43 : (RM × Int32 × Int32) → Option (Int32 × RM)) (M : Nat), f < M → lp (M_X6_parts_l84 NN (nI b) rec43) M (rm, nI np, nI s, nI i) = rec43 (rm', nI (np + 1), nI (s + 1)) := by
  have hz := (ok.2 b hb).2.2.1
  have h2 := p10 hz
  have stop : ∀ (f i : Nat) (rm : RM) (B : BB), RmS rm (aL a b) base B → BI (2 ^ aZ a b) B → base + i ≤ 1025 → ¬ base + i < B.2.2 → ∀ (rec43 : (RM × Int32 × Int32) → Option (Int32 × RM)) (M : Nat), f < M → lp (M_X6_parts_l84 NN (nI b) rec43) M (rm, nI np, nI s, nI i) = rec43 (rm, nI (np + 1), nI (s + 1)) := by
    intro f i rm B hB hI hi e rec43 M hM
    have h3 := BI_le hI
    obtain ⟨M, rfl⟩ : ∃ M', M = M' + 1 := ⟨M - 1, by omega⟩
    rw [lp]
    generalize lp (M_X6_parts_l84 NN (nI b) rec43) M = rec
    unfold M_X6_parts_l84 M_X6_parts_j205
    simp only []
    rw [hB.2.2.1, if_pos (by rw [nI_leI (by omega) (by omega)]; omega), nI_1, nI_1]
  intro f
  induction f with
  | zero =>
    intro i rm B h hB hI hf hi
    have h3 := BI_le hI
    exact ⟨rm, rfl, hB, stop 0 i rm B hB hI hi (by omega)⟩
  | succ f ih =>
    intro i rm B h hB hI hf hi
    have h3 := BI_le hI
    have h4 := hB.2.1
    by_cases e : base + i < B.2.2
    · have hu := hI.1 _ e
      obtain ⟨rm1, k1, k2, k3⟩ := P_row h ok hb (s := s) (d := B.1 (B.2.1 (base + i)) + 1) hB hI e rfl hnp (Nat.succ_ne_zero _)
      have r1 : bfs (opS (aL a b) 3) (f + 1) (base + i) B = bfs (opS (aL a b) 3) f (base + i + 1) (brow (opS (aL a b) 3) (B.2.1 (base + i)) (B.1 (B.2.1 (base + i)) + 1) 21 B) := by
        show (if base + i < B.2.2 then _ else _) = _
        rw [if_pos e]
      rw [r1]
      obtain ⟨rm2, m1, m2, m3⟩ := ih (i + 1) rm1 _ (h.sg k1) k2 (brow_BI (opS_ok (q := aL a b) hz 3) hu.1 (Nat.succ_ne_zero _) 21 hI) (by omega) (by omega)
      refine ⟨rm2, k1.trans m1, m2, fun rec43 M hM => ?_⟩
      obtain ⟨M, rfl⟩ : ∃ M', M = M' + 1 := ⟨M - 1, by omega⟩
      have m4 := m3 rec43 M (by omega)
      rw [lp]
      generalize lp (M_X6_parts_l84 NN (nI b) rec43) M = rec at m4 ⊢
      unfold M_X6_parts_l84
      simp only []
      rw [hB.2.2.1, if_neg (by rw [nI_leI (by omega) (by omega)]; omega), k3]
      exact m4
    · have r1 : bfs (opS (aL a b) 3) (f + 1) (base + i) B = B := if_neg e
      rw [r1]
      exact ⟨rm, rfl, hB, stop (f + 1) i rm B hB hI hi e⟩
/-- what is found, and how many parts, when so many sets have been gone through -/
def pB (q : PL) : Nat → BB × Nat
  | 0 => ((fun _ => 0, fun _ => 0, 0), 0)
  | s + 1 => if (pB q s).1.1 s = 0 then (bfs (opS q 3) 1025 (pB q s).1.2.2 (ins s 1 (pB q s).1), (pB q s).2 + 1) else pB q s
theorem pB_le (q : PL) : ∀ s, (pB q s).2 ≤ s
  | 0 => Nat.le_refl _
  | s + 1 => by
    have := pB_le q s
    unfold pB
    split
    · show (pB q s).2 + 1 ≤ s + 1
      omega
    · omega
theorem pS_parts : S_parts INV := by
  intro ro nw kp dr sh tp lw se rm K T hI p1
  obtain ⟨a, h1, h2, h3, h4, h5, h6, h7, h8⟩ := id hI
  have hn := h3.1
  unfold M_X5_parts M_X6_parts
  by_cases hb : vB a p1
  · obtain ⟨b, hb, rfl⟩ := hb
    have hz := (h3.2 b hb).2.2.1
    have hp := p10 hz
    have hp0 : 0 < 2 ^ aZ a b := Nat.two_pow_pos _
    obtain ⟨lw', se1, c1, c2⟩ := C_study (ro := ro) h1 h3 hb lw se
    obtain ⟨se0, f1, f2, f3⟩ := C_forget (N := NN) (q := aL a b) hz c2
    have hbi : ∀ s, s ≤ 2 ^ aZ a b → BI (2 ^ aZ a b) (pB (aL a b) s).1 := by
      intro s
      induction s with
      | zero => exact fun _ => BI_0 rfl fun _ _ => rfl
      | succ s ih =>
        intro hs
        have := ih (by omega)
        unfold pB
        split
        · rename_i e
          exact bfs_BI (n := 2 ^ aZ a b) (opS_ok (q := aL a b) hz 3) 1025 _ (BI_ins this (by omega) e (by omega))
        · exact this
    have e1 : ∃ se', M_X2_countParts NN se1 = some (nI (pB (aL a b) (2 ^ aZ a b)).2, se') := by
      unfold M_X2_countParts
      rw [f1, Option.bind_some]
      obtain ⟨r, ⟨se', h⟩, h'⟩ := lp_inv (body := M_X2_countParts_l8 NN) (N := NN) (P := fun s Z => ∃ x, Z = (x, nI (pB (aL a b) s).2, nI s) ∧ SeL x (aL a b) ∧ SeB x (aL a b) (pB (aL a b) s).1 ∧ Bc (pB (aL a b) s).1) (Qr := fun r => ∃ se', r = (nI (pB (aL a b) (2 ^ aZ a b)).2, se')) (2 ^ aZ a b)
        (fun s Z hs hP => by
          obtain ⟨x, rfl, k1, k2, k3⟩ := hP
          have bi := hbi s (by omega)
          have hcs := k3 s
          have hcl := BI_le bi
          have hstart : ∀ rec, M_X2_countParts_l8 NN rec (x, nI (pB (aL a b) s).2, nI s) = if ¬ fI ((pB (aL a b) s).1.1 s) = -1 then rec (x, nI (pB (aL a b) s).2, nI (s + 1)) else (M_X2_spread NN x (nI s) 3).bind fun r28 => rec (r28, nI ((pB (aL a b) s).2 + 1), nI (s + 1)) := by
            intro rec
            unfold M_X2_countParts_l8 M_X2_countParts_j34
            simp only []
            rw [k1.2.1, if_neg (by rw [nI_leI (by show 2 ^ aZ a b < _; omega) (by omega)]; show ¬ 2 ^ aZ a b ≤ s; omega), C_far k1 hz k2 (by omega), Option.bind_some, if_pos (show s < 2 ^ (aL a b).2.1 from hs), nI_1, nI_1]
          by_cases e : (pB (aL a b) s).1.1 s = 0
          · obtain ⟨x2, m1, m2, m3, m4, m5⟩ := C_spread (q := aL a b) hz (σ := 3) (by omega) k1 k2 bi k3 (st := s) hs e
            have en : pB (aL a b) (s + 1) = (bfs (opS (aL a b) 3) 1025 (pB (aL a b) s).1.2.2 (ins s 1 (pB (aL a b) s).1), (pB (aL a b) s).2 + 1) := if_pos e
            refine Or.inl ⟨(x2, nI (pB (aL a b) (s + 1)).2, nI (s + 1)), ⟨x2, rfl, m1, by rw [en]; exact m2, by rw [en]; exact m4⟩, fun rec => ?_⟩
            rw [hstart, if_neg (by rw [e]; exact not_not_intro rfl), show (3 : Int32) = nI 3 from rfl, m5, en]
            rfl
          · have en : pB (aL a b) (s + 1) = pB (aL a b) s := if_neg e
            refine Or.inl ⟨(x, nI (pB (aL a b) (s + 1)).2, nI (s + 1)), ⟨x, rfl, k1, by rw [en]; exact k2, by rw [en]; exact k3⟩, fun rec => ?_⟩
            rw [hstart, if_pos (by rw [fI_m (by omega)]; exact e), en])
        (fun Z hP => by
          obtain ⟨x, rfl, k1, k2, k3⟩ := hP
          refine ⟨_, ⟨x, rfl⟩, fun rec => ?_⟩
          unfold M_X2_countParts_l8
          simp only []
          rw [k1.2.1, if_pos (by exact Int32.le_refl _)])
        (by show 2 ^ aZ a b < 5000; omega) (z := (se0, 0, 0)) ⟨se0, rfl, f2, f3, fun _ => Nat.le_refl _⟩
      exact ⟨se', by rw [← h]; exact h'⟩
    obtain ⟨se', e1⟩ := e1
    have e2 : ∃ rm', Sg rm rm' ∧ lp (M_X6_parts_l17 NN (nI b)) NN (rm, 0) = some (nI (pB (aL a b) (2 ^ aZ a b)).2, rm') := by
      obtain ⟨z', M, ⟨rm1, rfl, k1, k2⟩, k3⟩ := lp_to (body := M_X6_parts_l17 NN (nI b)) (N := NN) (P := fun j Z => ∃ rm', Z = (rm', nI j) ∧ Sg rm rm' ∧ ∀ s, s < j → RM_far rm' s = -1) (2 ^ aZ a b) (fun j Z hj hP => by
        obtain ⟨rm1, rfl, k1, k2⟩ := hP
        refine ⟨_, ⟨RM_s_far rm1 (upd (RM_far rm1) j (-1)), rfl, k1.trans (sg_far _ _), fun s hs => ?_⟩, fun rec => ?_⟩
        · rw [RM_far_s_far]
          unfold upd
          by_cases e : s = j
          · rw [if_pos e]
          · rw [if_neg e]; exact k2 s (by omega)
        · unfold M_X6_parts_l17
          simp only []
          rw [R_alln (h2.sg k1) h3 hb, Option.bind_some, if_neg (by rw [nI_ltI (by omega) (by omega)]; omega), if_neg (nI_in (by omega) (by omega)), nI_clamp (by omega), nI_1]) (by show 2 ^ aZ a b < 5000; omega) (z := (rm, 0)) ⟨rm, rfl, rfl, fun s hs => absurd hs (Nat.not_lt_zero s)⟩
      rw [k3]
      generalize lp (M_X6_parts_l17 NN (nI b)) M = rec17
      unfold M_X6_parts_l17
      simp only []
      rw [R_alln (h2.sg k1) h3 hb, Option.bind_some, if_pos (by rw [nI_ltI (by omega) (by omega)]; omega)]
      obtain ⟨r, ⟨rm', h, k⟩, h'⟩ := lp_inv (body := M_X6_parts_l43 NN (nI b)) (N := NN) (P := fun s Z => ∃ x, Z = (x, nI (pB (aL a b) s).2, nI s) ∧ Sg rm x ∧ ∀ y, y < 2 ^ aZ a b → (RM_far x y = -1 ↔ (pB (aL a b) s).1.1 y = 0)) (Qr := fun r => ∃ rm', r = (nI (pB (aL a b) (2 ^ aZ a b)).2, rm') ∧ Sg rm rm') (2 ^ aZ a b)
        (fun s Z hs hP => by
          obtain ⟨x, rfl, k4, k5⟩ := hP
          have bi := hbi s (by omega)
          have hnp := pB_le (aL a b) s
          have hstart : ∀ rec, M_X6_parts_l43 NN (nI b) rec (x, nI (pB (aL a b) s).2, nI s) = if ¬ RM_far x s = -1 then rec (x, nI (pB (aL a b) s).2, nI (s + 1)) else lp (M_X6_parts_l84 NN (nI b) rec) NN (RM_s_queued (RM_s_queue (RM_s_far x (upd (RM_far x) s (nI (pB (aL a b) s).2))) (upd (RM_queue x) 0 (nI s))) 1, nI (pB (aL a b) s).2, nI s, 0) := by
            intro rec
            unfold M_X6_parts_l43 M_X6_parts_j205
            simp only []
            rw [R_alln (h2.sg k4) h3 hb, Option.bind_some, if_neg (by rw [nI_ltI (by omega) (by omega)]; omega), if_neg (nI_in (by omega) (by omega)), if_neg (nI_in (by omega) (by omega)), nI_clamp (by omega), if_neg (show ¬ ((0 : Int32) < 0 ∨ 1024 ≤ (0 : Int32).toNatClampNeg) by decide), c_0, nI_1, RM_queue_s_far]
          by_cases e : (pB (aL a b) s).1.1 s = 0
          · have en : pB (aL a b) (s + 1) = (bfs (opS (aL a b) 3) 1025 (pB (aL a b) s).1.2.2 (ins s 1 (pB (aL a b) s).1), (pB (aL a b) s).2 + 1) := if_pos e
            have hlt := BI_lt bi hs e
            have hS : RmS (RM_s_queued (RM_s_queue (RM_s_far x (upd (RM_far x) s (nI (pB (aL a b) s).2))) (upd (RM_queue x) 0 (nI s))) 1) (aL a b) (pB (aL a b) s).1.2.2 (ins s 1 (pB (aL a b) s).1) := by
              refine RmS_2 (fun y hy => ?_) (Nat.le_succ _) ?_ (fun k hk => ?_)
              · show upd (RM_far x) s (nI (pB (aL a b) s).2) y = -1 ↔ vu (pB (aL a b) s).1.1 s 1 y = 0
                unfold upd vu
                by_cases es : y = s
                · rw [if_pos es, if_pos es, nI_pm (by omega)]
                  simp
                · rw [if_neg es, if_neg es]; exact k5 y hy
              · show (1 : Int32) = nI ((pB (aL a b) s).1.2.2 + 1 - (pB (aL a b) s).1.2.2)
                rw [show (pB (aL a b) s).1.2.2 + 1 - (pB (aL a b) s).1.2.2 = 1 by omega]
                rfl
              · show upd (RM_queue x) 0 (nI s) k = nI (vu (pB (aL a b) s).1.2.1 (pB (aL a b) s).1.2.2 s ((pB (aL a b) s).1.2.2 + k))
                have hk : (pB (aL a b) s).1.2.2 + k < (pB (aL a b) s).1.2.2 + 1 := hk
                unfold upd vu
                rw [if_pos (by omega), if_pos (by omega)]
            obtain ⟨rm', m1, m2, m3⟩ := P_bfs h3 hb (s := s) (np := (pB (aL a b) s).2) (by omega) 1025 0 _ _ (h2.sg (k4.trans Sg_2)) hS (BI_ins bi hs e (by omega)) (by omega) (by omega)
            refine Or.inl ⟨(rm', nI (pB (aL a b) (s + 1)).2, nI (s + 1)), ⟨rm', rfl, k4.trans (Sg.trans Sg_2 m1), by rw [en]; exact m2.1⟩, fun rec => ?_⟩
            rw [hstart, if_neg (not_not_intro ((k5 s hs).mpr e)), en]
            exact m3 rec NN (by decide)
          · have en : pB (aL a b) (s + 1) = pB (aL a b) s := if_neg e
            refine Or.inl ⟨(x, nI (pB (aL a b) (s + 1)).2, nI (s + 1)), ⟨x, rfl, k4, by rw [en]; exact k5⟩, fun rec => ?_⟩
            rw [hstart, if_pos (fun z => e ((k5 s hs).mp z)), en])
        (fun Z hP => by
          obtain ⟨x, rfl, k4, k5⟩ := hP
          refine ⟨_, ⟨x, rfl, k4⟩, fun rec => ?_⟩
          unfold M_X6_parts_l43
          simp only []
          rw [R_alln (h2.sg k4) h3 hb, Option.bind_some, if_pos (by rw [nI_ltI (by omega) (by omega)]; omega)])
        (by show 2 ^ aZ a b < 5000; omega) (z := (rm1, 0, 0)) ⟨rm1, rfl, k1, fun y hy => ⟨fun _ => rfl, fun _ => k2 y hy⟩⟩
      exact ⟨rm', k, by rw [← h]; exact h'⟩
    obtain ⟨rm', k, e2⟩ := e2
    rw [E_bar h1 h3 hb, Option.bind_some, if_pos n10, c1, Option.bind_some, e1, R_bar h2 h3 hb, Option.bind_some, Option.bind_some, if_pos n10, e2]
    exact ⟨_, rfl, _, rfl, rfl, hI.sg k⟩
  · rw [E_nobar h1 h3 hb, R_nobar h2 h3 hb, Option.bind_some, Option.bind_some, if_neg n00, if_neg n00, xRf_ok.1, mRf_ok.1]
    exact ⟨_, rfl, _, rfl, rfl, hI.rf 0⟩
