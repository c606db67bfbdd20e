/-! the class's search -/
theorem lp_to {S R : Type} {body : (S → Option R) → S → Option R} {P : Nat → S → Prop} (n : Nat) (hs : ∀ i z, i < n → P i z → ∃ z', P (i + 1) z' ∧ ∀ rec : S → Option R, body rec z = rec z') {N : Nat} (hN : n < N) {z : S} (hz : P 0 z) : ∃ z' M, P n z' ∧ lp body N z = body (lp body M) z' := by
  have key : ∀ (k i : Nat), i + k = n → ∀ M, k < M → ∀ z, P i z → ∃ z' M', P n z' ∧ lp body M z = body (lp body M') z' := by
    intro k
    induction k with
    | zero =>
      intro i hi M hM z hz
      obtain ⟨M, rfl⟩ : ∃ M', M = M' + 1 := ⟨M - 1, by omega⟩
      obtain rfl : i = n := by omega
      exact ⟨z, M, hz, rfl⟩
    | succ k ih =>
      intro i hi M hM z hz
      obtain ⟨M, rfl⟩ : ∃ M', M = M' + 1 := ⟨M - 1, by omega⟩
      obtain ⟨z', h1, h2⟩ := hs i z (by omega) hz
      rw [lp, h2]
      exact ih (i + 1) (by omega) M (by omega) z' h1
  exact key n 0 (by omega) N hN z hz
def fI (F : Nat) : Int32 := if F = 0 then -1 else nI (F - 1)
theorem fI_0 : fI 0 = -1 := rfl
theorem fI_s (d : Nat) : fI (d + 1) = nI d := rfl
theorem fI_m {F : Nat} (h : F < 2 ^ 31) : fI F = -1 ↔ F = 0 := by
  cases F with
  | zero => exact ⟨fun _ => rfl, fun _ => rfl⟩
  | succ d =>
    rw [fI_s, nI_pm (by omega)]
    simp
def SeL (se : SE) (q : PL) : Prop := SE_size se = nI q.2.1 ∧ SE_sets se = nI (2 ^ q.2.1) ∧ ∀ s, s < 2 ^ q.2.1 → SE_legal se s = nI (lg q s)
def SeB (se : SE) (q : PL) (B : BB) : Prop := (∀ s, s < 2 ^ q.2.1 → SE_far se s = fI (B.1 s)) ∧ SE_found se = nI B.2.2 ∧ ∀ i, i < B.2.2 → SE_queue se i = nI (B.2.1 i)
def opS (q : PL) (σ : Nat) : Nat → Nat → Bool := if σ = 1 then lgl q else if σ = 2 then rev (lgl q) else fun u m => lgl q u m || rev (lgl q) u m
theorem opS_mv {q : PL} {σ u m : Nat} (h : opS q σ u m = true) : mvb q m = true := by
  unfold opS at h
  split at h
  · exact mvb_of h
  · split at h
    · exact mvb_of h
    · simp only [Bool.or_eq_true] at h
      rcases h with h | h
      · exact mvb_of h
      · exact mvb_of h
theorem opS_ok {q : PL} (hz : q.2.1 ≤ 10) (σ : Nat) : OpOk (opS q σ) (2 ^ q.2.1) := fun _ _ hu h => mvb_mk hz (opS_mv h) hu
theorem C_learn {lw : LW} {q : PL} (h : LwQ lw q) (ok : OkQ q) (se : SE) : ∃ se', M_X2_learn NN se lw = some se' ∧ SeL se' q := by
  have hz := ok.2.2.1
  have h2 := p10 hz
  unfold M_X2_learn
  have e1 : jmin ((1 : Int32) <<< (SE_size (SE_s_size se (LW_size lw)) &&& 31)) 1024 = nI (2 ^ q.2.1) := by
    rw [show SE_size (SE_s_size se (LW_size lw)) = LW_size lw from rfl, h.2.1, sh_1 (by omega)]
    unfold jmin
    rw [if_neg (by rw [q_gt_1024 (by omega)]; omega)]
  rw [e1]
  have key := lp_inv (body := M_X2_learn_l26 NN lw) (N := NN) (P := fun i z => z.2 = nI i ∧ SE_size z.1 = nI q.2.1 ∧ SE_sets z.1 = nI (2 ^ q.2.1) ∧ ∀ s, s < i → SE_legal z.1 s = nI (lg q s)) (Qr := fun r => SeL r q) (2 ^ q.2.1) ?_ ?_ (by show 2 ^ q.2.1 < 5000; omega) (z := (SE_s_sets (SE_s_size se (LW_size lw)) (nI (2 ^ q.2.1)), 0)) ⟨rfl, h.2.1, rfl, fun s hs => absurd hs (Nat.not_lt_zero s)⟩
  · obtain ⟨r, h3, h4⟩ := key
    exact ⟨r, h4, h3⟩
  · intro i z hi hP
    obtain ⟨g1, g2, g3, g4⟩ := hP
    refine Or.inl ⟨(SE_s_legal z.1 (upd (SE_legal z.1) i (nI (lg q i))), nI (i + 1)), ⟨rfl, g2, g3, fun s hs => ?_⟩, fun rec => ?_⟩
    · show upd (SE_legal z.1) i (nI (lg q i)) s = _
      unfold upd
      by_cases e : s = i
      · rw [if_pos e, e]
      · rw [if_neg e]; exact g4 s (by omega)
    · unfold M_X2_learn_l26
      rw [g1, g3, if_neg (by rw [nI_leI (by omega) (by omega)]; omega), L_legal h ok hi, Option.bind_some, if_neg (nI_in (by omega) (by omega)), nI_clamp (by omega), nI_1]
  · intro z hP
    obtain ⟨g1, g2, g3, g4⟩ := hP
    refine ⟨z.1, ⟨g2, g3, g4⟩, fun rec => ?_⟩
    unfold M_X2_learn_l26
    rw [g1, g3, if_pos (by rw [nI_leI (by omega) (by omega)]; exact Nat.le_refl _)]
section CS
variable {N : Nat} {se : SE} {q : PL} {B : BB}
theorem C_isSet (h : SeL se q) (hz : q.2.1 ≤ 10) {s : Nat} (hs : s < 2 ^ 31) : M_X2_isSet N se (nI s) = some (oB (decide (s < 2 ^ q.2.1))) := by
  have h2 := p10 hz
  unfold M_X2_isSet
  rw [h.2.1, if_neg (nI_pos hs)]
  by_cases l : s < 2 ^ q.2.1
  · rw [if_neg (by rw [nI_leI (by omega) hs]; omega), if_neg (by rw [q_ge_1024 hs]; omega), decide_eq_true l]; rfl
  · rw [if_pos (by rw [nI_leI (by omega) hs]; omega), decide_eq_false l]; rfl
theorem C_moveOf (h : SeL se q) (hz : q.2.1 ≤ 10) {j : Nat} (hj : j < 2 ^ 31) : M_X2_moveOf N se (nI j) = some (nI (if j < q.2.1 then j else 20)) := by
  unfold M_X2_moveOf
  rw [h.1]
  by_cases l : j < q.2.1
  · rw [if_neg (by rw [nI_leI (by omega) hj]; omega), if_pos l]
  · rw [if_pos (by rw [nI_leI (by omega) hj]; omega), if_neg l]; rfl
theorem C_legalAt (h : SeL se q) (hz : q.2.1 ≤ 10) {s : Nat} (hs : s < 2 ^ 31) : M_X2_legalAt N se (nI s) = some (nI (if s < 2 ^ q.2.1 then lg q s else 0)) := by
  have h2 := p10 hz
  unfold M_X2_legalAt
  rw [h.2.1, if_neg (nI_pos hs)]
  by_cases l : s < 2 ^ q.2.1
  · rw [if_neg (by rw [nI_leI (by omega) hs]; omega), if_neg (by rw [q_ge_1024 hs]; omega), if_neg (nI_in (by omega) (by omega)), nI_clamp hs, h.2.2 s l, if_pos l]
  · rw [if_pos (by rw [nI_leI (by omega) hs]; omega), if_neg l]; rfl
theorem C_far (h : SeL se q) (hz : q.2.1 ≤ 10) (hB : SeB se q B) {s : Nat} (hs : s < 2 ^ 31) : M_X2_farOf N se (nI s) = some (if s < 2 ^ q.2.1 then fI (B.1 s) else -1) := by
  have h2 := p10 hz
  unfold M_X2_farOf
  rw [C_isSet h hz hs, Option.bind_some]
  by_cases l : s < 2 ^ q.2.1
  · rw [decide_eq_true l, if_neg (by decide), if_neg (nI_in (by omega) (by omega)), nI_clamp hs, hB.1 s l, if_pos l]
  · rw [decide_eq_false l, if_neg l]; rfl
theorem C_foundAt (hz : q.2.1 ≤ 10) (hB : SeB se q B) (hI : BI (2 ^ q.2.1) B) {i : Nat} (hi : i < B.2.2) : M_X2_foundAt N se (nI i) = some (nI (B.2.1 i)) := by
  have h2 := p10 hz
  have h3 := BI_le hI
  unfold M_X2_foundAt
  rw [hB.2.1, if_neg (nI_pos (by omega)), if_neg (by rw [nI_leI (by omega) (by omega)]; omega), if_neg (by rw [q_ge_1024 (by omega)]; omega), if_neg (nI_in (by omega) (by omega)), nI_clamp (by omega), hB.2.2 i hi]
theorem C_note_in (h : SeL se q) (hz : q.2.1 ≤ 10) (hB : SeB se q B) (hI : BI (2 ^ q.2.1) B) {s d : Nat} (hs : s < 2 ^ q.2.1) (h0 : B.1 s = 0) : ∃ se', M_X2_note N se (nI s) (nI d) = some se' ∧ SeL se' q ∧ SeB se' q (ins s (d + 1) B) := by
  have h2 := p10 hz
  have h3 := BI_lt hI hs h0
  unfold M_X2_note
  rw [C_isSet h hz (by omega), decide_eq_true hs, Option.bind_some, if_neg (by decide), if_neg (nI_in (by omega) (by omega)), nI_clamp (by omega), hB.1 s hs, h0, if_neg (show ¬ ¬ fI 0 = -1 from not_not_intro rfl), hB.2.1, if_neg (nI_pos (by omega)), if_neg (by rw [q_ge_1024 (by omega)]; omega), if_neg (ix (by omega) (by omega))]
  rw [show SE_found (SE_s_far se (upd (SE_far se) s (nI d))) = nI B.2.2 from hB.2.1, if_neg (nI_in (by omega) (by omega)), nI_clamp (by omega)]
  refine ⟨_, rfl, ⟨h.1, h.2.1, h.2.2⟩, fun v hv => ?_, ?_, fun i hi => ?_⟩
  · show upd (SE_far se) s (nI d) v = fI (vu B.1 s (d + 1) v)
    unfold upd vu
    by_cases e : v = s
    · rw [if_pos e, if_pos e]; rfl
    · rw [if_neg e, if_neg e]; exact hB.1 v hv
  · show SE_found se + 1 = nI (B.2.2 + 1)
    rw [hB.2.1, nI_1]
  · show upd (SE_queue se) B.2.2 (nI s) i = nI (vu B.2.1 B.2.2 s i)
    have hi : i < B.2.2 + 1 := hi
    unfold upd vu
    by_cases e : i = B.2.2
    · rw [if_pos e, if_pos e]
    · rw [if_neg e, if_neg e]; exact hB.2.2 i (by omega)
theorem C_note_out (h : SeL se q) (hz : q.2.1 ≤ 10) (hB : SeB se q B) {s : Nat} {d : Int32} (hs : s < 2 ^ q.2.1) (h0 : B.1 s ≠ 0) (hf : B.1 s < 2 ^ 31) : M_X2_note N se (nI s) d = some se := by
  have h2 := p10 hz
  unfold M_X2_note
  rw [C_isSet h hz (by omega), decide_eq_true hs, Option.bind_some, if_neg (by decide), if_neg (nI_in (by omega) (by omega)), nI_clamp (by omega), hB.1 s hs, if_pos (by rw [fI_m hf]; exact h0)]
theorem C_isOpen (h : SeL se q) (hz : q.2.1 ≤ 10) {u m σ : Nat} (hu : u < 2 ^ q.2.1) (hm : m < 10 ∨ m = 20) (hσ : σ = 1 ∨ σ = 2 ∨ σ = 3) : M_X2_isOpen N se (nI u) (nI (u ^^^ mk m)) (nI m) (nI σ) = some (oB (opS q σ u m)) := by
  have h2 := p10 hz
  have hv : u ^^^ mk m < 2 ^ 10 := by
    refine Nat.xor_lt_two_pow (by omega) ?_
    rcases hm with hm | rfl
    · rw [mk_r (by omega)]; exact Nat.pow_lt_pow_right (by omega) hm
    · decide
  have lu : ∀ x, bt (nI (if x < 2 ^ q.2.1 then lg q x else 0)) m = (decide (x < 2 ^ q.2.1) && lgl q x m) := by
    intro x
    rw [bt_nI, decide_eq_true (show m < 32 by omega), Bool.true_and]
    by_cases e : x < 2 ^ q.2.1
    · rw [if_pos e, lg_bit (by omega), decide_eq_true e]; rfl
    · rw [if_neg e, decide_eq_false e, Nat.zero_testBit]; rfl
  have lv : (decide (u ^^^ mk m < 2 ^ q.2.1) && lgl q (u ^^^ mk m) m) = rev (lgl q) u m := by
    unfold rev
    cases e : lgl q (u ^^^ mk m) m
    · rw [Bool.and_false]
    · rw [decide_eq_true (mvb_mk hz (mvb_of e) hu)]; rfl
  have fin : ∀ x y : Int32, M_X2_isOpen_j34 N se (nI u) (nI (u ^^^ mk m)) (nI m) (nI σ) (x, y) = some (oB (bt x m || bt y m)) := by
    intro x y
    unfold M_X2_isOpen_j34
    have e := bit_0 (x ||| y) (show m < 32 by omega)
    rw [b_or] at e
    cases g : (bt x m || bt y m)
    · rw [if_pos (e.mpr g)]; rfl
    · rw [if_neg (fun z => by rw [e, g] at z; cases z)]; rfl
  have b0 : bt (0 : Int32) m = false := b_0 m
  unfold M_X2_isOpen M_X2_isOpen_j16
  rcases hσ with rfl | rfl | rfl
  · rw [if_neg (by decide), C_legalAt h hz (by omega), Option.bind_some, if_pos (by decide), fin, lu, b0, Bool.or_false, decide_eq_true hu]
    rfl
  · rw [if_pos (by decide), if_neg (by decide), C_legalAt h hz (by omega), Option.bind_some, fin, lu, lv, b0]
    rfl
  · rw [if_neg (by decide), C_legalAt h hz (by omega), Option.bind_some, if_neg (by decide), C_legalAt h hz (by omega), Option.bind_some, fin, lu, lu, lv, decide_eq_true hu]
    rfl
end CS
theorem op_gap {q : PL} {op : Nat → Nat → Bool} (hop : ∀ u m, op u m = true → mvb q m = true) {u m : Nat} (h1 : q.2.1 ≤ m) (h2 : m < 20) : op u m = false := by
  cases e : op u m
  · rfl
  · have := hop u m e
    unfold mvb at this
    simp only [Bool.or_eq_true, Bool.and_eq_true, decide_eq_true_eq, beq_iff_eq] at this
    omega
theorem brow_slots {q : PL} (hz : q.2.1 ≤ 10) {op : Nat → Nat → Bool} (hop : ∀ u m, op u m = true → mvb q m = true) (u d : Nat) (B : BB) : brow op u d 21 B = bst op u d (brow op u d q.2.1 B) 20 := by
  have := brow_skip (op := op) (u := u) (d := d) (B := B) (k := q.2.1) (20 - q.2.1) (fun m h1 h2 => op_gap hop h1 (by omega))
  rw [show q.2.1 + (20 - q.2.1) = 20 by omega] at this
  show bst op u d (brow op u d 20 B) 20 = _
  rw [this]
theorem BI_far {n : Nat} {B : BB} {op : Nat → Nat → Bool} {st i c : Nat} (h : BJ op n st i c B) (s : Nat) : B.1 s ≤ c := by
  by_cases e : B.1 s = 0
  · omega
  · obtain ⟨j, hj, rfl⟩ := BI_mem h.1 (h.2.2.2.2.2.2 s e) e
    exact h.2.2.1 j hj
/-- far below what an int holds -/
def Bs (B : BB) (c : Nat) : Prop := ∀ s, B.1 s ≤ c
theorem Bs_bst {op : Nat → Nat → Bool} {u d m c : Nat} {B : BB} (h : Bs B c) (hd : d ≤ c) : Bs (bst op u d B m) c :=
  bst_cases (P := fun C => Bs C c) h fun _ _ s => by
    show vu B.1 (u ^^^ mk m) d s ≤ c
    unfold vu
    split
    · exact hd
    · exact h s
theorem Bs_brow {op : Nat → Nat → Bool} {u d c : Nat} (hd : d ≤ c) : ∀ (k : Nat) {B : BB}, Bs B c → Bs (brow op u d k B) c
  | 0, _, h => h
  | k + 1, _, h => Bs_bst (Bs_brow hd k h) hd
theorem C_row {q : PL} (hz : q.2.1 ≤ 10) {σ : Nat} (hσ : σ = 1 ∨ σ = 2 ∨ σ = 3) {p1 : Int32} {se : SE} {B : BB} {u d c i : Nat} (h : SeL se q) (hB : SeB se q B) (hI : BI (2 ^ q.2.1) B) (hu : u < 2 ^ q.2.1) (hc : Bs B c) (hd : d + 1 ≤ c) (hc2 : c < 2 ^ 31) (rec11 : (SE × Int32) → Option SE) : ∃ se', SeL se' q ∧ SeB se' q (brow (opS q σ) u (d + 1) 21 B) ∧ lp (M_X2_spread_l46 NN p1 (nI σ) rec11) NN (se, nI i, nI u, nI d, 0) = rec11 (se', nI (i + 1)) := by
  have h2 := p10 hz
  have hop : ∀ u m, opS q σ u m = true → mvb q m = true := fun _ _ => opS_mv
  have one : ∀ (se : SE) (C : BB) (j : Nat), SeL se q → SeB se q C → BI (2 ^ q.2.1) C → Bs C c → j ≤ q.2.1 → ∃ se', SeL se' q ∧ SeB se' q (bst (opS q σ) u (d + 1) C (if j < q.2.1 then j else 20)) ∧ ∀ rec46 : (SE × Int32 × Int32 × Int32 × Int32) → Option SE, M_X2_spread_l46 NN p1 (nI σ) rec11 rec46 (se, nI i, nI u, nI d, nI j) = rec46 (se', nI i, nI u, nI d, nI (j + 1)) := by
    intro se C j g1 g2 g3 g4 hj
    have hm : (if j < q.2.1 then j else 20) < 10 ∨ (if j < q.2.1 then j else 20) = 20 := by split <;> omega
    have start : ∀ rec46 : (SE × Int32 × Int32 × Int32 × Int32) → Option SE, M_X2_spread_l46 NN p1 (nI σ) rec11 rec46 (se, nI i, nI u, nI d, nI j) = (if oB (opS q σ u (if j < q.2.1 then j else 20)) = 0 then rec46 (se, nI i, nI u, nI d, nI (j + 1)) else ((M_X2_note NN se (nI (u ^^^ mk (if j < q.2.1 then j else 20))) (nI d)).bind fun r92 => rec46 (r92, nI i, nI u, nI d, nI (j + 1)))) := by
      intro rec46
      unfold M_X2_spread_l46 M_X2_spread_j95
      simp only []
      rw [g1.1, if_neg (by rw [nI_ltI (by omega) (by omega)]; omega), C_moveOf g1 hz (by omega), Option.bind_some, C_rings hm, Option.bind_some, fb_xorI, C_isOpen g1 hz hu hm hσ, Option.bind_some, nI_1]
    generalize (if j < q.2.1 then j else 20) = m at hm start ⊢
    cases e : opS q σ u m
    · refine ⟨se, g1, ?_, fun rec46 => ?_⟩
      · unfold bst
        rw [if_neg (by rw [e]; intro z; cases z.1)]
        exact g2
      · rw [start, e]; rfl
    · have hv : u ^^^ mk m < 2 ^ q.2.1 := mvb_mk hz (hop u m e) hu
      by_cases e0 : C.1 (u ^^^ mk m) = 0
      · obtain ⟨se', k1, k2, k3⟩ := C_note_in (N := NN) g1 hz g2 g3 hv e0 (d := d)
        refine ⟨se', k2, ?_, fun rec46 => ?_⟩
        · unfold bst
          rw [if_pos ⟨e, e0⟩]
          exact k3
        · rw [start, e, if_neg (by decide), k1, Option.bind_some]
      · refine ⟨se, g1, ?_, fun rec46 => ?_⟩
        · unfold bst
          rw [if_neg (fun z => e0 z.2)]
          exact g2
        · rw [start, e, if_neg (by decide), C_note_out g1 hz g2 hv e0 (by have := g4 (u ^^^ mk m); omega), Option.bind_some]
  obtain ⟨z', M, ⟨se', rfl, k1, k2⟩, k3⟩ := lp_to (body := M_X2_spread_l46 NN p1 (nI σ) rec11) (N := NN) (P := fun j Z => ∃ se', Z = (se', nI i, nI u, nI d, nI j) ∧ SeL se' q ∧ SeB se' q (if j ≤ q.2.1 then brow (opS q σ) u (d + 1) j B else brow (opS q σ) u (d + 1) 21 B)) (q.2.1 + 1) (fun j Z hj hP => by
    obtain ⟨se1, rfl, k1, k2⟩ := hP
    rw [if_pos (by omega)] at k2
    obtain ⟨se2, m1, m2, m3⟩ := one se1 _ j k1 k2 (brow_BI (opS_ok hz σ) hu (Nat.succ_ne_zero d) j hI) (Bs_brow hd j hc) (by omega)
    refine ⟨_, ⟨se2, rfl, m1, ?_⟩, m3⟩
    by_cases l : j < q.2.1
    · rw [if_pos l] at m2
      rw [if_pos (by omega)]
      exact m2
    · obtain rfl : j = q.2.1 := by omega
      rw [if_neg l] at m2
      rw [if_neg (by omega), brow_slots hz hop]
      exact m2) (by show q.2.1 + 1 < 5000; omega) (z := (se, nI i, nI u, nI d, 0)) ⟨se, rfl, h, by rw [if_pos (Nat.zero_le _)]; exact hB⟩
  rw [if_neg (by omega)] at k2
  refine ⟨se', k1, k2, ?_⟩
  rw [k3]
  unfold M_X2_spread_l46
  simp only []
  rw [k1.1, if_pos (by rw [nI_ltI (by omega) (by omega)]; omega), nI_1]
/-- the numbers of a spread: how far at most is how many are found -/
def Bc (B : BB) : Prop := ∀ s, B.1 s ≤ B.2.2
theorem Bc_bst {op : Nat → Nat → Bool} {u d m : Nat} {B : BB} (h : Bc B) (hd : d ≤ B.2.2 + 1) : Bc (bst op u d B m) :=
  bst_cases (P := Bc) h fun _ _ s => by
    show vu B.1 (u ^^^ mk m) d s ≤ B.2.2 + 1
    unfold vu
    split
    · exact hd
    · exact Nat.le_succ_of_le (h s)
theorem Bc_brow {op : Nat → Nat → Bool} {u d : Nat} : ∀ (k : Nat) {B : BB}, d ≤ B.2.2 + 1 → Bc B → Bc (brow op u d k B)
  | 0, _, _, h => h
  | k + 1, B, hd, h => Bc_bst (Bc_brow k hd h) (Nat.le_trans hd (Nat.succ_le_succ (Bup_brow k).1))
theorem C_bfs {q : PL} (hz : q.2.1 ≤ 10) {σ : Nat} (hσ : σ = 1 ∨ σ = 2 ∨ σ = 3) {p1 : Int32} : ∀ (f i M : Nat) {se : SE} {B : BB}, SeL se q → SeB se q B → BI (2 ^ q.2.1) B → Bc B → 2 ^ q.2.1 < f + i → i ≤ 1025 → f < M → ∃ se', SeL se' q ∧ SeB se' q (bfs (opS q σ) f i B) ∧ BI (2 ^ q.2.1) (bfs (opS q σ) f i B) ∧ Bc (bfs (opS q σ) f i B) ∧ lp (M_X2_spread_l11 NN p1 (nI σ)) M (se, nI i) = some se'
  | f, i, 0, _, _, _, _, _, _, _, _, hM => absurd hM (Nat.not_lt_zero f)
  | f, i, M + 1, se, B, h, hB, hI, hc, hf, hi, hM => by
    have h2 := p10 hz
    have h3 := BI_le hI
    by_cases e : i < B.2.2
    · cases f with
      | zero => omega
      | succ f =>
        have hu := hI.1 i e
        have hfar := hc (B.2.1 i)
        obtain ⟨F, hF⟩ : ∃ F, B.1 (B.2.1 i) = F + 1 := ⟨B.1 (B.2.1 i) - 1, by have := hu.2; omega⟩
        obtain ⟨se1, k1, k2, k3⟩ := C_row (i := i) hz hσ (p1 := p1) (c := B.2.2 + 1) (d := F + 1) h hB hI hu.1 (fun s => Nat.le_succ_of_le (hc s)) (by omega) (by omega) (lp (M_X2_spread_l11 NN p1 (nI σ)) M)
        have r1 : bfs (opS q σ) (f + 1) i B = bfs (opS q σ) f (i + 1) (brow (opS q σ) (B.2.1 i) (B.1 (B.2.1 i) + 1) 21 B) := by
          show (if i < B.2.2 then _ else _) = _
          rw [if_pos e]
        rw [r1, hF]
        obtain ⟨se2, m1, m2, m3, m4, m5⟩ := C_bfs hz hσ (p1 := p1) f (i + 1) M k1 k2 (brow_BI (opS_ok hz σ) hu.1 (Nat.succ_ne_zero _) 21 hI) (Bc_brow 21 (by omega) hc) (by omega) (by omega) (by omega)
        refine ⟨se2, m1, m2, m3, m4, ?_⟩
        rw [lp]
        generalize lp (M_X2_spread_l11 NN p1 (nI σ)) M = rec at k3 m5 ⊢
        unfold M_X2_spread_l11
        simp only []
        rw [hB.2.1, if_neg (by rw [nI_leI (by omega) (by omega)]; omega), if_neg (by rw [q_ge_1024 (by omega)]; omega), C_foundAt hz hB hI e, Option.bind_some, C_far h hz hB (by omega), if_pos hu.1, Option.bind_some, hF, fI_s, nI_1, k3]
        exact m5
    · have r1 : bfs (opS q σ) f i B = B := by
        cases f with
        | zero => rfl
        | succ f => exact if_neg e
      rw [r1]
      refine ⟨se, h, hB, hI, hc, ?_⟩
      rw [lp]
      unfold M_X2_spread_l11
      simp only []
      rw [hB.2.1, if_pos (by rw [nI_leI (by omega) (by omega)]; omega)]
theorem C_spread {q : PL} (hz : q.2.1 ≤ 10) {σ : Nat} (hσ : σ = 1 ∨ σ = 2 ∨ σ = 3) {se : SE} {B : BB} (h : SeL se q) (hB : SeB se q B) (hI : BI (2 ^ q.2.1) B) (hc : Bc B) {st : Nat} (hs : st < 2 ^ q.2.1) (h0 : B.1 st = 0) : ∃ se', SeL se' q ∧ SeB se' q (bfs (opS q σ) 1025 B.2.2 (ins st 1 B)) ∧ BI (2 ^ q.2.1) (bfs (opS q σ) 1025 B.2.2 (ins st 1 B)) ∧ Bc (bfs (opS q σ) 1025 B.2.2 (ins st 1 B)) ∧ M_X2_spread NN se (nI st) (nI σ) = some se' := by
  have h2 := p10 hz
  have h3 := BI_lt hI hs h0
  obtain ⟨se1, k1, k2, k3⟩ := C_note_in (N := NN) h hz hB hI hs h0 (d := 0)
  have hc1 : Bc (ins st 1 B) := fun s => by
    show vu B.1 st 1 s ≤ B.2.2 + 1
    unfold vu
    split
    · omega
    · exact Nat.le_succ_of_le (hc s)
  obtain ⟨se2, m1, m2, m3, m4, m5⟩ := C_bfs hz hσ (p1 := nI st) 1025 B.2.2 NN k2 k3 (BI_ins hI hs h0 (by omega)) hc1 (by omega) (by omega) (by decide)
  refine ⟨se2, m1, m2, m3, m4, ?_⟩
  unfold M_X2_spread
  rw [show (0 : Int32) = nI 0 from rfl, k1, Option.bind_some, hB.2.1]
  exact m5
theorem C_forget {N : Nat} {q : PL} (hz : q.2.1 ≤ 10) {se : SE} (h : SeL se q) : ∃ se', M_X2_forget N se = some se' ∧ SeL se' q ∧ SeB se' q (fun _ => 0, fun _ => 0, 0) := by
  have h2 := p10 hz
  refine ⟨_, rfl, h, fun s hs => ?_, rfl, fun i hi => absurd hi (Nat.not_lt_zero i)⟩
  show fillf 1024 (-1) (SE_far se) s = -1
  unfold fillf
  rw [if_pos (by omega)]
theorem C_anew {q : PL} (hz : q.2.1 ≤ 10) {σ : Nat} (hσ : σ = 1 ∨ σ = 2 ∨ σ = 3) {se : SE} (h : SeL se q) {st : Nat} (hs : st < 2 ^ q.2.1) : ∃ se', SeL se' q ∧ SeB se' q (sp1 (opS q σ) st) ∧ BI (2 ^ q.2.1) (sp1 (opS q σ) st) ∧ Bc (sp1 (opS q σ) st) ∧ M_X2_spreadAnew NN se (nI st) (nI σ) = some se' := by
  obtain ⟨se1, k1, k2, k3⟩ := C_forget (N := NN) hz h
  obtain ⟨se2, m1, m2, m3, m4, m5⟩ := C_spread hz hσ k2 k3 (BI_0 rfl fun _ _ => rfl) (fun _ => Nat.le_refl _) hs rfl
  refine ⟨se2, m1, m2, m3, m4, ?_⟩
  unfold M_X2_spreadAnew
  rw [k1, Option.bind_some, m5]
  rfl
section CN
variable {ro : RO} {ev : EV} {a : AE} {b : Nat}
theorem C_study (h : EvA ev a) (ok : OkA a) (hb : b < aN a) (lw : LW) (se : SE) : ∃ lw' se', M_X5_study NN ro ev lw se (nI b) = some (lw', se') ∧ SeL se' (aL a b) := by
  obtain ⟨lw', h1, h2⟩ := C_take (N := NN) h ok hb lw
  obtain ⟨se', h3, h4⟩ := C_learn h2 (aL_ok ok hb) se
  refine ⟨lw', se', ?_, h4⟩
  unfold M_X5_study
  rw [h1, Option.bind_some, h3]
  rfl
theorem C_lead (h : EvA ev a) (ok : OkA a) (hb : b < aN a) (lw : LW) (se : SE) {u v : Nat} (hu : u < 2 ^ aZ a b) (hv : v < 2 ^ aZ a b) : ∃ lw' se', M_X5_leadTo NN ro ev lw se (nI b) (nI u) (nI v) = some (fI ((sp1 (rev (lgl (aL a b))) v).1 u), lw', se') ∧ SeL se' (aL a b) ∧ SeB se' (aL a b) (sp1 (rev (lgl (aL a b))) v) := by
  have hz := (aL_ok ok hb).2.2.1
  have h2 : 2 ^ aZ a b ≤ 1024 := p10 hz
  obtain ⟨lw', se1, k1, k2⟩ := C_study (ro := ro) h ok hb lw se
  obtain ⟨se2, m1, m2, m3, m4, m5⟩ := C_anew hz (σ := 2) (by omega) k2 hv
  refine ⟨lw', se2, ?_, m1, m2⟩
  unfold M_X5_leadTo
  rw [k1, Option.bind_some, show (2 : Int32) = nI 2 from rfl, m5, Option.bind_some, C_far m1 hz m2 (by omega), if_pos (show u < 2 ^ (aL a b).2.1 from hu)]
  rfl
theorem C_now (h : EvA ev a) (ok : OkA a) (hb : b < aN a) (lw : LW) (se : SE) : ∃ lw' se', M_X5_spreadFromNow NN ro ev lw se (nI b) = some (lw', se') ∧ SeL se' (aL a b) ∧ SeB se' (aL a b) (sp1 (lgl (aL a b)) (aO a b)) ∧ BI (2 ^ aZ a b) (sp1 (lgl (aL a b)) (aO a b)) ∧ Bc (sp1 (lgl (aL a b)) (aO a b)) := by
  have hz := (aL_ok ok hb).2.2.1
  obtain ⟨lw', se1, k1, k2⟩ := C_study (ro := ro) h ok hb lw se
  obtain ⟨se2, m1, m2, m3, m4, m5⟩ := C_anew hz (σ := 1) (by omega) k2 (ok.2 b hb).2.2.2.1
  refine ⟨lw', se2, ?_, m1, m2, m3, m4⟩
  unfold M_X5_spreadFromNow
  rw [k1, Option.bind_some, E_on h ok hb, Option.bind_some, show (1 : Int32) = nI 1 from rfl, m5]
  rfl
end CN
