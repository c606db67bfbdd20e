/-! rows of pictures: pictures, broken, once -/
theorem ifn {α : Type} {c : Prop} {_ : Decidable c} {x : Option α} {o : α} (h : (if c then none else x) = some o) : ¬ c ∧ x = some o := by
  by_cases k : c
  · rw [if_pos k] at h; cases h
  · rw [if_neg k] at h; exact ⟨k, h⟩
theorem ps_q (x : RM) (F Q : Nat → Int32) (c : Int32) : RM_picturesSum (RM_s_queue (RM_s_queued (RM_s_far x F) c) Q) = RM_picturesSum x := by
  rw [RM_picturesSum_s_queue, RM_picturesSum_s_queued, RM_picturesSum_s_far]
theorem ps_q2 (x : RM) (F Q : Nat → Int32) (c : Int32) : RM_picturesSum (RM_s_queued (RM_s_queue (RM_s_far x F) Q) c) = RM_picturesSum x := by
  rw [RM_picturesSum_s_queued, RM_picturesSum_s_queue, RM_picturesSum_s_far]
theorem ps_122 {p1 p2 p3 : Int32} {rec49 : (RM × Int32) → Option RM} {rec : (RM × Int32 × Int32) → Option RM} {out : RM} {v : Int32} (hrec : ∀ (x : RM) (i m : Int32), rec (x, i, m) = some out → RM_picturesSum out = RM_picturesSum x) (x : RM) (i m t b s : Int32) (h : M_X6_findFar_j122 NN p1 p2 p3 rec49 rec (x, i, m, t, b, s) = some out) : RM_picturesSum out = RM_picturesSum x := by
  unfold M_X6_findFar_j122 M_X6_findFar_j169 at h
  simp only [] at h
  obtain ⟨r, hr, h⟩ := bnd h
  by_cases c1 : r = 0
  · rw [if_pos c1] at h
    exact hrec _ _ _ h
  · rw [if_neg c1] at h
    obtain ⟨c2, h⟩ := ifn h
    obtain ⟨c3, h⟩ := ifn h
    obtain ⟨c4, h⟩ := ifn h
    obtain ⟨c5, h⟩ := ifn h
    have := hrec _ _ _ h
    rw [ps_q] at this
    exact this
theorem ps_61 {p1 p2 p3 : Int32} {rec49 : (RM × Int32) → Option RM} {out : RM} (h49 : ∀ (x : RM) (i : Int32), rec49 (x, i) = some out → RM_picturesSum out = RM_picturesSum x) : ∀ (n : Nat) (x : RM) (i m : Int32), lp (M_X6_findFar_l61 NN p1 p2 p3 rec49) n (x, i, m) = some out → RM_picturesSum out = RM_picturesSum x
  | 0, _, _, _, h => by cases h
  | n + 1, x, i, m, h => by
    rw [lp] at h
    have ih := ps_61 (p1 := p1) (p2 := p2) (p3 := p3) h49 n
    generalize lp (M_X6_findFar_l61 NN p1 p2 p3 rec49) n = rec at h ih
    unfold M_X6_findFar_l61 M_X6_findFar_j169 at h
    simp only [] at h
    by_cases c1 : (20 : Int32) < m
    · rw [if_pos c1] at h
      exact h49 _ _ h
    · rw [if_neg c1] at h
      obtain ⟨r, hr, h⟩ := bnd h
      by_cases c2 : r = 0
      · rw [if_pos c2] at h
        exact ih _ _ _ h
      · rw [if_neg c2] at h
        obtain ⟨c3, h⟩ := ifn h
        obtain ⟨r2, hr2, h⟩ := bnd h
        obtain ⟨c4, h⟩ := ifn h
        by_cases c5 : ¬ RM_far x (RM_queue x i.toNatClampNeg ^^^ r2).toNatClampNeg = -1
        · rw [if_pos c5] at h
          exact ih _ _ _ h
        · rw [if_neg c5] at h
          by_cases c6 : p3 = 0
          · rw [if_pos c6] at h
            exact ps_122 (v := 0) ih _ _ _ _ _ _ h
          · rw [if_neg c6] at h
            obtain ⟨c7, h⟩ := ifn h
            exact ps_122 (v := 0) ih _ _ _ _ _ _ h
theorem ps_49 {p1 p2 p3 : Int32} {out : RM} : ∀ (n : Nat) (x : RM) (i : Int32), lp (M_X6_findFar_l49 NN p1 p2 p3) n (x, i) = some out → RM_picturesSum out = RM_picturesSum x
  | 0, _, _, h => by cases h
  | n + 1, x, i, h => by
    rw [lp] at h
    have ih := ps_49 (p1 := p1) (p2 := p2) (p3 := p3) (out := out) n
    generalize lp (M_X6_findFar_l49 NN p1 p2 p3) n = rec at h ih
    unfold M_X6_findFar_l49 at h
    simp only [] at h
    by_cases c1 : RM_queued x ≤ i
    · rw [if_pos c1] at h
      rw [Option.some.inj h]
    · rw [if_neg c1] at h
      exact ps_61 ih _ _ _ _ h
theorem ps_3 {p1 p2 p3 : Int32} {out : RM} : ∀ (n : Nat) (x : RM) (i : Int32), lp (M_X6_findFar_l3 NN p1 p2 p3) n (x, i) = some out → RM_picturesSum out = RM_picturesSum x
  | 0, _, _, h => by cases h
  | n + 1, x, i, h => by
    rw [lp] at h
    have ih := ps_3 (p1 := p1) (p2 := p2) (p3 := p3) (out := out) n
    generalize lp (M_X6_findFar_l3 NN p1 p2 p3) n = rec at h ih
    unfold M_X6_findFar_l3 at h
    simp only [] at h
    obtain ⟨r, hr, h⟩ := bnd h
    by_cases c1 : r < i
    · rw [if_pos c1] at h
      obtain ⟨c2, h⟩ := ifn h
      obtain ⟨c3, h⟩ := ifn h
      have := ps_49 _ _ _ h
      rw [ps_q2] at this
      exact this
    · rw [if_neg c1] at h
      obtain ⟨c2, h⟩ := ifn h
      have := ih _ _ h
      rw [RM_picturesSum_s_far] at this
      exact this
theorem ps_find {p1 p2 p3 : Int32} {rm out : RM} (h : M_X6_findFar NN rm p1 p2 p3 = some out) : RM_picturesSum out = RM_picturesSum rm := ps_3 NN rm 0 h
theorem ps_fewest {p1 p2 p3 v : Int32} {rm out : RM} (h : M_X6_fewestTo NN rm p1 p2 p3 = some (v, out)) : RM_picturesSum out = RM_picturesSum rm := by
  unfold M_X6_fewestTo at h
  obtain ⟨r, hr, h⟩ := bnd h
  split at h
  · cases h
  · have e := congrArg Prod.snd (Option.some.inj h)
    rw [← ps_find hr]
    exact congrArg RM_picturesSum e.symm
theorem W_pict {ro : RO} {nw : EV} {sh : SH} {rm : RM} {a : AE} {p1 p2 p3 : Int32} (h1 : EvA nw a) (h2 : RmA rm a) (h3 : OkA a) (h4 : ShA sh rm (aN a)) : (∃ s k z n b, s < 8 ∧ p1 = nI s ∧ shR sh rm s k z ∧ p2 = nI n ∧ n ≤ z ∧ 1 ≤ n ∧ n ≤ 10 ∧ p3 = nI b ∧ b < aN a ∧ (∀ i, i < n → vL (2 ^ aZ a b) (RM_rows rm s i)) ∧ M_X5_whyNoPictures NN ro nw sh p1 p2 p3 = some 0 ∧ M_X6_noPictures NN rm p1 p2 p3 = some (0, rm)) ∨ ∃ j, j < 3 ∧ M_X5_whyNoPictures NN ro nw sh p1 p2 p3 = some (cd j) ∧ M_X6_noPictures NN rm p1 p2 p3 = some (cd j, mRf rm j) := by
  have ej : M_X6_noPictures_j32 NN p1 p2 p3 rm = some (-2, mRf rm 0) := by
    unfold M_X6_noPictures_j32
    rw [mRf_ok.1]
    rfl
  have inn : ∀ p : Int32, (((1 : Nat) : Int) ≤ p.toInt ∧ p.toInt ≤ ((10 : Nat) : Int)) → M_X6_in NN p.toInt64 1 10 = some 1 := fun p h => R_k1 (l := 1) (z := 10) (by show (1 : Int) ≤ _; omega) (by show _ ≤ (10 : Int); omega)
  have ew : ∀ w, ¬ w = 0 → M_X5_whyNoRow NN ro nw sh p1 p2 (nI 1) (nI 10) p3 = some w → M_X5_whyNoPictures NN ro nw sh p1 p2 p3 = some w := fun w hw e => by
    unfold M_X5_whyNoPictures
    rw [show (1 : Int32) = nI 1 from rfl, show (10 : Int32) = nI 10 from rfl, e, Option.bind_some, if_neg hw]
  rcases C_whyRow (lo := 1) (hi := 10) (ro := ro) (p1 := p1) (p2 := p2) (p3 := p3) h1 h3 h4 (by omega) (by omega) with ⟨s, k, z, n, b, hs, rfl, g, rfl, hz, hn1, hn, rfl, hb, e⟩ | ⟨e, hh⟩ | ⟨e, s, k, hs, rfl, g, hv, hb⟩ | ⟨e, s, hs, rfl, g, hv, hb⟩
  · have hz40 := g.2.2.1
    have hzb := (h3.2 b hb).2.2.1
    have hp := p10 hzb
    have e1 : M_X5_whyNoPictures NN ro nw sh (nI s) (nI n) (nI b) = lp (M_X5_whyNoPictures_l23 NN ro nw sh (nI s) (nI n) (nI b)) NN 0 := by
      unfold M_X5_whyNoPictures
      have e' : M_X5_whyNoRow NN ro nw sh (nI s) (nI n) 1 10 (nI b) = some 0 := e
      rw [e', Option.bind_some, if_pos rfl]
    have e2 : M_X6_noPictures NN rm (nI s) (nI n) (nI b) = lp (M_X6_noPictures_l74 NN (nI s) (nI n) (nI b)) NN (rm, 0) := by
      unfold M_X6_noPictures
      rw [r_in7 hs, Option.bind_some, if_neg n10, inn _ (by rw [nI_toInt (by omega)]; omega), Option.bind_some, if_neg n10, R_bar h2 h3 hb, Option.bind_some, if_pos n10, R_noRow1 hs g, Option.bind_some, if_pos rfl, if_neg (S_in hs), S_cl hs, if_pos ((R_rowpre (N := NN) hs g (by omega)).1.mpr hz)]
    have c1 : ∀ i, i < n → ∀ rec, M_X5_whyNoPictures_l23 NN ro nw sh (nI s) (nI n) (nI b) rec (nI i) = (M_X0_hasSet NN nw (nI b) (RM_rows rm s i)).bind fun r44 => if ¬ r44 = 0 then rec (nI (i + 1)) else some (-2) := by
      intro i hi rec
      unfold M_X5_whyNoPictures_l23
      rw [if_neg (by rw [nI_leI (by omega) (by omega)]; omega), S_cell hs g (by omega), Option.bind_some, nI_1]
    have r1 : ∀ i, i < n → ∀ rec, M_X6_noPictures_l74 NN (nI s) (nI n) (nI b) rec (rm, nI i) = (M_X6_isSet NN rm (nI b) (RM_rows rm s i)).bind fun r91 => if ¬ r91 = 0 then rec (rm, nI (i + 1)) else some (-2, mRf rm 0) := by
      intro i hi rec
      unfold M_X6_noPictures_l74
      simp only []
      rw [if_neg (by rw [nI_leI (by omega) (by omega)]; omega), if_neg (S_in hs), if_neg (nI_in (by omega) (by omega)), S_cl hs, nI_clamp (n := i) (by omega), nI_1, mRf_ok.1]
      rfl
    have cE : ∀ {v : Int64}, ¬ vL (2 ^ aZ a b) v → M_X0_hasSet NN nw (nI b) v = some 0 := fun {v} hv => E_noset h1 h3 fun ⟨b', hb', e, hv'⟩ => hv (by rw [ne_b h3 hb hb' e]; exact hv')
    by_cases ex : ∃ i, i < n ∧ ¬ vL (2 ^ aZ a b) (RM_rows rm s i)
    · have dec : DecidablePred fun i => ¬ vL (2 ^ aZ a b) (RM_rows rm s i) := fun i => Classical.propDecidable _
      obtain ⟨i, hi, hx, he⟩ := fb_first (p := fun i => ¬ vL (2 ^ aZ a b) (RM_rows rm s i)) ex
      have he' : ∀ j, j < i → vL (2 ^ aZ a b) (RM_rows rm s j) := fun j hj => Classical.not_not.mp (he j hj)
      refine Or.inr ⟨0, by omega, ?_, ?_⟩
      · rw [e1]
        exact lp_for (fun i => nI i) i (fun j hj rec => by rw [c1 j (by omega), E_set h1 h3 hb (he' j hj), Option.bind_some, if_pos n10]) (fun rec => by rw [c1 i hi, cE hx]; rfl) (by show i < 5000; omega)
      · rw [e2]
        exact lp_for (fun i => (rm, nI i)) i (fun j hj rec => by rw [r1 j (by omega), R_set h2 h3 hb (he' j hj), Option.bind_some, if_pos n10]) (fun rec => by rw [r1 i hi, R_noset h2 h3 hb hx]; rfl) (by show i < 5000; omega)
    · have he : ∀ i, i < n → vL (2 ^ aZ a b) (RM_rows rm s i) := fun i hi => Classical.not_not.mp fun z => ex ⟨i, hi, z⟩
      refine Or.inl ⟨s, k, z, n, b, hs, rfl, g, rfl, hz, hn1, hn, rfl, hb, he, ?_, ?_⟩
      · rw [e1]
        refine lp_for (fun i => nI i) n (fun j hj rec => by rw [c1 j hj, E_set h1 h3 hb (he j hj), Option.bind_some, if_pos n10]) (fun rec => ?_) (by show n < 5000; omega)
        unfold M_X5_whyNoPictures_l23
        rw [if_pos (by exact Int32.le_refl _)]
      · rw [e2]
        refine lp_for (fun i => (rm, nI i)) n (fun j hj rec => by rw [r1 j hj, R_set h2 h3 hb (he j hj), Option.bind_some, if_pos n10]) (fun rec => ?_) (by show n < 5000; omega)
        unfold M_X6_noPictures_l74
        simp only []
        rw [if_pos (by exact Int32.le_refl _)]
  · refine Or.inr ⟨0, by omega, ew _ (by decide) e, ?_⟩
    unfold M_X6_noPictures
    rw [ej]
    by_cases hp : vI 8 p1
    · obtain ⟨s, hs, rfl⟩ := hp
      rw [r_in7 hs, Option.bind_some, if_neg n10]
      by_cases hv : ((1 : Nat) : Int) ≤ p2.toInt ∧ p2.toInt ≤ ((10 : Nat) : Int)
      · rw [inn _ hv, Option.bind_some, if_neg n10]
        by_cases hb : vB a p3
        · rcases hh with hh | hh | hh | ⟨s', k, z, n, hs', es, g, rfl, hn40, hz⟩
          · exact absurd ⟨s, hs, rfl⟩ hh
          · exact absurd hv hh
          · exact absurd hb hh
          · obtain rfl : s = s' := (nI_eq (by omega) (by omega)).mp es
            obtain ⟨b, hb, rfl⟩ := hb
            rw [R_bar h2 h3 hb, Option.bind_some, if_pos n10, R_noRow1 hs g, Option.bind_some, if_pos rfl, if_neg (S_in hs), S_cl hs, if_neg (fun z => hz ((R_rowpre (N := NN) hs g (by omega)).1.mp z)), mRf_ok.1]
            rfl
        · rw [R_nobar h2 h3 hb]
          rfl
      · rw [R_k0 (l := 1) (z := 10) (fun z => hv ⟨by have := z.1; simpa using this, by have := z.2; simpa using this⟩)]
        rfl
    · rw [r_no7 hp]
      rfl
  · obtain ⟨b, hb, rfl⟩ := hb
    refine Or.inr ⟨1, by omega, ew _ (by decide) e, ?_⟩
    unfold M_X6_noPictures
    rw [r_in7 hs, Option.bind_some, if_neg n10, inn _ hv, Option.bind_some, if_neg n10, R_bar h2 h3 hb, Option.bind_some, if_pos n10, R_noRow2 hs g]
    rfl
  · obtain ⟨b, hb, rfl⟩ := hb
    refine Or.inr ⟨2, by omega, ew _ (by decide) e, ?_⟩
    unfold M_X6_noPictures
    rw [r_in7 hs, Option.bind_some, if_neg n10, inn _ hv, Option.bind_some, if_neg n10, R_bar h2 h3 hb, Option.bind_some, if_pos n10, R_noRow0 hs g]
    rfl
def pv (R : Nat → Int64) (i : Nat) : Nat := (R i).toInt.toNat
theorem pv_ok {n : Nat} (hn : n < 2 ^ 31) {R : Nat → Int64} {i : Nat} (h : vL n (R i)) : R i = lN (pv R i) ∧ pv R i < n ∧ (R i).toInt32 = nI (pv R i) := by
  obtain ⟨r, hr, e⟩ := h
  have e2 : pv R i = r := by
    unfold pv
    rw [e, lN_toInt (by omega)]
    omega
  rw [e2]
  exact ⟨e, hr, by rw [e, lN_i]⟩
def ah (R : Nat → Int64) (on i : Nat) : Nat := if i = 0 then on else pv R (i - 1)
def sf (q : PL) (R : Nat → Int64) (on i : Nat) : Nat := (sp1 (rev (lgl q)) (pv R i)).1 (ah R on i)
theorem C_ahead {ro : RO} {nw : EV} {sh : SH} {rm : RM} {a : AE} {s k z n b i : Nat} (h1 : EvA nw a) (h3 : OkA a) (hs : s < 8) (g : shR sh rm s k z) (hnz : n ≤ z) (hb : b < aN a) (hv : ∀ i, i < n → vL (2 ^ aZ a b) (RM_rows rm s i)) (hi : i < n) : M_X5_pictureAhead NN ro nw sh (nI s) (nI i) (nI b) = some (nI (ah (RM_rows rm s) (aO a b) i)) := by
  have hz40 := g.2.2.1
  have hp := p10 (h3.2 b hb).2.2.1
  unfold M_X5_pictureAhead ah
  by_cases e : i = 0
  · rw [if_neg (by rw [q_eq_0 (by omega)]; exact not_not_intro e), E_on h1 h3 hb, if_pos e]
    rfl
  · rw [if_pos (by rw [q_eq_0 (by omega)]; exact e), nI_s1 (by omega), S_cell hs g (by omega), Option.bind_some, (pv_ok (by omega) (hv (i - 1) (by omega))).2.2, if_neg e]
theorem ah_lt {a : AE} {b n i : Nat} {R : Nat → Int64} (h3 : OkA a) (hb : b < aN a) (hv : ∀ i, i < n → vL (2 ^ aZ a b) (R i)) (hi : i < n) : ah R (aO a b) i < 2 ^ aZ a b := by
  have hp := p10 (h3.2 b hb).2.2.1
  unfold ah
  by_cases e : i = 0
  · rw [if_pos e]; exact (h3.2 b hb).2.2.2.1
  · rw [if_neg e]; exact (pv_ok (by omega) (hv (i - 1) (by omega))).2.1
theorem C_steps {ro : RO} {nw : EV} {sh : SH} {rm : RM} {a : AE} {s k z n b i : Nat} {se : SE} (h1 : EvA nw a) (h3 : OkA a) (hs : s < 8) (g : shR sh rm s k z) (hnz : n ≤ z) (hb : b < aN a) (hv : ∀ i, i < n → vL (2 ^ aZ a b) (RM_rows rm s i)) (hi : i < n) (hl : SeL se (aL a b)) : ∃ se', M_X5_stepsToPicture NN ro nw sh se (nI s) (nI i) (nI b) = some (fI (sf (aL a b) (RM_rows rm s) (aO a b) i), se') ∧ SeL se' (aL a b) ∧ SeB se' (aL a b) (sp1 (rev (lgl (aL a b))) (pv (RM_rows rm s) i)) := by
  have hz40 := g.2.2.1
  have hz := (h3.2 b hb).2.2.1
  have hp : 2 ^ aZ a b ≤ 1024 := p10 hz
  obtain ⟨v1, v2, v3⟩ := pv_ok (by omega) (hv i hi)
  have va := ah_lt h3 hb hv hi
  obtain ⟨se', m1, m2, m3, m4, m5⟩ := C_anew (q := aL a b) hz (σ := 2) (by omega) hl (st := pv (RM_rows rm s) i) v2
  refine ⟨se', ?_, m1, m2⟩
  have m5' : M_X2_spreadAnew NN se (nI (pv (RM_rows rm s) i)) 2 = some se' := m5
  unfold M_X5_stepsToPicture
  rw [S_cell hs g (by omega), Option.bind_some, v3, m5', Option.bind_some, C_ahead h1 h3 hs g hnz hb hv hi, Option.bind_some, C_far m1 hz m2 (by omega), if_pos (show ah (RM_rows rm s) (aO a b) i < 2 ^ (aL a b).2.1 from va)]
  rfl
/-- the first that can't be come to -/
def br (q : PL) (R : Nat → Int64) (on n : Nat) : Nat := fa_first (fun i => sf q R on i == 0) n
theorem br_ok (q : PL) (R : Nat → Int64) (on n : Nat) : br q R on n ≤ n ∧ (∀ k, k < br q R on n → ¬ sf q R on k = 0) ∧ (br q R on n < n → sf q R on (br q R on n) = 0) := by
  refine ⟨fa_first_le _ n, fun k hk => ?_, fun h => ?_⟩
  · have := fa_first_no (fun i => sf q R on i == 0) n k hk
    simpa using this
  · have := fa_first_yes (fun i => sf q R on i == 0) n h
    show sf q R on (fa_first (fun i => sf q R on i == 0) n) = 0
    simpa using this
def bv (q : PL) (R : Nat → Int64) (on n : Nat) : Int32 := if br q R on n < n then nI (br q R on n) else -1
theorem bv_m {q : PL} {R : Nat → Int64} {on n : Nat} (hn : n ≤ 40) : bv q R on n = -1 ↔ br q R on n = n := by
  have := (br_ok q R on n).1
  unfold bv
  by_cases l : br q R on n < n
  · rw [if_pos l, nI_pm (by omega)]
    constructor
    · intro z; cases z
    · intro z; omega
  · rw [if_neg l]
    exact ⟨fun _ => by omega, fun _ => rfl⟩
theorem sf_b {a : AE} {b n i : Nat} {R : Nat → Int64} (h3 : OkA a) (hb : b < aN a) (hv : ∀ i, i < n → vL (2 ^ aZ a b) (R i)) (hi : i < n) : sf (aL a b) R (aO a b) i ≤ 1024 := by
  have hp : 2 ^ aZ a b ≤ 1024 := p10 (h3.2 b hb).2.2.1
  obtain ⟨c, bj⟩ := sp_BJr h3 hb (pv_ok (by omega) (hv i hi)).2.1
  exact Nat.le_trans (BJ_bound bj _) hp
theorem C_broken {ro : RO} {nw : EV} {sh : SH} {rm : RM} {a : AE} {s k z n b : Nat} (h1 : EvA nw a) (h3 : OkA a) (hs : s < 8) (g : shR sh rm s k z) (hnz : n ≤ z) (hb : b < aN a) (hv : ∀ i, i < n → vL (2 ^ aZ a b) (RM_rows rm s i)) (lw : LW) (se : SE) : ∃ lw' se', M_X5_brokenPicture NN ro nw sh lw se (nI s) (nI n) (nI b) = some (bv (aL a b) (RM_rows rm s) (aO a b) n, lw', se') ∧ SeL se' (aL a b) := by
  have hz40 := g.2.2.1
  obtain ⟨lw', se1, c1, c2⟩ := C_study (ro := ro) h1 h3 hb lw se
  obtain ⟨w1, w2, w3⟩ := br_ok (aL a b) (RM_rows rm s) (aO a b) n
  have key := lp_inv (body := M_X5_brokenPicture_l8 NN ro nw sh (nI s) (nI n) (nI b)) (N := NN) (P := fun i Z => ∃ x, Z = (lw', x, nI i) ∧ SeL x (aL a b)) (Qr := fun r => ∃ se', r = (bv (aL a b) (RM_rows rm s) (aO a b) n, lw', se') ∧ SeL se' (aL a b)) (br (aL a b) (RM_rows rm s) (aO a b) n)
    (fun i Z hi hP => by
      obtain ⟨x, rfl, hx⟩ := hP
      obtain ⟨x', m1, m2, m3⟩ := C_steps (ro := ro) h1 h3 hs g hnz hb hv (show i < n by omega) hx
      have hsf := sf_b h3 hb hv (show i < n by omega)
      refine Or.inl ⟨_, ⟨x', rfl, m2⟩, fun rec => ?_⟩
      unfold M_X5_brokenPicture_l8
      simp only []
      rw [if_neg (by rw [nI_leI (by omega) (by omega)]; omega), m1, Option.bind_some, if_pos (by rw [fI_m (by omega)]; exact w2 i hi), nI_1])
    (fun Z hP => by
      obtain ⟨x, rfl, hx⟩ := hP
      by_cases l : br (aL a b) (RM_rows rm s) (aO a b) n < n
      · obtain ⟨x', m1, m2, m3⟩ := C_steps (ro := ro) h1 h3 hs g hnz hb hv l hx
        refine ⟨_, ⟨x', rfl, m2⟩, fun rec => ?_⟩
        unfold M_X5_brokenPicture_l8 bv
        simp only []
        rw [if_neg (by rw [nI_leI (by omega) (by omega)]; omega), m1, Option.bind_some, if_neg (by rw [w3 l]; exact not_not_intro rfl), if_pos l]
      · refine ⟨_, ⟨x, rfl, hx⟩, fun rec => ?_⟩
        unfold M_X5_brokenPicture_l8 bv
        simp only []
        rw [if_pos (by rw [nI_leI (by omega) (by omega)]; omega), if_neg l])
    (by show _ < 5000; omega) (z := (lw', se1, 0)) ⟨se1, rfl, c2⟩
  obtain ⟨r, ⟨se', hr, hl⟩, h'⟩ := key
  refine ⟨lw', se', ?_, hl⟩
  unfold M_X5_brokenPicture
  rw [c1, Option.bind_some, ← hr]
  exact h'
def sfs (q : PL) (R : Nat → Int64) (on : Nat) : Nat → Int32
  | 0 => 0
  | i + 1 => sfs q R on i + fI (sf q R on i)
theorem R_broken {rm : RM} {a : AE} {s n b : Nat} (h2 : RmA rm a) (h3 : OkA a) (hn : n ≤ 40) (hb : b < aN a) (hv : ∀ i, i < n → vL (2 ^ aZ a b) (RM_rows rm s i)) : ∃ rm', M_X6_brokenIn NN rm s (nI n) (nI b) = some (bv (aL a b) (RM_rows rm s) (aO a b) n, rm') ∧ Sg rm rm' ∧ (br (aL a b) (RM_rows rm s) (aO a b) n = n → RM_picturesSum rm' = sfs (aL a b) (RM_rows rm s) (aO a b) n) := by
  have hp : 2 ^ aZ a b ≤ 1024 := p10 (h3.2 b hb).2.2.1
  have hb4 : b < 4 := by have := h3.1; omega
  obtain ⟨w1, w2, w3⟩ := br_ok (aL a b) (RM_rows rm s) (aO a b) n
  have ah_s : ∀ i, ah (RM_rows rm s) (aO a b) (i + 1) = pv (RM_rows rm s) i := fun i => if_neg (Nat.succ_ne_zero i)
  have fs : ∀ i x, i < n → Sg rm x → ∃ x', Sg rm x' ∧ RM_picturesSum x' = RM_picturesSum x ∧ M_X6_fewestTo NN x (nI b) (nI (ah (RM_rows rm s) (aO a b) i)) (nI (pv (RM_rows rm s) i)) = some (fI (sf (aL a b) (RM_rows rm s) (aO a b) i), x') := by
    intro i x hi hx
    obtain ⟨x', m1, m2⟩ := R_fewest (h2.sg hx) h3 hb (ah_lt h3 hb hv hi) (pv_ok (by omega) (hv i hi)).2.1
    exact ⟨x', hx.trans m1, ps_fewest m2, m2⟩
  have key := lp_inv (body := M_X6_brokenIn_l16 NN s (nI n) (nI b)) (N := NN) (P := fun i Z => ∃ x, Z = (x, nI (ah (RM_rows rm s) (aO a b) i), nI i) ∧ Sg rm x ∧ RM_picturesSum x = sfs (aL a b) (RM_rows rm s) (aO a b) i) (Qr := fun r => ∃ rm', r = (bv (aL a b) (RM_rows rm s) (aO a b) n, rm') ∧ Sg rm rm' ∧ (br (aL a b) (RM_rows rm s) (aO a b) n = n → RM_picturesSum rm' = sfs (aL a b) (RM_rows rm s) (aO a b) n)) (br (aL a b) (RM_rows rm s) (aO a b) n)
    (fun i Z hi hP => by
      obtain ⟨x, rfl, hx, hs⟩ := hP
      obtain ⟨x', m1, m2, m3⟩ := fs i x (by omega) hx
      obtain ⟨v1, v2, v3⟩ := pv_ok (by omega) (hv i (by omega))
      have hsf := sf_b h3 hb hv (show i < n by omega)
      refine Or.inl ⟨_, ⟨RM_s_picturesSum x' (sfs (aL a b) (RM_rows rm s) (aO a b) (i + 1)), rfl, m1.trans (sg_picturesSum _ _), rfl⟩, fun rec => ?_⟩
      unfold M_X6_brokenIn_l16
      simp only []
      rw [if_neg (by rw [nI_leI (by omega) (by omega)]; omega), if_neg (nI_in (by omega) (by omega)), nI_clamp (n := i) (by omega), hx.all.2.2.2.1, v3, m3, Option.bind_some]
      simp only []
      rw [if_pos (by rw [fI_m (by omega)]; exact w2 i hi), if_neg (ix (by omega) (by omega)), RM_rows_s_picturesSum, m1.all.2.2.2.1, v3, m2, hs, nI_1, ah_s]
      rfl)
    (fun Z hP => by
      obtain ⟨x, rfl, hx, hs⟩ := hP
      by_cases l : br (aL a b) (RM_rows rm s) (aO a b) n < n
      · obtain ⟨x', m1, m2, m3⟩ := fs _ x l hx
        obtain ⟨v1, v2, v3⟩ := pv_ok (by omega) (hv _ l)
        refine ⟨_, ⟨x', rfl, m1, fun z => by omega⟩, fun rec => ?_⟩
        unfold M_X6_brokenIn_l16 bv
        simp only []
        rw [if_neg (by rw [nI_leI (by omega) (by omega)]; omega), if_neg (nI_in (by omega) (by omega)), nI_clamp (by omega), hx.all.2.2.2.1, v3, m3, Option.bind_some]
        simp only []
        rw [if_neg (by rw [w3 l]; exact not_not_intro rfl), if_pos l]
      · refine ⟨_, ⟨x, rfl, hx, fun z => by rw [hs, z]⟩, fun rec => ?_⟩
        unfold M_X6_brokenIn_l16 bv
        simp only []
        rw [if_pos (by rw [nI_leI (by omega) (by omega)]; omega), if_neg l])
    (by show _ < 5000; omega) (z := (RM_s_picturesSum rm 0, nI (aO a b), 0)) ⟨RM_s_picturesSum rm 0, rfl, sg_picturesSum _ _, rfl⟩
  obtain ⟨r, ⟨rm', hr, hl⟩, h'⟩ := key
  refine ⟨rm', ?_, hl⟩
  unfold M_X6_brokenIn
  rw [if_neg (E_in h3 hb), E_cl h3 hb, RM_on_s_picturesSum, (h2.2.1 b hb4).2.2.1, ← hr]
  exact h'
theorem pS_broken : S_broken INV := by
  intro ro nw kp dr sh tp lw se rm K T hI p1 p2 p3
  obtain ⟨a, h1, h2, h3, h4, h5, h6, h7, h8⟩ := id hI
  unfold M_X5_broken M_X6_broken
  rcases W_pict (ro := ro) (p1 := p1) (p2 := p2) (p3 := p3) h1 h2 h3 h4 with ⟨s, k, z, n, b, hs, rfl, g, rfl, hz, hn1, hn, rfl, hb, hv, e1, e2⟩ | ⟨j, hj, e1, e2⟩
  · obtain ⟨lw', se', c1, c2⟩ := C_broken (ro := ro) h1 h3 hs g hz hb hv lw se
    obtain ⟨rm', r1, r2, r3⟩ := R_broken (s := s) h2 h3 (show n ≤ 40 by omega) hb hv
    rw [e1, Option.bind_some, if_pos rfl, c1, e2, Option.bind_some, Option.bind_some, if_pos rfl, if_neg (S_in hs), S_cl hs, r1]
    exact ⟨_, rfl, _, rfl, rfl, hI.sg r2⟩
  · rw [e1, Option.bind_some, if_neg cd_ne, cd_rf hj, e2, Option.bind_some, Option.bind_some, if_neg cd_ne]
    exact ⟨_, rfl, _, rfl, rfl, hI.rf j⟩
theorem pS_pictures : S_pictures INV := by
  intro ro nw kp dr sh tp lw se rm K T hI p1 p2 p3
  obtain ⟨a, h1, h2, h3, h4, h5, h6, h7, h8⟩ := id hI
  unfold M_X5_pictures M_X6_pictures
  rcases W_pict (ro := ro) (p1 := p1) (p2 := p2) (p3 := p3) h1 h2 h3 h4 with ⟨s, k, z, n, b, hs, rfl, g, rfl, hz, hn1, hn, rfl, hb, hv, e1, e2⟩ | ⟨j, hj, e1, e2⟩
  · have hz40 := g.2.2.1
    obtain ⟨lw', se1, c1, c2⟩ := C_study (ro := ro) h1 h3 hb lw se
    obtain ⟨rm', r1, r2, r3⟩ := R_broken (s := s) h2 h3 (show n ≤ 40 by omega) hb hv
    obtain ⟨w1, w2, w3⟩ := br_ok (aL a b) (RM_rows rm s) (aO a b) n
    obtain ⟨r, ⟨se', hr⟩, h'⟩ := lp_inv (body := M_X5_pictures_l32 NN nw sh (nI s) (nI n) (nI b)) (N := NN) (P := fun i Z => ∃ x, Z = (ro, lw', x, sfs (aL a b) (RM_rows rm s) (aO a b) i, nI i) ∧ SeL x (aL a b)) (Qr := fun r => ∃ se', r = (if br (aL a b) (RM_rows rm s) (aO a b) n < n then (-1 : Int32) else sfs (aL a b) (RM_rows rm s) (aO a b) n, ro, lw', se')) (br (aL a b) (RM_rows rm s) (aO a b) n)
      (fun i Z hi hP => by
        obtain ⟨x, rfl, hx⟩ := hP
        obtain ⟨x', m1, m2, m3⟩ := C_steps (ro := ro) h1 h3 hs g hz hb hv (show i < n by omega) hx
        have hsf := sf_b h3 hb hv (show i < n by omega)
        refine Or.inl ⟨_, ⟨x', rfl, m2⟩, fun rec => ?_⟩
        unfold M_X5_pictures_l32
        simp only []
        rw [if_neg (by rw [nI_leI (by omega) (by omega)]; omega), m1, Option.bind_some, if_pos (by rw [fI_m (by omega)]; exact w2 i hi), nI_1]
        rfl)
      (fun Z hP => by
        obtain ⟨x, rfl, hx⟩ := hP
        by_cases l : br (aL a b) (RM_rows rm s) (aO a b) n < n
        · obtain ⟨x', m1, m2, m3⟩ := C_steps (ro := ro) h1 h3 hs g hz hb hv l hx
          refine ⟨_, ⟨x', rfl⟩, fun rec => ?_⟩
          unfold M_X5_pictures_l32
          simp only []
          rw [if_neg (by rw [nI_leI (by omega) (by omega)]; omega), m1, Option.bind_some, if_neg (by rw [w3 l]; exact not_not_intro rfl), if_pos l]
        · have e : br (aL a b) (RM_rows rm s) (aO a b) n = n := by omega
          refine ⟨_, ⟨x, rfl⟩, fun rec => ?_⟩
          unfold M_X5_pictures_l32
          simp only []
          rw [if_pos (by rw [nI_leI (by omega) (by omega)]; omega), if_neg l, e])
      (by show _ < 5000; omega) (z := (ro, lw', se1, 0, 0)) ⟨se1, rfl, c2⟩
    rw [e1, Option.bind_some, if_pos rfl, c1, Option.bind_some, h', hr, e2, Option.bind_some, if_pos rfl, if_neg (S_in hs), S_cl hs, r1, Option.bind_some]
    simp only []
    by_cases l : br (aL a b) (RM_rows rm s) (aO a b) n < n
    · rw [if_pos l, if_neg (fun z => by have := (bv_m (by omega)).mp z; omega)]
      exact ⟨_, rfl, _, rfl, rfl, hI.sg r2⟩
    · have e : br (aL a b) (RM_rows rm s) (aO a b) n = n := by omega
      rw [if_neg l, if_pos ((bv_m (by omega)).mpr e), r3 e]
      exact ⟨_, rfl, _, rfl, rfl, hI.sg r2⟩
  · rw [e1, Option.bind_some, if_neg cd_ne, cd_rf hj, e2, Option.bind_some, Option.bind_some, if_neg cd_ne]
    exact ⟨_, rfl, _, rfl, rfl, hI.rf j⟩
theorem pS_once : S_once INV := by
  intro ro nw kp dr sh tp lw se rm K T hI p1 p2 p3
  obtain ⟨a, h1, h2, h3, h4, h5, h6, h7, h8⟩ := id hI
  unfold M_X5_once M_X6_once
  rcases W_pict (ro := ro) (p1 := p1) (p2 := p2) (p3 := p3) h1 h2 h3 h4 with ⟨s, k, z, n, b, hs, rfl, g, rfl, hz, hn1, hn, rfl, hb, hv, e1, e2⟩ | ⟨j, hj, e1, e2⟩
  · have hz40 := g.2.2.1
    have hzz := (h3.2 b hb).2.2.1
    have hp : 2 ^ aZ a b ≤ 1024 := p10 hzz
    have hb4 : b < 4 := by have := h3.1; omega
    obtain ⟨lw', se1, c1, c2⟩ := C_broken (ro := ro) h1 h3 hs g hz hb hv lw se
    obtain ⟨rm', r1, r2, r3⟩ := R_broken (s := s) h2 h3 (show n ≤ 40 by omega) hb hv
    obtain ⟨w1, w2, w3⟩ := br_ok (aL a b) (RM_rows rm s) (aO a b) n
    rw [e1, Option.bind_some, if_pos rfl, c1, Option.bind_some, e2, Option.bind_some, if_pos rfl, if_neg (S_in hs), S_cl hs, r1, Option.bind_some]
    simp only []
    by_cases l : br (aL a b) (RM_rows rm s) (aO a b) n < n
    · have ebv : bv (aL a b) (RM_rows rm s) (aO a b) n = nI (br (aL a b) (RM_rows rm s) (aO a b) n) := if_pos l
      generalize hI0 : br (aL a b) (RM_rows rm s) (aO a b) n = i at *
      obtain ⟨v1, v2, v3⟩ := pv_ok (by omega) (hv i l)
      have va := ah_lt h3 hb hv l
      obtain ⟨se', m1, m2, m3, m4, m5⟩ := C_anew (q := aL a b) hzz (σ := 2) (by omega) c2 (st := pv (RM_rows rm s) i) v2
      have m5' : M_X2_spreadAnew NN se1 (nI (pv (RM_rows rm s) i)) 2 = some se' := m5
      have nm1 : ¬ nI i = -1 := nI_nem i (by omega)
      have xl : ∀ r, r < aZ a b → ah (RM_rows rm s) (aO a b) i ^^^ 2 ^ r < 2 ^ aZ a b := fun r hr => Nat.xor_lt_two_pow va (Nat.pow_lt_pow_right (by omega) hr)
      have fb : ∀ u, (sp1 (rev (lgl (aL a b))) (pv (RM_rows rm s) i)).1 u ≤ 1024 := fun u => by
        obtain ⟨c, bj⟩ := sp_BJr h3 hb v2
        exact Nat.le_trans (BJ_bound bj u) hp
      have ran : ∀ x, Sg rm x → (if ¬ nI i = 0 then (if nI s < 0 ∨ 8 ≤ s then none else (if nI i - 1 < 0 ∨ 40 ≤ (nI i - 1).toNatClampNeg then none else M_X6_once_j70 NN (nI s) (nI n) (nI b) (x, nI i, (RM_rows x s (nI i - 1).toNatClampNeg).toInt32))) else (if nI b < 0 ∨ 4 ≤ (nI b).toNatClampNeg then none else M_X6_once_j70 NN (nI s) (nI n) (nI b) (x, nI i, RM_on x (nI b).toNatClampNeg))) = lp (M_X6_once_l75 NN (nI s) (nI n) (nI b)) NN (x, nI i, nI (ah (RM_rows rm s) (aO a b) i), 0) := by
        intro x hx
        unfold ah M_X6_once_j70
        by_cases e : i = 0
        · rw [if_neg (by rw [q_eq_0 (by omega)]; exact not_not_intro e), if_neg (E_in h3 hb), E_cl h3 hb, ((h2.sg hx).2.1 b hb4).2.2.1, if_pos e]
        · rw [if_pos (by rw [q_eq_0 (by omega)]; exact e), if_neg (S_ix hs), nI_s1 (by omega), if_neg (nI_in (by omega) (by omega)), nI_clamp (by omega), hx.all.2.2.2.1, (pv_ok (by omega) (hv (i - 1) (by omega))).2.2, if_neg e]
      have cst : ∀ r, r < aZ a b → ∀ rec, M_X5_once_l75 NN nw sh (nI s) (nI n) (nI b) rec (ro, lw', se', nI (ah (RM_rows rm s) (aO a b) i), nI r) = if (sp1 (rev (lgl (aL a b))) (pv (RM_rows rm s) i)).1 (ah (RM_rows rm s) (aO a b) i ^^^ 2 ^ r) = 0 then rec (ro, lw', se', nI (ah (RM_rows rm s) (aO a b) i), nI (r + 1)) else some (nI r, ro, lw', se') := by
        intro r hr rec
        have hx := xl r hr
        unfold M_X5_once_l75
        simp only []
        rw [E_size h1 h3 hb, Option.bind_some, if_neg (by rw [nI_leI (by omega) (by omega)]; omega), sh_1 (by omega), fb_xorI, C_far m1 hzz m2 (by omega), Option.bind_some, if_pos (show _ < 2 ^ (aL a b).2.1 from hx), nI_1]
        by_cases e : (sp1 (rev (lgl (aL a b))) (pv (RM_rows rm s) i)).1 (ah (RM_rows rm s) (aO a b) i ^^^ 2 ^ r) = 0
        · rw [if_pos e]
          exact if_pos ((fI_m (by have := fb (ah (RM_rows rm s) (aO a b) i ^^^ 2 ^ r); omega)).mpr e)
        · rw [if_neg e]
          exact if_neg (fun z => e ((fI_m (by have := fb (ah (RM_rows rm s) (aO a b) i ^^^ 2 ^ r); omega)).mp z))
      have rst : ∀ x, Sg rm x → ∀ r, r < aZ a b → ∃ x', Sg rm x' ∧ ∀ rec, M_X6_once_l75 NN (nI s) (nI n) (nI b) rec (x, nI i, nI (ah (RM_rows rm s) (aO a b) i), nI r) = if (sp1 (rev (lgl (aL a b))) (pv (RM_rows rm s) i)).1 (ah (RM_rows rm s) (aO a b) i ^^^ 2 ^ r) = 0 then rec (x', nI i, nI (ah (RM_rows rm s) (aO a b) i), nI (r + 1)) else some (nI r, x') := by
        intro x hx r hr
        have hxl := xl r hr
        obtain ⟨x', k1, k2⟩ := R_fewest (h2.sg hx) h3 hb hxl v2
        refine ⟨x', hx.trans k1, fun rec => ?_⟩
        unfold M_X6_once_l75
        simp only []
        rw [if_neg (E_in h3 hb), if_neg (S_in hs), if_neg (nI_in (by omega) (by omega)), E_cl h3 hb, S_cl hs, nI_clamp (n := i) (by omega), ((h2.sg hx).2.1 b hb4).2.1, if_neg (by rw [nI_leI (by omega) (by omega)]; omega), sh_1 (by omega), fb_xorI, hx.all.2.2.2.1, v3, k2, Option.bind_some, nI_1]
        simp only []
        by_cases e : (sp1 (rev (lgl (aL a b))) (pv (RM_rows rm s) i)).1 (ah (RM_rows rm s) (aO a b) i ^^^ 2 ^ r) = 0
        · rw [if_pos e]
          exact if_pos ((fI_m (by have := fb (ah (RM_rows rm s) (aO a b) i ^^^ 2 ^ r); omega)).mpr e)
        · rw [if_neg e]
          exact if_neg (fun z => e ((fI_m (by have := fb (ah (RM_rows rm s) (aO a b) i ^^^ 2 ^ r); omega)).mp z))
      have endC : ∀ rec, M_X5_once_l75 NN nw sh (nI s) (nI n) (nI b) rec (ro, lw', se', nI (ah (RM_rows rm s) (aO a b) i), nI (aZ a b)) = some (-1, ro, lw', se') := fun rec => by
        unfold M_X5_once_l75
        simp only []
        rw [E_size h1 h3 hb, Option.bind_some, if_pos (by exact Int32.le_refl _)]
      have endR : ∀ x, Sg rm x → ∀ rec, M_X6_once_l75 NN (nI s) (nI n) (nI b) rec (x, nI i, nI (ah (RM_rows rm s) (aO a b) i), nI (aZ a b)) = some (-1, x) := fun x hx rec => by
        unfold M_X6_once_l75
        simp only []
        rw [if_neg (E_in h3 hb), E_cl h3 hb, ((h2.sg hx).2.1 b hb4).2.1, if_pos (by exact Int32.le_refl _)]
      have res : ∃ v x', Sg rm x' ∧ lp (M_X5_once_l75 NN nw sh (nI s) (nI n) (nI b)) NN (ro, lw', se', nI (ah (RM_rows rm s) (aO a b) i), 0) = some (v, ro, lw', se') ∧ lp (M_X6_once_l75 NN (nI s) (nI n) (nI b)) NN (rm', nI i, nI (ah (RM_rows rm s) (aO a b) i), 0) = some (v, x') := by
        by_cases ex : ∃ r, r < aZ a b ∧ ¬ (sp1 (rev (lgl (aL a b))) (pv (RM_rows rm s) i)).1 (ah (RM_rows rm s) (aO a b) i ^^^ 2 ^ r) = 0
        · obtain ⟨r, hr, hx, he⟩ := fb_first (p := fun r => ¬ (sp1 (rev (lgl (aL a b))) (pv (RM_rows rm s) i)).1 (ah (RM_rows rm s) (aO a b) i ^^^ 2 ^ r) = 0) ex
          have he' : ∀ j, j < r → (sp1 (rev (lgl (aL a b))) (pv (RM_rows rm s) i)).1 (ah (RM_rows rm s) (aO a b) i ^^^ 2 ^ j) = 0 := fun j hj => Classical.not_not.mp (he j hj)
          obtain ⟨o, ⟨x', y1, y2⟩, y3⟩ := lp_inv (body := M_X6_once_l75 NN (nI s) (nI n) (nI b)) (N := NN) (P := fun j Z => ∃ x, Z = (x, nI i, nI (ah (RM_rows rm s) (aO a b) i), nI j) ∧ Sg rm x) (Qr := fun o => ∃ x', o = (nI r, x') ∧ Sg rm x') r
            (fun j Z hj hP => by
              obtain ⟨x, rfl, hx⟩ := hP
              obtain ⟨x', q1, q2⟩ := rst x hx j (by omega)
              exact Or.inl ⟨_, ⟨x', rfl, q1⟩, fun rec => (q2 rec).trans (if_pos (he' j hj))⟩)
            (fun Z hP => by
              obtain ⟨x, rfl, hx2⟩ := hP
              obtain ⟨x', q1, q2⟩ := rst x hx2 r hr
              exact ⟨_, ⟨x', rfl, q1⟩, fun rec => (q2 rec).trans (if_neg hx)⟩)
            (by show r < 5000; omega) (z := (rm', nI i, nI (ah (RM_rows rm s) (aO a b) i), 0)) ⟨rm', rfl, r2⟩
          refine ⟨nI r, x', y2, ?_, by rw [← y1]; exact y3⟩
          exact lp_for (fun j => (ro, lw', se', nI (ah (RM_rows rm s) (aO a b) i), nI j)) r (fun j hj rec => (cst j (by omega) rec).trans (if_pos (he' j hj))) (fun rec => (cst r hr rec).trans (if_neg hx)) (by show r < 5000; omega)
        · have he' : ∀ j, j < aZ a b → (sp1 (rev (lgl (aL a b))) (pv (RM_rows rm s) i)).1 (ah (RM_rows rm s) (aO a b) i ^^^ 2 ^ j) = 0 := fun j hj => Classical.not_not.mp fun z => ex ⟨j, hj, z⟩
          obtain ⟨o, ⟨x', y1, y2⟩, y3⟩ := lp_inv (body := M_X6_once_l75 NN (nI s) (nI n) (nI b)) (N := NN) (P := fun j Z => ∃ x, Z = (x, nI i, nI (ah (RM_rows rm s) (aO a b) i), nI j) ∧ Sg rm x) (Qr := fun o => ∃ x', o = (-1, x') ∧ Sg rm x') (aZ a b)
            (fun j Z hj hP => by
              obtain ⟨x, rfl, hx⟩ := hP
              obtain ⟨x', q1, q2⟩ := rst x hx j hj
              exact Or.inl ⟨_, ⟨x', rfl, q1⟩, fun rec => (q2 rec).trans (if_pos (he' j hj))⟩)
            (fun Z hP => by
              obtain ⟨x, rfl, hx2⟩ := hP
              exact ⟨_, ⟨x, rfl, hx2⟩, endR x hx2⟩)
            (by show aZ a b < 5000; omega) (z := (rm', nI i, nI (ah (RM_rows rm s) (aO a b) i), 0)) ⟨rm', rfl, r2⟩
          refine ⟨-1, x', y2, ?_, by rw [← y1]; exact y3⟩
          exact lp_for (fun j => (ro, lw', se', nI (ah (RM_rows rm s) (aO a b) i), nI j)) (aZ a b) (fun j hj rec => (cst j hj rec).trans (if_pos (he' j hj))) endC (by show _ < 5000; omega)
      obtain ⟨v, x', y0, y1, y2⟩ := res
      rw [ebv, if_pos nm1, if_pos nm1, C_ahead h1 h3 hs g hz hb hv l, Option.bind_some, S_cell hs g (by omega), Option.bind_some, v3, m5', Option.bind_some, y1, ran rm' r2, y2]
      exact ⟨_, rfl, _, rfl, rfl, hI.sg y0⟩
    · have e : br (aL a b) (RM_rows rm s) (aO a b) n = n := by omega
      have eb := (bv_m (q := aL a b) (R := RM_rows rm s) (on := aO a b) (n := n) (by omega)).mpr e
      rw [if_neg (not_not_intro eb), if_neg (not_not_intro eb), xRf_ok.2.2.2.1, mRf_ok.2.2.2.1]
      exact ⟨_, rfl, _, rfl, rfl, hI.sr 3 r2⟩
  · rw [e1, Option.bind_some, if_neg cd_ne, cd_rf hj, e2, Option.bind_some, Option.bind_some, if_neg cd_ne]
    exact ⟨_, rfl, _, rfl, rfl, hI.rf j⟩
