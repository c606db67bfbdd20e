/-! the reference's search -/
def sg (rm : RM) := (RM_shelf rm, RM_rowSort rm, RM_rowSize rm, RM_rows rm, RM_shown rm, RM_tape rm, RM_tapeSize rm, RM_refused rm, RM_bars rm, RM_kind rm, RM_size rm, RM_on rm, RM_stuck rm, RM_must rm, RM_not rm, RM_minutes rm, RM_movedAll rm, RM_seed rm, RM_pl rm)
/-- all that counts is as it was -/
def Sg (rm rm' : RM) : Prop := sg rm' = sg rm
theorem Sg.rfl' (rm : RM) : Sg rm rm := rfl
theorem Sg.trans {r1 r2 r3 : RM} (h : Sg r1 r2) (k : Sg r2 r3) : Sg r1 r3 := Eq.trans k h
theorem Sg.all {rm rm' : RM} (h : Sg rm rm') : RM_shelf rm' = RM_shelf rm ∧ RM_rowSort rm' = RM_rowSort rm ∧ RM_rowSize rm' = RM_rowSize rm ∧ RM_rows rm' = RM_rows rm ∧ RM_shown rm' = RM_shown rm ∧ RM_tape rm' = RM_tape rm ∧ RM_tapeSize rm' = RM_tapeSize rm ∧ RM_refused rm' = RM_refused rm ∧ RM_bars rm' = RM_bars rm ∧ RM_kind rm' = RM_kind rm ∧ RM_size rm' = RM_size rm ∧ RM_on rm' = RM_on rm ∧ RM_stuck rm' = RM_stuck rm ∧ RM_must rm' = RM_must rm ∧ RM_not rm' = RM_not rm ∧ RM_minutes rm' = RM_minutes rm ∧ RM_movedAll rm' = RM_movedAll rm ∧ RM_seed rm' = RM_seed rm ∧ RM_pl rm' = RM_pl rm := by
  unfold Sg sg at h
  simp only [Prod.mk.injEq] at h
  exact h
theorem RmA.sg {rm rm' : RM} {a : AE} (h : RmA rm a) (k : Sg rm rm') : RmA rm' a := by
  obtain ⟨e1, e2, e3, e4, e5, e6, e7, e8, e9, e10, e11, e12, e13, e14, e15, e16, e17, e18, e19⟩ := k.all
  unfold RmA
  rw [e9, e10, e11, e12, e13, e14, e15, e16, e17, e18]
  exact h
theorem ShA.sg {sh : SH} {rm rm' : RM} {n : Nat} (h : ShA sh rm n) (k : Sg rm rm') : ShA sh rm' n := by
  obtain ⟨e1, e2, e3, e4, e5, e6, e7, e8, e9, e10, e11, e12, e13, e14, e15, e16, e17, e18, e19⟩ := k.all
  unfold ShA
  rw [e1, e2, e3, e4, e5]
  exact h
theorem TpA.sg {tp : TP} {rm rm' : RM} (h : TpA tp rm) (k : Sg rm rm') : TpA tp rm' := by
  obtain ⟨e1, e2, e3, e4, e5, e6, e7, e8, e9, e10, e11, e12, e13, e14, e15, e16, e17, e18, e19⟩ := k.all
  unfold TpA
  rw [e6, e7]
  exact h
theorem RfA.sg {ro : RO} {rm rm' : RM} (h : RfA ro rm) (k : Sg rm rm') : RfA ro rm' := by
  unfold RfA
  rw [k.all.2.2.2.2.2.2.2.1]
  exact h
theorem INV.sg {ro : RO} {nw kp dr dr' : EV} {sh : SH} {tp : TP} {lw lw' : LW} {se se' : SE} {rm rm' : RM} {K T T' : Option RM} (h : INV ro nw kp dr sh tp lw se rm K T) (k : Sg rm rm') : INV ro nw kp dr' sh tp lw' se' rm' K T' := by
  obtain ⟨a, h1, h2, h3, h4, h5, h6, h7, h8⟩ := h
  exact ⟨a, h1, h2.sg k, h3, h4.sg k, h5.sg k, h6.sg k, h7, by unfold PlA; rw [k.all.2.2.2.2.2.2.2.2.2.2.2.2.2.2.2.2.2.2]; exact h8⟩
def RmB (rm : RM) (q : PL) (B : BB) : Prop := (∀ s, s < 2 ^ q.2.1 → RM_far rm s = fI (B.1 s)) ∧ RM_queued rm = nI B.2.2 ∧ ∀ i, i < B.2.2 → RM_queue rm i = nI (B.2.1 i)
theorem sg_moved1 (r : RM) (v : (Nat → Int64)) : sg (RM_s_moved1 r v) = sg r := rfl
theorem sg_at (r : RM) (v : Int32) : sg (RM_s_at r v) = sg r := rfl
theorem sg_token (r : RM) (v : Int32) : sg (RM_s_token r v) = sg r := rfl
theorem sg_from (r : RM) (v : Int32) : sg (RM_s_from r v) = sg r := rfl
theorem sg_figures (r : RM) (v : Int32) : sg (RM_s_figures r v) = sg r := rfl
theorem sg_fault (r : RM) (v : Int32) : sg (RM_s_fault r v) = sg r := rfl
theorem sg_told (r : RM) (v : (Nat → Int32)) : sg (RM_s_told r v) = sg r := rfl
theorem sg_statements (r : RM) (v : Int32) : sg (RM_s_statements r v) = sg r := rfl
theorem sg_far (r : RM) (v : (Nat → Int32)) : sg (RM_s_far r v) = sg r := rfl
theorem sg_queue (r : RM) (v : (Nat → Int32)) : sg (RM_s_queue r v) = sg r := rfl
theorem sg_queued (r : RM) (v : Int32) : sg (RM_s_queued r v) = sg r := rfl
theorem sg_parts1 (r : RM) (v : (Nat → Int32)) : sg (RM_s_parts1 r v) = sg r := rfl
theorem sg_parts2 (r : RM) (v : (Nat → Int32)) : sg (RM_s_parts2 r v) = sg r := rfl
theorem sg_picturesSum (r : RM) (v : Int32) : sg (RM_s_picturesSum r v) = sg r := rfl
theorem sg_behindAll (r : RM) (v : Int32) : sg (RM_s_behindAll r v) = sg r := rfl
theorem RmB_1 {rm : RM} {q : PL} {B : BB} {F Q : Nat → Int32} {c : Int32} (h1 : ∀ s, s < 2 ^ q.2.1 → F s = fI (B.1 s)) (h2 : c = nI B.2.2) (h3 : ∀ i, i < B.2.2 → Q i = nI (B.2.1 i)) : RmB (RM_s_queue (RM_s_queued (RM_s_far rm F) c) Q) q B := by
  unfold RmB
  rw [RM_far_s_queue, RM_far_s_queued, RM_far_s_far, RM_queued_s_queue, RM_queued_s_queued, RM_queue_s_queue]
  exact ⟨h1, h2, h3⟩
theorem RmB_2 {rm : RM} {q : PL} {B : BB} {F Q : Nat → Int32} {c : Int32} (h1 : ∀ s, s < 2 ^ q.2.1 → F s = fI (B.1 s)) (h2 : c = nI B.2.2) (h3 : ∀ i, i < B.2.2 → Q i = nI (B.2.1 i)) : RmB (RM_s_queued (RM_s_queue (RM_s_far rm F) Q) c) q B := by
  unfold RmB
  rw [RM_far_s_queued, RM_far_s_queue, RM_far_s_far, RM_queue_s_queued, RM_queue_s_queue, RM_queued_s_queued]
  exact ⟨h1, h2, h3⟩
theorem Sg_1 {rm : RM} {F Q : Nat → Int32} {c : Int32} : Sg rm (RM_s_queue (RM_s_queued (RM_s_far rm F) c) Q) := by
  unfold Sg
  rw [sg_queue, sg_queued, sg_far]
theorem Sg_2 {rm : RM} {F Q : Nat → Int32} {c : Int32} : Sg rm (RM_s_queued (RM_s_queue (RM_s_far rm F) Q) c) := by
  unfold Sg
  rw [sg_queued, sg_queue, sg_far]
def opR (q : PL) (σ : Nat) : Nat → Nat → Bool := if σ = 1 then lgl q else rev (lgl q)
theorem opR_mv {q : PL} {σ u m : Nat} (h : opR q σ u m = true) : mvb q m = true := by
  unfold opR at h
  split at h
  · exact mvb_of h
  · exact mvb_of h
theorem opR_ok {q : PL} (hz : q.2.1 ≤ 10) (σ : Nat) : OpOk (opR q σ) (2 ^ q.2.1) := fun _ _ hu h => mvb_mk hz (opR_mv h) hu
section RS
variable {rm : RM} {a : AE} {b : Nat}
theorem R_alln {N : Nat} (h : RmA rm a) (ok : OkA a) (hb : b < aN a) : M_X6_all N rm (nI b) = some (nI (2 ^ aZ a b - 1)) := by
  rw [R_all h ok hb, nI_s1 Nat.one_le_two_pow]
theorem R_one (h : RmA rm a) (ok : OkA a) (hb : b < aN a) {σ i u j : Nat} {C : BB} {p2 : Int32} (hσ : σ = 0 ∨ σ = 1) (hC : RmB rm (aL a b) C) (hI : BI (2 ^ aZ a b) C) (hi : i < C.2.2) (hu : C.2.1 i = u) (hF : C.1 u ≤ 1024) (hs : ∀ s, C.1 s < 2 ^ 31) (hj : j ≤ 20) (rec49 : (RM × Int32) → Option RM) : ∃ rm', Sg rm rm' ∧ RmB rm' (aL a b) (bst (opR (aL a b) σ) u (C.1 u + 1) C j) ∧ ∀ rec61 : (RM × Int32 × Int32) → Option RM, M_X6_findFar_l61 NN (nI b) p2 (nI σ) rec49 rec61 (rm, nI i, nI j) = rec61 (rm', nI i, nI (j + 1)) := by
  have hz := (ok.2 b hb).2.2.1
  have h2 := p10 hz
  have hle := BI_le hI
  have hu1 := hI.1 i hi
  rw [hu] at hu1
  have skip : ∀ rec61 : (RM × Int32 × Int32) → Option RM, M_X6_findFar_j169 NN (nI b) p2 (nI σ) rec49 rec61 (rm, nI i, nI j) = rec61 (rm, nI i, nI (j + 1)) := fun rec61 => by
    unfold M_X6_findFar_j169
    simp only []
    rw [nI_1]
  have noop : opR (aL a b) σ u j = false ∨ C.1 (u ^^^ mk j) ≠ 0 → bst (opR (aL a b) σ) u (C.1 u + 1) C j = C := fun hh => by
    unfold bst
    rw [if_neg]
    intro z
    rcases hh with hh | hh
    · rw [hh] at z; cases z.1
    · exact hh z.2
  cases v : mvb (aL a b) j
  · have hop : opR (aL a b) σ u j = false := by
      cases e : opR (aL a b) σ u j
      · rfl
      · rw [opR_mv e] at v; cases v
    rw [noop (Or.inl hop)]
    refine ⟨rm, rfl, hC, fun rec61 => ?_⟩
    unfold M_X6_findFar_l61
    simp only []
    rw [if_neg (by rw [q_gt_20 (by omega)]; omega), R_move h ok hb (by omega), Option.bind_some, v, if_pos (by decide), skip]
  · have hto : u ^^^ mk j < 2 ^ aZ a b := mvb_mk (q := aL a b) hz v hu1.1
    have hqi : RM_queue rm i = nI u := by rw [hC.2.2 i hi, hu]
    have start : ∀ rec61 : (RM × Int32 × Int32) → Option RM, M_X6_findFar_l61 NN (nI b) p2 (nI σ) rec49 rec61 (rm, nI i, nI j) = if C.1 (u ^^^ mk j) ≠ 0 then rec61 (rm, nI i, nI (j + 1)) else M_X6_findFar_j122 NN (nI b) p2 (nI σ) rec49 rec61 (rm, nI i, nI j, nI (u ^^^ mk j), nI b, if σ = 0 then nI (u ^^^ mk j) else nI u) := by
      intro rec61
      unfold M_X6_findFar_l61
      simp only []
      rw [if_neg (by rw [q_gt_20 (by omega)]; omega), R_move h ok hb (by omega), Option.bind_some, v, if_neg (by decide), if_neg (nI_in (by omega) (by omega)), M_mask hj, Option.bind_some, nI_clamp (by omega), hqi, fb_xorI, if_neg (nI_in (by omega) (by omega)), nI_clamp (by omega), hC.1 _ hto, skip]
      by_cases e0 : C.1 (u ^^^ mk j) = 0
      · rw [if_neg (by rw [fI_m (hs _)]; exact not_not_intro e0), if_neg (not_not_intro e0)]
        rcases hσ with rfl | rfl
        · rw [if_pos (by decide), if_pos rfl]
        · rw [if_neg (by decide), if_neg (ix (by omega) (by omega)), if_neg (by decide)]
      · rw [if_pos (by rw [fI_m (hs _)]; exact e0), if_pos e0]
    by_cases e0 : C.1 (u ^^^ mk j) = 0
    · have hlt := BI_lt hI hto e0
      have may : M_X6_mayAt NN rm (nI b) (if σ = 0 then nI (u ^^^ mk j) else nI u) (nI j) = some (oB (opR (aL a b) σ u j)) := by
        rcases hσ with rfl | rfl
        · rw [if_pos rfl, R_may h ok hb hto (by omega)]; rfl
        · rw [if_neg (by decide), R_may h ok hb hu1.1 (by omega)]; rfl
      cases e : opR (aL a b) σ u j
      · rw [noop (Or.inl e)]
        refine ⟨rm, rfl, hC, fun rec61 => ?_⟩
        rw [start, if_neg (not_not_intro e0)]
        unfold M_X6_findFar_j122
        simp only []
        rw [may, Option.bind_some, e, if_pos (by decide), skip]
      · have eb : bst (opR (aL a b) σ) u (C.1 u + 1) C j = ins (u ^^^ mk j) (C.1 u + 1) C := if_pos ⟨e, e0⟩
        rw [eb]
        obtain ⟨F, hF2⟩ : ∃ F, C.1 u = F + 1 := ⟨C.1 u - 1, by have := hu1.2; omega⟩
        refine ⟨RM_s_queue (RM_s_queued (RM_s_far rm (upd (RM_far rm) (u ^^^ mk j) (nI (F + 1)))) (nI (C.2.2 + 1))) (upd (RM_queue rm) C.2.2 (nI (u ^^^ mk j))), Sg_1, RmB_1 (fun s hs => ?_) rfl (fun k hk => ?_), fun rec61 => ?_⟩
        · show upd (RM_far rm) (u ^^^ mk j) (nI (F + 1)) s = fI (vu C.1 (u ^^^ mk j) (C.1 u + 1) s)
          unfold upd vu
          by_cases es : s = u ^^^ mk j
          · rw [if_pos es, if_pos es, fI_s, hF2]
          · rw [if_neg es, if_neg es]; exact hC.1 s hs
        · show upd (RM_queue rm) C.2.2 (nI (u ^^^ mk j)) k = nI (vu C.2.1 C.2.2 (u ^^^ mk j) k)
          have hk : k < C.2.2 + 1 := hk
          unfold upd vu
          by_cases es : k = C.2.2
          · rw [if_pos es, if_pos es]
          · rw [if_neg es, if_neg es]; exact hC.2.2 k (by omega)
        · rw [start, if_neg (not_not_intro e0)]
          have hu2 : u < 1024 := by have := hu1.1; omega
          unfold M_X6_findFar_j122 M_X6_findFar_j169
          simp only [nI_clamp (show i < 2 ^ 31 by omega), hqi, nI_clamp (show u < 2 ^ 31 by omega), nI_clamp (show u ^^^ mk j < 2 ^ 31 by omega), hC.1 u hu1.1, hF2, fI_s, nI_1, RM_queued_s_far, RM_queue_s_queued, RM_queue_s_far, hC.2.1, nI_clamp (show C.2.2 < 2 ^ 31 by omega), if_neg (ix (show i < 1024 by omega) (by omega)), if_neg (ix hu2 (by omega)), if_neg (ix (show u ^^^ mk j < 1024 by omega) (by omega)), if_neg (ix (show C.2.2 < 1024 by omega) (by omega))]
          rw [may, Option.bind_some, e, if_neg (by decide)]
    · rw [noop (Or.inr e0)]
      refine ⟨rm, rfl, hC, fun rec61 => ?_⟩
      rw [start, if_pos e0]
theorem R_row (h : RmA rm a) (ok : OkA a) (hb : b < aN a) {σ i u : Nat} {B : BB} {p2 : Int32} (hσ : σ = 0 ∨ σ = 1) (hB : RmB rm (aL a b) B) (hI : BI (2 ^ aZ a b) B) (hi : i < B.2.2) (hu : B.2.1 i = u) (hc : Bc B) (rec49 : (RM × Int32) → Option RM) : ∃ rm', Sg rm rm' ∧ RmB rm' (aL a b) (brow (opR (aL a b) σ) u (B.1 u + 1) 21 B) ∧ lp (M_X6_findFar_l61 NN (nI b) p2 (nI σ) rec49) NN (rm, nI i, 0) = rec49 (rm', nI (i + 1)) := by
  have hz := (ok.2 b hb).2.2.1
  have h2 := p10 hz
  have hle := BI_le hI
  have hu1 := hI.1 i hi
  rw [hu] at hu1
  obtain ⟨z', M, ⟨rm', rfl, k1, k2⟩, k3⟩ := lp_to (body := M_X6_findFar_l61 NN (nI b) p2 (nI σ) rec49) (N := NN) (P := fun j Z => ∃ rm', Z = (rm', nI i, nI j) ∧ Sg rm rm' ∧ RmB rm' (aL a b) (brow (opR (aL a b) σ) u (B.1 u + 1) j B)) 21 (fun j Z hj hP => by
    obtain ⟨rm1, rfl, k1, k2⟩ := hP
    have up := Bup_brow (op := opR (aL a b) σ) (u := u) (d := B.1 u + 1) j (B := B)
    have eu : (brow (opR (aL a b) σ) u (B.1 u + 1) j B).1 u = B.1 u := up.2.2 u hu1.2
    have hI2 := brow_BI (d := B.1 u + 1) (opR_ok (q := aL a b) hz σ) hu1.1 (Nat.succ_ne_zero _) j hI
    have hb2 : Bs (brow (opR (aL a b) σ) u (B.1 u + 1) j B) 1025 := Bs_brow (by have := hc u; omega) j (fun s => by have := hc s; omega)
    obtain ⟨rm2, m1, m2, m3⟩ := R_one (h.sg k1) ok hb (p2 := p2) (j := j) hσ k2 hI2 (Nat.lt_of_lt_of_le hi up.1) ((up.2.1 i hi).trans hu) (by rw [eu]; have := hc u; omega) (fun s => by have := hb2 s; omega) (by omega) rec49
    rw [eu] at m2
    exact ⟨_, ⟨rm2, rfl, k1.trans m1, m2⟩, m3⟩) (by decide) (z := (rm, nI i, 0)) ⟨rm, rfl, rfl, hB⟩
  refine ⟨rm', k1, k2, ?_⟩
  rw [k3]
  unfold M_X6_findFar_l61
  simp only []
  rw [if_pos (by decide), nI_1]
end RS
theorem R_bfs {a : AE} {b : Nat} (ok : OkA a) (hb : b < aN a) {σ : Nat} {p2 : Int32} (hσ : σ = 0 ∨ σ = 1) : ∀ (f i M : Nat) {rm : RM} {B : BB}, RmA rm a → RmB rm (aL a b) B → BI (2 ^ aZ a b) B → Bc B → 2 ^ aZ a b < f + i → i ≤ 1025 → f < M → ∃ rm', Sg rm rm' ∧ RmB rm' (aL a b) (bfs (opR (aL a b) σ) f i B) ∧ lp (M_X6_findFar_l49 NN (nI b) p2 (nI σ)) M (rm, nI i) = some rm'
  | f, i, 0, _, _, _, _, _, _, _, _, hM => absurd hM (Nat.not_lt_zero f)
  | f, i, M + 1, rm, B, h, hB, hI, hc, hf, hi, hM => by
    have hz := (ok.2 b hb).2.2.1
    have h2 := p10 hz
    have h3 := BI_le hI
    by_cases e : i < B.2.2
    · cases f with
      | zero => omega
      | succ f =>
        have hu := hI.1 i e
        have hfar := hc (B.2.1 i)
        obtain ⟨rm1, k1, k2, k3⟩ := R_row h ok hb (p2 := p2) hσ hB hI e rfl hc (lp (M_X6_findFar_l49 NN (nI b) p2 (nI σ)) M)
        have r1 : bfs (opR (aL a b) σ) (f + 1) i B = bfs (opR (aL a b) σ) f (i + 1) (brow (opR (aL a b) σ) (B.2.1 i) (B.1 (B.2.1 i) + 1) 21 B) := by
          show (if i < B.2.2 then _ else _) = _
          rw [if_pos e]
        rw [r1]
        obtain ⟨rm2, m1, m2, m3⟩ := R_bfs ok hb (p2 := p2) hσ f (i + 1) M (h.sg k1) k2 (brow_BI (opR_ok (q := aL a b) hz σ) hu.1 (Nat.succ_ne_zero _) 21 hI) (Bc_brow 21 (by omega) hc) (by omega) (by omega) (by omega)
        refine ⟨rm2, k1.trans m1, m2, ?_⟩
        rw [lp]
        generalize lp (M_X6_findFar_l49 NN (nI b) p2 (nI σ)) M = rec at k3 m3 ⊢
        unfold M_X6_findFar_l49
        simp only []
        rw [hB.2.1, if_neg (by rw [nI_leI (by omega) (by omega)]; omega), k3]
        exact m3
    · have r1 : bfs (opR (aL a b) σ) f i B = B := by
        cases f with
        | zero => rfl
        | succ f => exact if_neg e
      rw [r1]
      refine ⟨rm, rfl, hB, ?_⟩
      rw [lp]
      unfold M_X6_findFar_l49
      simp only []
      rw [hB.2.1, if_pos (by rw [nI_leI (by omega) (by omega)]; omega)]
theorem R_find0 {rm : RM} {a : AE} {b : Nat} (h : RmA rm a) (ok : OkA a) (hb : b < aN a) {σ st : Nat} (hs : st < 2 ^ aZ a b) : ∃ rm1, Sg rm rm1 ∧ (∀ s, s < 2 ^ aZ a b → RM_far rm1 s = -1) ∧ M_X6_findFar NN rm (nI b) (nI st) (nI σ) = lp (M_X6_findFar_l49 NN (nI b) (nI st) (nI σ)) NN (RM_s_queued (RM_s_queue (RM_s_far rm1 (upd (RM_far rm1) st 0)) (upd (RM_queue rm1) 0 (nI st))) 1, 0) := by
  have hz := (ok.2 b hb).2.2.1
  have h2 := p10 hz
  obtain ⟨z', M, ⟨rm1, rfl, k1, k2⟩, k3⟩ := lp_to (body := M_X6_findFar_l3 NN (nI b) (nI st) (nI σ)) (N := NN) (P := fun j Z => ∃ rm', Z = (rm', nI j) ∧ Sg rm rm' ∧ ∀ s, s < j → RM_far rm' s = -1) (2 ^ aZ a b) (fun j Z hj hP => by
    obtain ⟨rm1, rfl, k1, k2⟩ := hP
    refine ⟨_, ⟨RM_s_far rm1 (upd (RM_far rm1) j (-1)), rfl, k1.trans (sg_far _ _), fun s hs => ?_⟩, fun rec => ?_⟩
    · rw [RM_far_s_far]
      unfold upd
      by_cases e : s = j
      · rw [if_pos e]
      · rw [if_neg e]; exact k2 s (by omega)
    · unfold M_X6_findFar_l3
      simp only []
      rw [R_alln (h.sg k1) ok hb, Option.bind_some, if_neg (by rw [nI_ltI (by omega) (by omega)]; omega), if_neg (nI_in (by omega) (by omega)), nI_clamp (by omega), nI_1]) (by show 2 ^ aZ a b < 5000; omega) (z := (rm, 0)) ⟨rm, rfl, rfl, fun s hs => absurd hs (Nat.not_lt_zero s)⟩
  refine ⟨rm1, k1, k2, ?_⟩
  unfold M_X6_findFar
  rw [k3]
  generalize lp (M_X6_findFar_l3 NN (nI b) (nI st) (nI σ)) M = rec
  unfold M_X6_findFar_l3
  simp only []
  rw [R_alln (h.sg k1) ok hb, Option.bind_some, if_pos (by rw [nI_ltI (by omega) (by omega)]; omega), if_neg (nI_in (by omega) (by omega)), if_neg (by decide), nI_clamp (by omega), c_0, RM_queue_s_far]
theorem R_find {rm : RM} {a : AE} {b : Nat} (h : RmA rm a) (ok : OkA a) (hb : b < aN a) {σ st : Nat} (hσ : σ = 0 ∨ σ = 1) (hs : st < 2 ^ aZ a b) : ∃ rm', Sg rm rm' ∧ RmB rm' (aL a b) (sp1 (opR (aL a b) σ) st) ∧ M_X6_findFar NN rm (nI b) (nI st) (nI σ) = some rm' := by
  have hz := (ok.2 b hb).2.2.1
  have h2 := p10 hz
  obtain ⟨rm1, k1, k2, k3⟩ := R_find0 (σ := σ) h ok hb hs
  have hB : RmB (RM_s_queued (RM_s_queue (RM_s_far rm1 (upd (RM_far rm1) st 0)) (upd (RM_queue rm1) 0 (nI st))) 1) (aL a b) (ins st 1 (fun _ => 0, fun _ => 0, 0)) := by
    refine RmB_2 (fun s hs => ?_) rfl (fun i hi => ?_)
    · show upd (RM_far rm1) st 0 s = fI (vu (fun _ => 0) st 1 s)
      unfold upd vu
      by_cases e : s = st
      · rw [if_pos e, if_pos e]; rfl
      · rw [if_neg e, if_neg e]; exact k2 s hs
    · show upd (RM_queue rm1) 0 (nI st) i = nI (vu (fun _ => 0) 0 st i)
      unfold upd vu
      have hi : i < 0 + 1 := hi
      rw [if_pos (by omega), if_pos (by omega)]
  have hc1 : Bc (ins st 1 (fun _ => 0, fun _ => 0, 0)) := fun s => by
    show vu (fun _ => 0) st 1 s ≤ 0 + 1
    unfold vu
    split
    · omega
    · exact Nat.zero_le _
  obtain ⟨rm2, m1, m2, m3⟩ := R_bfs ok hb (p2 := nI st) hσ 1025 0 NN (h.sg (k1.trans Sg_2)) hB (BI_ins (BI_0 rfl fun _ _ => rfl) hs rfl (by omega)) hc1 (by omega) (by omega) (by decide)
  exact ⟨rm2, (k1.trans Sg_2).trans m1, m2, k3.trans m3⟩
theorem R_fewest {rm : RM} {a : AE} {b : Nat} (h : RmA rm a) (ok : OkA a) (hb : b < aN a) {u v : Nat} (hu : u < 2 ^ aZ a b) (hv : v < 2 ^ aZ a b) : ∃ rm', Sg rm rm' ∧ M_X6_fewestTo NN rm (nI b) (nI u) (nI v) = some (fI ((sp1 (rev (lgl (aL a b))) v).1 u), rm') := by
  have hz := (ok.2 b hb).2.2.1
  have h2 := p10 hz
  obtain ⟨rm1, k1, k2, k3⟩ := R_find h ok hb (σ := 1) (by omega) hu
  refine ⟨rm1, k1, ?_⟩
  unfold M_X6_fewestTo
  rw [show (1 : Int32) = nI 1 from rfl, k3, Option.bind_some, if_neg (nI_in (by omega) (by omega)), nI_clamp (by omega), k2.1 v hv]
  have e : (sp1 (opR (aL a b) 1) u).1 v = (sp1 (rev (lgl (aL a b))) v).1 u := far_sym (lgl_ok (q := aL a b) hz) (lgl_rok (q := aL a b) hz) h2 hu hv
  rw [e]
