/-! a new bar; the tape's feed and wipe -/
def nE (rm : RM) := (RM_shelf rm, RM_rowSort rm, RM_rowSize rm, RM_rows rm, RM_moved1 rm, RM_shown rm, RM_tape rm, RM_tapeSize rm, RM_refused rm, RM_at rm, RM_token rm, RM_from rm, RM_figures rm, RM_fault rm, RM_told rm, RM_statements rm, RM_far rm, RM_queue rm, RM_queued rm, RM_parts1 rm, RM_parts2 rm, RM_picturesSum rm, RM_behindAll rm, RM_pl rm)
/-- all but the evening is as it was -/
def NE (rm rm' : RM) : Prop := nE rm' = nE rm
theorem NE.trans {r1 r2 r3 : RM} (h : NE r1 r2) (k : NE r2 r3) : NE r1 r3 := Eq.trans k h
theorem NE.all {rm rm' : RM} (h : NE rm rm') : RM_shelf rm' = RM_shelf rm ∧ RM_rowSort rm' = RM_rowSort rm ∧ RM_rowSize rm' = RM_rowSize rm ∧ RM_rows rm' = RM_rows rm ∧ RM_moved1 rm' = RM_moved1 rm ∧ RM_shown rm' = RM_shown rm ∧ RM_tape rm' = RM_tape rm ∧ RM_tapeSize rm' = RM_tapeSize rm ∧ RM_refused rm' = RM_refused rm ∧ RM_at rm' = RM_at rm ∧ RM_token rm' = RM_token rm ∧ RM_from rm' = RM_from rm ∧ RM_figures rm' = RM_figures rm ∧ RM_fault rm' = RM_fault rm ∧ RM_told rm' = RM_told rm ∧ RM_statements rm' = RM_statements rm ∧ RM_far rm' = RM_far rm ∧ RM_queue rm' = RM_queue rm ∧ RM_queued rm' = RM_queued rm ∧ RM_parts1 rm' = RM_parts1 rm ∧ RM_parts2 rm' = RM_parts2 rm ∧ RM_picturesSum rm' = RM_picturesSum rm ∧ RM_behindAll rm' = RM_behindAll rm ∧ RM_pl rm' = RM_pl rm := by
  unfold NE nE at h
  simp only [Prod.mk.injEq] at h
  exact h
theorem ShA.ne {sh : SH} {rm rm' : RM} {n m : Nat} (h : ShA sh rm n) (k : NE rm rm') (hm : n ≤ m) : ShA sh rm' m := by
  obtain ⟨e1, e2, e3, e4, e5, e6, -⟩ := k.all
  unfold ShA
  rw [e1, e2, e3, e4, e6]
  intro s hs
  rcases h s hs with g | g | ⟨g, b, hb, g2⟩
  · exact Or.inl g
  · exact Or.inr (Or.inl g)
  · exact Or.inr (Or.inr ⟨g, b, Nat.lt_of_lt_of_le hb hm, g2⟩)
theorem TpA.ne {tp : TP} {rm rm' : RM} (h : TpA tp rm) (k : NE rm rm') : TpA tp rm' := by
  obtain ⟨e1, e2, e3, e4, e5, e6, e7, e8, -⟩ := k.all
  unfold TpA
  rw [e7, e8]
  exact h
theorem RfA.ne {ro : RO} {rm rm' : RM} (h : RfA ro rm) (k : NE rm rm') : RfA ro rm' := by
  obtain ⟨e1, e2, e3, e4, e5, e6, e7, e8, e9, -⟩ := k.all
  unfold RfA
  rw [e9]
  exact h
theorem PlA.ne {rm rm' : RM} (h : PlA rm) (k : NE rm rm') : PlA rm' := by
  obtain ⟨e1, e2, e3, e4, e5, e6, e7, e8, e9, e10, e11, e12, e13, e14, e15, e16, e17, e18, e19, e20, e21, e22, e23, e24⟩ := k.all
  unfold PlA
  rw [e24]
  exact h
def aB (a : AE) (k z : Nat) : AE := (aN a + 1, vu (aK a) (aN a) k, vu (aZ a) (aN a) z, vu (aO a) (aN a) (2 ^ z - 1), vu (aT a) (aN a) 0, (fun i j => if i = aN a then 0 else aM a i j), (fun i j => if i = aN a then 0 else aX a i j), aU a, aV a, aW a)
theorem aB_ok {a : AE} {k z : Nat} (h : OkA a) (hn : aN a < 4) (hk : k ≤ 5) (h1 : 1 ≤ z) (hz : z ≤ 10) : OkA (aB a k z) := by
  refine ⟨hn, fun b hb => ?_⟩
  have hb : b < aN a + 1 := hb
  have hp : 0 < 2 ^ z := Nat.two_pow_pos z
  show vu (aK a) (aN a) k b ≤ 5 ∧ 1 ≤ vu (aZ a) (aN a) z b ∧ vu (aZ a) (aN a) z b ≤ 10 ∧ vu (aO a) (aN a) (2 ^ z - 1) b < 2 ^ vu (aZ a) (aN a) z b ∧ vu (aT a) (aN a) 0 b < 2 ^ vu (aZ a) (aN a) z b ∧ ∀ r, r < 10 → (if b = aN a then 0 else aM a b r) < 2 ^ vu (aZ a) (aN a) z b ∧ (if b = aN a then 0 else aX a b r) < 2 ^ vu (aZ a) (aN a) z b
  by_cases e : b = aN a
  · subst e
    simp only [vu_at, if_true]
    exact ⟨hk, h1, hz, by omega, hp, fun _ _ => ⟨hp, hp⟩⟩
  · simp only [vu_no e, if_neg e]
    exact h.2 b (by omega)
theorem upd_vu {f : Nat → Int32} {g : Nat → Nat} {b v i : Nat} (h : f i = nI (g i)) : upd f b (nI v) i = nI (vu g b v i) := by
  unfold upd vu
  by_cases e : i = b
  · rw [if_pos e, if_pos e]
  · rw [if_neg e, if_neg e, h]
theorem C_addBar {ev : EV} {a : AE} {k z : Nat} (h : EvA ev a) (hn : aN a < 4) (hz : z ≤ 10) : ∃ ev', M_X0_addBar NN ev (nI k) (nI z) = some (nI (aN a), ev') ∧ EvA ev' (aB a k z) := by
  obtain ⟨g1, g2, g3, g4, g5⟩ := h
  have hi4 : ¬ (nI (aN a) < 0 ∨ 4 ≤ (nI (aN a)).toNatClampNeg) := nI_in hn (by omega)
  have hcl : (nI (aN a)).toNatClampNeg = aN a := nI_clamp (by omega)
  unfold M_X0_addBar
  rw [g1, if_neg (nI_pos (by omega)), if_pos (by rw [q_lt_4 (by omega)]; exact hn), if_neg hi4, if_neg hi4, if_neg hi4, if_neg hi4, hcl, sh_1 (by omega), nI_s1 Nat.one_le_two_pow, nI_1]
  obtain ⟨r, ⟨MM, XX, h1, h2, h3⟩, h4⟩ := lp_inv (body := M_X0_addBar_l61 NN (nI k) (nI z)) (N := NN) (P := fun i Z => ∃ MM XX, Z = (EV_s_nots (EV_s_musts (EV_s_stucks (EV_s_ons (EV_s_sizes (EV_s_kinds (EV_s_bars ev (nI (aN a + 1))) (upd (EV_kinds ev) (aN a) (nI k))) (upd (EV_sizes ev) (aN a) (nI z))) (upd (EV_ons ev) (aN a) (nI (2 ^ z - 1)))) (upd (EV_stucks ev) (aN a) 0)) MM) XX, nI (aN a), nI i) ∧ (∀ j, MM j = if aN a * 10 ≤ j ∧ j < aN a * 10 + i then 0 else EV_musts ev j) ∧ ∀ j, XX j = if aN a * 10 ≤ j ∧ j < aN a * 10 + i then 0 else EV_nots ev j) (Qr := fun r => ∃ MM XX, r = (nI (aN a), EV_s_nots (EV_s_musts (EV_s_stucks (EV_s_ons (EV_s_sizes (EV_s_kinds (EV_s_bars ev (nI (aN a + 1))) (upd (EV_kinds ev) (aN a) (nI k))) (upd (EV_sizes ev) (aN a) (nI z))) (upd (EV_ons ev) (aN a) (nI (2 ^ z - 1)))) (upd (EV_stucks ev) (aN a) 0)) MM) XX) ∧ (∀ j, MM j = if aN a * 10 ≤ j ∧ j < aN a * 10 + 10 then 0 else EV_musts ev j) ∧ ∀ j, XX j = if aN a * 10 ≤ j ∧ j < aN a * 10 + 10 then 0 else EV_nots ev j) 10
    (fun i Z hi hP => by
      obtain ⟨MM, XX, rfl, h2, h3⟩ := hP
      have st : ∀ (f g : Nat → Int32), (∀ j, f j = if aN a * 10 ≤ j ∧ j < aN a * 10 + i then 0 else g j) → ∀ j, upd f (aN a * 10 + i) 0 j = if aN a * 10 ≤ j ∧ j < aN a * 10 + (i + 1) then 0 else g j := by
        intro f g hf j
        unfold upd
        by_cases e : j = aN a * 10 + i
        · rw [if_pos e, if_pos (by omega)]
        · rw [if_neg e, hf j]
          by_cases l : aN a * 10 ≤ j ∧ j < aN a * 10 + i
          · rw [if_pos l, if_pos (by omega)]
          · rw [if_neg l, if_neg (by omega)]
      refine Or.inl ⟨_, ⟨upd MM (aN a * 10 + i) 0, upd XX (aN a * 10 + i) 0, rfl, st _ _ h2, st _ _ h3⟩, fun rec => ?_⟩
      unfold M_X0_addBar_l61
      simp only []
      rw [if_neg (by rw [q_ge_10 (by omega)]; omega), at10 hn (by omega), if_neg (nI_in (by omega) (by omega)), if_neg (nI_in (by omega) (by omega)), nI_clamp (by omega), nI_1]
      rfl)
    (fun Z hP => by
      obtain ⟨MM, XX, rfl, h2, h3⟩ := hP
      refine ⟨_, ⟨MM, XX, rfl, h2, h3⟩, fun rec => ?_⟩
      unfold M_X0_addBar_l61
      simp only []
      rw [if_pos (by decide)])
    (by decide) (z := (EV_s_stucks (EV_s_ons (EV_s_sizes (EV_s_kinds (EV_s_bars ev (nI (aN a + 1))) (upd (EV_kinds ev) (aN a) (nI k))) (upd (EV_sizes ev) (aN a) (nI z))) (upd (EV_ons ev) (aN a) (nI (2 ^ z - 1)))) (upd (EV_stucks ev) (aN a) 0), nI (aN a), 0)) ⟨EV_musts ev, EV_nots ev, rfl, fun j => by rw [if_neg (by omega)], fun j => by rw [if_neg (by omega)]⟩
  subst h1
  refine ⟨_, h4, rfl, fun b hb => ?_, g3, g4, g5⟩
  obtain ⟨k1, k2, k3, k4, k5⟩ := g2 b hb
  refine ⟨upd_vu k1, upd_vu k2, upd_vu k3, upd_vu (v := 0) k4, fun r hr => ?_⟩
  show MM (b * 10 + r) = nI (if b = aN a then 0 else aM a b r) ∧ XX (b * 10 + r) = nI (if b = aN a then 0 else aX a b r)
  rw [h2, h3]
  by_cases e : b = aN a
  · rw [if_pos e, if_pos e, if_pos (by omega), if_pos (by omega)]
    exact ⟨rfl, rfl⟩
  · rw [if_neg e, if_neg e, if_neg (by omega), if_neg (by omega)]
    exact k5 r hr
theorem ne_bars (r : RM) (v : Int32) : nE (RM_s_bars r v) = nE r := rfl
theorem ne_kind (r : RM) (v : (Nat → Int32)) : nE (RM_s_kind r v) = nE r := rfl
theorem ne_size (r : RM) (v : (Nat → Int32)) : nE (RM_s_size r v) = nE r := rfl
theorem ne_on (r : RM) (v : (Nat → Int32)) : nE (RM_s_on r v) = nE r := rfl
theorem ne_stuck (r : RM) (v : (Nat → Int32)) : nE (RM_s_stuck r v) = nE r := rfl
theorem ne_must (r : RM) (v : (Nat → Nat → Int32)) : nE (RM_s_must r v) = nE r := rfl
theorem ne_not (r : RM) (v : (Nat → Nat → Int32)) : nE (RM_s_not r v) = nE r := rfl
theorem ne_minutes (r : RM) (v : (Nat → Int32)) : nE (RM_s_minutes r v) = nE r := rfl
theorem ne_movedAll (r : RM) (v : Int32) : nE (RM_s_movedAll r v) = nE r := rfl
theorem ne_seed (r : RM) (v : Int32) : nE (RM_s_seed r v) = nE r := rfl
theorem s_mm (r : RM) (M X M' : Nat → Nat → Int32) : RM_s_must (RM_s_not (RM_s_must r M) X) M' = RM_s_not (RM_s_must r M') X := rfl
theorem s_xx (r : RM) (X X' : Nat → Nat → Int32) : RM_s_not (RM_s_not r X) X' = RM_s_not r X' := rfl
theorem R_addLoop {r : RM} {n : Nat} {p1 p2 : Int32} (hb : RM_bars r = nI n) (hn : n < 4) : ∃ MM XX, lp (M_X6_addBar_l46 NN p1 p2) NN (r, 0) = some (RM_s_bars (RM_s_not (RM_s_must r MM) XX) (nI (n + 1))) ∧ (∀ x j, MM x j = if x = n ∧ j < 10 then 0 else RM_must r x j) ∧ ∀ x j, XX x j = if x = n ∧ j < 10 then 0 else RM_not r x j := by
  have hcl : (nI n).toNatClampNeg = n := nI_clamp (by omega)
  obtain ⟨o, ⟨MM, XX, h1, h2, h3⟩, h4⟩ := lp_inv (body := M_X6_addBar_l46 NN p1 p2) (N := NN) (P := fun i Z => ∃ MM XX, Z = (RM_s_not (RM_s_must r MM) XX, nI i) ∧ (∀ x j, MM x j = if x = n ∧ j < i then 0 else RM_must r x j) ∧ ∀ x j, XX x j = if x = n ∧ j < i then 0 else RM_not r x j) (Qr := fun o => ∃ MM XX, o = RM_s_bars (RM_s_not (RM_s_must r MM) XX) (nI (n + 1)) ∧ (∀ x j, MM x j = if x = n ∧ j < 10 then 0 else RM_must r x j) ∧ ∀ x j, XX x j = if x = n ∧ j < 10 then 0 else RM_not r x j) 10
    (fun i Z hi hP => by
      obtain ⟨MM, XX, rfl, h2, h3⟩ := hP
      have st : ∀ (f g : Nat → Nat → Int32), (∀ x j, f x j = if x = n ∧ j < i then 0 else g x j) → ∀ x j, va_up f n (upd (f n) i 0) x j = if x = n ∧ j < i + 1 then 0 else g x j := by
        intro f g hf x j
        unfold va_up
        by_cases e : x = n
        · subst e
          rw [if_pos rfl]
          unfold upd
          by_cases e2 : j = i
          · rw [if_pos e2, if_pos ⟨rfl, by omega⟩]
          · rw [if_neg e2, hf]
            by_cases l : j < i
            · rw [if_pos ⟨rfl, l⟩, if_pos ⟨rfl, by omega⟩]
            · rw [if_neg (fun z => l z.2), if_neg (fun z => by have := z.2; omega)]
        · rw [if_neg e, hf, if_neg (fun z => e z.1), if_neg (fun z => e z.1)]
      refine Or.inl ⟨_, ⟨va_up MM n (upd (MM n) i 0), va_up XX n (upd (XX n) i 0), rfl, st _ _ h2, st _ _ h3⟩, fun rec => ?_⟩
      unfold M_X6_addBar_l46
      simp only [RM_bars_s_must, RM_bars_s_not, RM_must_s_not, RM_must_s_must, RM_not_s_must, RM_not_s_not, s_mm, s_xx, hb, hcl, nI_clamp (show i < 2 ^ 31 by omega), if_neg (ix hn (by omega)), if_neg (ix hi (by omega))]
      rw [if_neg (by rw [q_ge_10 (by omega)]; omega), nI_1])
    (fun Z hP => by
      obtain ⟨MM, XX, rfl, h2, h3⟩ := hP
      refine ⟨_, ⟨MM, XX, rfl, h2, h3⟩, fun rec => ?_⟩
      unfold M_X6_addBar_l46
      simp only [RM_bars_s_must, RM_bars_s_not, hb]
      rw [if_pos (by decide), nI_1])
    (by decide) (z := (r, 0)) ⟨RM_must r, RM_not r, rfl, fun x j => by rw [if_neg (by omega)], fun x j => by rw [if_neg (by omega)]⟩
  exact ⟨MM, XX, by rw [← h1]; exact h4, h2, h3⟩
theorem aB_acc (r : RM) (A1 A2 A3 A4 : Nat → Int32) (MM XX : Nat → Nat → Int32) (v : Int32) : ∃ R, R = RM_s_bars (RM_s_not (RM_s_must (RM_s_stuck (RM_s_on (RM_s_size (RM_s_kind r A1) A2) A3) A4) MM) XX) v ∧ RM_bars R = v ∧ RM_kind R = A1 ∧ RM_size R = A2 ∧ RM_on R = A3 ∧ RM_stuck R = A4 ∧ RM_must R = MM ∧ RM_not R = XX ∧ RM_minutes R = RM_minutes r ∧ RM_movedAll R = RM_movedAll r ∧ RM_seed R = RM_seed r ∧ NE r R := by
  refine ⟨_, rfl, ?_⟩
  unfold NE
  simp only [ne_bars, ne_not, ne_must, ne_stuck, ne_on, ne_size, ne_kind, RM_shelf_s_shelf, RM_shelf_s_rowSort, RM_shelf_s_rowSize, RM_shelf_s_rows, RM_shelf_s_moved1, RM_shelf_s_shown, RM_shelf_s_tape, RM_shelf_s_tapeSize, RM_shelf_s_refused, RM_shelf_s_bars, RM_shelf_s_kind, RM_shelf_s_size, RM_shelf_s_on, RM_shelf_s_stuck, RM_shelf_s_must, RM_shelf_s_not, RM_shelf_s_minutes, RM_shelf_s_movedAll, RM_shelf_s_seed, RM_shelf_s_at, RM_shelf_s_token, RM_shelf_s_from, RM_shelf_s_figures, RM_shelf_s_fault, RM_shelf_s_told, RM_shelf_s_statements, RM_shelf_s_far, RM_shelf_s_queue, RM_shelf_s_queued, RM_shelf_s_parts1, RM_shelf_s_parts2, RM_shelf_s_picturesSum, RM_shelf_s_behindAll, RM_shelf_s_pl, RM_rowSort_s_shelf, RM_rowSort_s_rowSort, RM_rowSort_s_rowSize, RM_rowSort_s_rows, RM_rowSort_s_moved1, RM_rowSort_s_shown, RM_rowSort_s_tape, RM_rowSort_s_tapeSize, RM_rowSort_s_refused, RM_rowSort_s_bars, RM_rowSort_s_kind, RM_rowSort_s_size, RM_rowSort_s_on, RM_rowSort_s_stuck, RM_rowSort_s_must, RM_rowSort_s_not, RM_rowSort_s_minutes, RM_rowSort_s_movedAll, RM_rowSort_s_seed, RM_rowSort_s_at, RM_rowSort_s_token, RM_rowSort_s_from, RM_rowSort_s_figures, RM_rowSort_s_fault, RM_rowSort_s_told, RM_rowSort_s_statements, RM_rowSort_s_far, RM_rowSort_s_queue, RM_rowSort_s_queued, RM_rowSort_s_parts1, RM_rowSort_s_parts2, RM_rowSort_s_picturesSum, RM_rowSort_s_behindAll, RM_rowSort_s_pl, RM_rowSize_s_shelf, RM_rowSize_s_rowSort, RM_rowSize_s_rowSize, RM_rowSize_s_rows, RM_rowSize_s_moved1, RM_rowSize_s_shown, RM_rowSize_s_tape, RM_rowSize_s_tapeSize, RM_rowSize_s_refused, RM_rowSize_s_bars, RM_rowSize_s_kind, RM_rowSize_s_size, RM_rowSize_s_on, RM_rowSize_s_stuck, RM_rowSize_s_must, RM_rowSize_s_not, RM_rowSize_s_minutes, RM_rowSize_s_movedAll, RM_rowSize_s_seed, RM_rowSize_s_at, RM_rowSize_s_token, RM_rowSize_s_from, RM_rowSize_s_figures, RM_rowSize_s_fault, RM_rowSize_s_told, RM_rowSize_s_statements, RM_rowSize_s_far, RM_rowSize_s_queue, RM_rowSize_s_queued, RM_rowSize_s_parts1, RM_rowSize_s_parts2, RM_rowSize_s_picturesSum, RM_rowSize_s_behindAll, RM_rowSize_s_pl, RM_rows_s_shelf, RM_rows_s_rowSort, RM_rows_s_rowSize, RM_rows_s_rows, RM_rows_s_moved1, RM_rows_s_shown, RM_rows_s_tape, RM_rows_s_tapeSize, RM_rows_s_refused, RM_rows_s_bars, RM_rows_s_kind, RM_rows_s_size, RM_rows_s_on, RM_rows_s_stuck, RM_rows_s_must, RM_rows_s_not, RM_rows_s_minutes, RM_rows_s_movedAll, RM_rows_s_seed, RM_rows_s_at, RM_rows_s_token, RM_rows_s_from, RM_rows_s_figures, RM_rows_s_fault, RM_rows_s_told, RM_rows_s_statements, RM_rows_s_far, RM_rows_s_queue, RM_rows_s_queued, RM_rows_s_parts1, RM_rows_s_parts2, RM_rows_s_picturesSum, RM_rows_s_behindAll, RM_rows_s_pl, RM_moved1_s_shelf, RM_moved1_s_rowSort, RM_moved1_s_rowSize, RM_moved1_s_rows, RM_moved1_s_moved1, RM_moved1_s_shown, RM_moved1_s_tape, RM_moved1_s_tapeSize, RM_moved1_s_refused, RM_moved1_s_bars, RM_moved1_s_kind, RM_moved1_s_size, RM_moved1_s_on, RM_moved1_s_stuck, RM_moved1_s_must, RM_moved1_s_not, RM_moved1_s_minutes, RM_moved1_s_movedAll, RM_moved1_s_seed, RM_moved1_s_at, RM_moved1_s_token, RM_moved1_s_from, RM_moved1_s_figures, RM_moved1_s_fault, RM_moved1_s_told, RM_moved1_s_statements, RM_moved1_s_far, RM_moved1_s_queue, RM_moved1_s_queued, RM_moved1_s_parts1, RM_moved1_s_parts2, RM_moved1_s_picturesSum, RM_moved1_s_behindAll, RM_moved1_s_pl, RM_shown_s_shelf, RM_shown_s_rowSort, RM_shown_s_rowSize, RM_shown_s_rows, RM_shown_s_moved1, RM_shown_s_shown, RM_shown_s_tape, RM_shown_s_tapeSize, RM_shown_s_refused, RM_shown_s_bars, RM_shown_s_kind, RM_shown_s_size, RM_shown_s_on, RM_shown_s_stuck, RM_shown_s_must, RM_shown_s_not, RM_shown_s_minutes, RM_shown_s_movedAll, RM_shown_s_seed, RM_shown_s_at, RM_shown_s_token, RM_shown_s_from, RM_shown_s_figures, RM_shown_s_fault, RM_shown_s_told, RM_shown_s_statements, RM_shown_s_far, RM_shown_s_queue, RM_shown_s_queued, RM_shown_s_parts1, RM_shown_s_parts2, RM_shown_s_picturesSum, RM_shown_s_behindAll, RM_shown_s_pl, RM_tape_s_shelf, RM_tape_s_rowSort, RM_tape_s_rowSize, RM_tape_s_rows, RM_tape_s_moved1, RM_tape_s_shown, RM_tape_s_tape, RM_tape_s_tapeSize, RM_tape_s_refused, RM_tape_s_bars, RM_tape_s_kind, RM_tape_s_size, RM_tape_s_on, RM_tape_s_stuck, RM_tape_s_must, RM_tape_s_not, RM_tape_s_minutes, RM_tape_s_movedAll, RM_tape_s_seed, RM_tape_s_at, RM_tape_s_token, RM_tape_s_from, RM_tape_s_figures, RM_tape_s_fault, RM_tape_s_told, RM_tape_s_statements, RM_tape_s_far, RM_tape_s_queue, RM_tape_s_queued, RM_tape_s_parts1, RM_tape_s_parts2, RM_tape_s_picturesSum, RM_tape_s_behindAll, RM_tape_s_pl, RM_tapeSize_s_shelf, RM_tapeSize_s_rowSort, RM_tapeSize_s_rowSize, RM_tapeSize_s_rows, RM_tapeSize_s_moved1, RM_tapeSize_s_shown, RM_tapeSize_s_tape, RM_tapeSize_s_tapeSize, RM_tapeSize_s_refused, RM_tapeSize_s_bars, RM_tapeSize_s_kind, RM_tapeSize_s_size, RM_tapeSize_s_on, RM_tapeSize_s_stuck, RM_tapeSize_s_must, RM_tapeSize_s_not, RM_tapeSize_s_minutes, RM_tapeSize_s_movedAll, RM_tapeSize_s_seed, RM_tapeSize_s_at, RM_tapeSize_s_token, RM_tapeSize_s_from, RM_tapeSize_s_figures, RM_tapeSize_s_fault, RM_tapeSize_s_told, RM_tapeSize_s_statements, RM_tapeSize_s_far, RM_tapeSize_s_queue, RM_tapeSize_s_queued, RM_tapeSize_s_parts1, RM_tapeSize_s_parts2, RM_tapeSize_s_picturesSum, RM_tapeSize_s_behindAll, RM_tapeSize_s_pl, RM_refused_s_shelf, RM_refused_s_rowSort, RM_refused_s_rowSize, RM_refused_s_rows, RM_refused_s_moved1, RM_refused_s_shown, RM_refused_s_tape, RM_refused_s_tapeSize, RM_refused_s_refused, RM_refused_s_bars, RM_refused_s_kind, RM_refused_s_size, RM_refused_s_on, RM_refused_s_stuck, RM_refused_s_must, RM_refused_s_not, RM_refused_s_minutes, RM_refused_s_movedAll, RM_refused_s_seed, RM_refused_s_at, RM_refused_s_token, RM_refused_s_from, RM_refused_s_figures, RM_refused_s_fault, RM_refused_s_told, RM_refused_s_statements, RM_refused_s_far, RM_refused_s_queue, RM_refused_s_queued, RM_refused_s_parts1, RM_refused_s_parts2, RM_refused_s_picturesSum, RM_refused_s_behindAll, RM_refused_s_pl, RM_bars_s_shelf, RM_bars_s_rowSort, RM_bars_s_rowSize, RM_bars_s_rows, RM_bars_s_moved1, RM_bars_s_shown, RM_bars_s_tape, RM_bars_s_tapeSize, RM_bars_s_refused, RM_bars_s_bars, RM_bars_s_kind, RM_bars_s_size, RM_bars_s_on, RM_bars_s_stuck, RM_bars_s_must, RM_bars_s_not, RM_bars_s_minutes, RM_bars_s_movedAll, RM_bars_s_seed, RM_bars_s_at, RM_bars_s_token, RM_bars_s_from, RM_bars_s_figures, RM_bars_s_fault, RM_bars_s_told, RM_bars_s_statements, RM_bars_s_far, RM_bars_s_queue, RM_bars_s_queued, RM_bars_s_parts1, RM_bars_s_parts2, RM_bars_s_picturesSum, RM_bars_s_behindAll, RM_bars_s_pl, RM_kind_s_shelf, RM_kind_s_rowSort, RM_kind_s_rowSize, RM_kind_s_rows, RM_kind_s_moved1, RM_kind_s_shown, RM_kind_s_tape, RM_kind_s_tapeSize, RM_kind_s_refused, RM_kind_s_bars, RM_kind_s_kind, RM_kind_s_size, RM_kind_s_on, RM_kind_s_stuck, RM_kind_s_must, RM_kind_s_not, RM_kind_s_minutes, RM_kind_s_movedAll, RM_kind_s_seed, RM_kind_s_at, RM_kind_s_token, RM_kind_s_from, RM_kind_s_figures, RM_kind_s_fault, RM_kind_s_told, RM_kind_s_statements, RM_kind_s_far, RM_kind_s_queue, RM_kind_s_queued, RM_kind_s_parts1, RM_kind_s_parts2, RM_kind_s_picturesSum, RM_kind_s_behindAll, RM_kind_s_pl, RM_size_s_shelf, RM_size_s_rowSort, RM_size_s_rowSize, RM_size_s_rows, RM_size_s_moved1, RM_size_s_shown, RM_size_s_tape, RM_size_s_tapeSize, RM_size_s_refused, RM_size_s_bars, RM_size_s_kind, RM_size_s_size, RM_size_s_on, RM_size_s_stuck, RM_size_s_must, RM_size_s_not, RM_size_s_minutes, RM_size_s_movedAll, RM_size_s_seed, RM_size_s_at, RM_size_s_token, RM_size_s_from, RM_size_s_figures, RM_size_s_fault, RM_size_s_told, RM_size_s_statements, RM_size_s_far, RM_size_s_queue, RM_size_s_queued, RM_size_s_parts1, RM_size_s_parts2, RM_size_s_picturesSum, RM_size_s_behindAll, RM_size_s_pl, RM_on_s_shelf, RM_on_s_rowSort, RM_on_s_rowSize, RM_on_s_rows, RM_on_s_moved1, RM_on_s_shown, RM_on_s_tape, RM_on_s_tapeSize, RM_on_s_refused, RM_on_s_bars, RM_on_s_kind, RM_on_s_size, RM_on_s_on, RM_on_s_stuck, RM_on_s_must, RM_on_s_not, RM_on_s_minutes, RM_on_s_movedAll, RM_on_s_seed, RM_on_s_at, RM_on_s_token, RM_on_s_from, RM_on_s_figures, RM_on_s_fault, RM_on_s_told, RM_on_s_statements, RM_on_s_far, RM_on_s_queue, RM_on_s_queued, RM_on_s_parts1, RM_on_s_parts2, RM_on_s_picturesSum, RM_on_s_behindAll, RM_on_s_pl, RM_stuck_s_shelf, RM_stuck_s_rowSort, RM_stuck_s_rowSize, RM_stuck_s_rows, RM_stuck_s_moved1, RM_stuck_s_shown, RM_stuck_s_tape, RM_stuck_s_tapeSize, RM_stuck_s_refused, RM_stuck_s_bars, RM_stuck_s_kind, RM_stuck_s_size, RM_stuck_s_on, RM_stuck_s_stuck, RM_stuck_s_must, RM_stuck_s_not, RM_stuck_s_minutes, RM_stuck_s_movedAll, RM_stuck_s_seed, RM_stuck_s_at, RM_stuck_s_token, RM_stuck_s_from, RM_stuck_s_figures, RM_stuck_s_fault, RM_stuck_s_told, RM_stuck_s_statements, RM_stuck_s_far, RM_stuck_s_queue, RM_stuck_s_queued, RM_stuck_s_parts1, RM_stuck_s_parts2, RM_stuck_s_picturesSum, RM_stuck_s_behindAll, RM_stuck_s_pl, RM_must_s_shelf, RM_must_s_rowSort, RM_must_s_rowSize, RM_must_s_rows, RM_must_s_moved1, RM_must_s_shown, RM_must_s_tape, RM_must_s_tapeSize, RM_must_s_refused, RM_must_s_bars, RM_must_s_kind, RM_must_s_size, RM_must_s_on, RM_must_s_stuck, RM_must_s_must, RM_must_s_not, RM_must_s_minutes, RM_must_s_movedAll, RM_must_s_seed, RM_must_s_at, RM_must_s_token, RM_must_s_from, RM_must_s_figures, RM_must_s_fault, RM_must_s_told, RM_must_s_statements, RM_must_s_far, RM_must_s_queue, RM_must_s_queued, RM_must_s_parts1, RM_must_s_parts2, RM_must_s_picturesSum, RM_must_s_behindAll, RM_must_s_pl, RM_not_s_shelf, RM_not_s_rowSort, RM_not_s_rowSize, RM_not_s_rows, RM_not_s_moved1, RM_not_s_shown, RM_not_s_tape, RM_not_s_tapeSize, RM_not_s_refused, RM_not_s_bars, RM_not_s_kind, RM_not_s_size, RM_not_s_on, RM_not_s_stuck, RM_not_s_must, RM_not_s_not, RM_not_s_minutes, RM_not_s_movedAll, RM_not_s_seed, RM_not_s_at, RM_not_s_token, RM_not_s_from, RM_not_s_figures, RM_not_s_fault, RM_not_s_told, RM_not_s_statements, RM_not_s_far, RM_not_s_queue, RM_not_s_queued, RM_not_s_parts1, RM_not_s_parts2, RM_not_s_picturesSum, RM_not_s_behindAll, RM_not_s_pl, RM_minutes_s_shelf, RM_minutes_s_rowSort, RM_minutes_s_rowSize, RM_minutes_s_rows, RM_minutes_s_moved1, RM_minutes_s_shown, RM_minutes_s_tape, RM_minutes_s_tapeSize, RM_minutes_s_refused, RM_minutes_s_bars, RM_minutes_s_kind, RM_minutes_s_size, RM_minutes_s_on, RM_minutes_s_stuck, RM_minutes_s_must, RM_minutes_s_not, RM_minutes_s_minutes, RM_minutes_s_movedAll, RM_minutes_s_seed, RM_minutes_s_at, RM_minutes_s_token, RM_minutes_s_from, RM_minutes_s_figures, RM_minutes_s_fault, RM_minutes_s_told, RM_minutes_s_statements, RM_minutes_s_far, RM_minutes_s_queue, RM_minutes_s_queued, RM_minutes_s_parts1, RM_minutes_s_parts2, RM_minutes_s_picturesSum, RM_minutes_s_behindAll, RM_minutes_s_pl, RM_movedAll_s_shelf, RM_movedAll_s_rowSort, RM_movedAll_s_rowSize, RM_movedAll_s_rows, RM_movedAll_s_moved1, RM_movedAll_s_shown, RM_movedAll_s_tape, RM_movedAll_s_tapeSize, RM_movedAll_s_refused, RM_movedAll_s_bars, RM_movedAll_s_kind, RM_movedAll_s_size, RM_movedAll_s_on, RM_movedAll_s_stuck, RM_movedAll_s_must, RM_movedAll_s_not, RM_movedAll_s_minutes, RM_movedAll_s_movedAll, RM_movedAll_s_seed, RM_movedAll_s_at, RM_movedAll_s_token, RM_movedAll_s_from, RM_movedAll_s_figures, RM_movedAll_s_fault, RM_movedAll_s_told, RM_movedAll_s_statements, RM_movedAll_s_far, RM_movedAll_s_queue, RM_movedAll_s_queued, RM_movedAll_s_parts1, RM_movedAll_s_parts2, RM_movedAll_s_picturesSum, RM_movedAll_s_behindAll, RM_movedAll_s_pl, RM_seed_s_shelf, RM_seed_s_rowSort, RM_seed_s_rowSize, RM_seed_s_rows, RM_seed_s_moved1, RM_seed_s_shown, RM_seed_s_tape, RM_seed_s_tapeSize, RM_seed_s_refused, RM_seed_s_bars, RM_seed_s_kind, RM_seed_s_size, RM_seed_s_on, RM_seed_s_stuck, RM_seed_s_must, RM_seed_s_not, RM_seed_s_minutes, RM_seed_s_movedAll, RM_seed_s_seed, RM_seed_s_at, RM_seed_s_token, RM_seed_s_from, RM_seed_s_figures, RM_seed_s_fault, RM_seed_s_told, RM_seed_s_statements, RM_seed_s_far, RM_seed_s_queue, RM_seed_s_queued, RM_seed_s_parts1, RM_seed_s_parts2, RM_seed_s_picturesSum, RM_seed_s_behindAll, RM_seed_s_pl, RM_at_s_shelf, RM_at_s_rowSort, RM_at_s_rowSize, RM_at_s_rows, RM_at_s_moved1, RM_at_s_shown, RM_at_s_tape, RM_at_s_tapeSize, RM_at_s_refused, RM_at_s_bars, RM_at_s_kind, RM_at_s_size, RM_at_s_on, RM_at_s_stuck, RM_at_s_must, RM_at_s_not, RM_at_s_minutes, RM_at_s_movedAll, RM_at_s_seed, RM_at_s_at, RM_at_s_token, RM_at_s_from, RM_at_s_figures, RM_at_s_fault, RM_at_s_told, RM_at_s_statements, RM_at_s_far, RM_at_s_queue, RM_at_s_queued, RM_at_s_parts1, RM_at_s_parts2, RM_at_s_picturesSum, RM_at_s_behindAll, RM_at_s_pl, RM_token_s_shelf, RM_token_s_rowSort, RM_token_s_rowSize, RM_token_s_rows, RM_token_s_moved1, RM_token_s_shown, RM_token_s_tape, RM_token_s_tapeSize, RM_token_s_refused, RM_token_s_bars, RM_token_s_kind, RM_token_s_size, RM_token_s_on, RM_token_s_stuck, RM_token_s_must, RM_token_s_not, RM_token_s_minutes, RM_token_s_movedAll, RM_token_s_seed, RM_token_s_at, RM_token_s_token, RM_token_s_from, RM_token_s_figures, RM_token_s_fault, RM_token_s_told, RM_token_s_statements, RM_token_s_far, RM_token_s_queue, RM_token_s_queued, RM_token_s_parts1, RM_token_s_parts2, RM_token_s_picturesSum, RM_token_s_behindAll, RM_token_s_pl, RM_from_s_shelf, RM_from_s_rowSort, RM_from_s_rowSize, RM_from_s_rows, RM_from_s_moved1, RM_from_s_shown, RM_from_s_tape, RM_from_s_tapeSize, RM_from_s_refused, RM_from_s_bars, RM_from_s_kind, RM_from_s_size, RM_from_s_on, RM_from_s_stuck, RM_from_s_must, RM_from_s_not, RM_from_s_minutes, RM_from_s_movedAll, RM_from_s_seed, RM_from_s_at, RM_from_s_token, RM_from_s_from, RM_from_s_figures, RM_from_s_fault, RM_from_s_told, RM_from_s_statements, RM_from_s_far, RM_from_s_queue, RM_from_s_queued, RM_from_s_parts1, RM_from_s_parts2, RM_from_s_picturesSum, RM_from_s_behindAll, RM_from_s_pl, RM_figures_s_shelf, RM_figures_s_rowSort, RM_figures_s_rowSize, RM_figures_s_rows, RM_figures_s_moved1, RM_figures_s_shown, RM_figures_s_tape, RM_figures_s_tapeSize, RM_figures_s_refused, RM_figures_s_bars, RM_figures_s_kind, RM_figures_s_size, RM_figures_s_on, RM_figures_s_stuck, RM_figures_s_must, RM_figures_s_not, RM_figures_s_minutes, RM_figures_s_movedAll, RM_figures_s_seed, RM_figures_s_at, RM_figures_s_token, RM_figures_s_from, RM_figures_s_figures, RM_figures_s_fault, RM_figures_s_told, RM_figures_s_statements, RM_figures_s_far, RM_figures_s_queue, RM_figures_s_queued, RM_figures_s_parts1, RM_figures_s_parts2, RM_figures_s_picturesSum, RM_figures_s_behindAll, RM_figures_s_pl, RM_fault_s_shelf, RM_fault_s_rowSort, RM_fault_s_rowSize, RM_fault_s_rows, RM_fault_s_moved1, RM_fault_s_shown, RM_fault_s_tape, RM_fault_s_tapeSize, RM_fault_s_refused, RM_fault_s_bars, RM_fault_s_kind, RM_fault_s_size, RM_fault_s_on, RM_fault_s_stuck, RM_fault_s_must, RM_fault_s_not, RM_fault_s_minutes, RM_fault_s_movedAll, RM_fault_s_seed, RM_fault_s_at, RM_fault_s_token, RM_fault_s_from, RM_fault_s_figures, RM_fault_s_fault, RM_fault_s_told, RM_fault_s_statements, RM_fault_s_far, RM_fault_s_queue, RM_fault_s_queued, RM_fault_s_parts1, RM_fault_s_parts2, RM_fault_s_picturesSum, RM_fault_s_behindAll, RM_fault_s_pl, RM_told_s_shelf, RM_told_s_rowSort, RM_told_s_rowSize, RM_told_s_rows, RM_told_s_moved1, RM_told_s_shown, RM_told_s_tape, RM_told_s_tapeSize, RM_told_s_refused, RM_told_s_bars, RM_told_s_kind, RM_told_s_size, RM_told_s_on, RM_told_s_stuck, RM_told_s_must, RM_told_s_not, RM_told_s_minutes, RM_told_s_movedAll, RM_told_s_seed, RM_told_s_at, RM_told_s_token, RM_told_s_from, RM_told_s_figures, RM_told_s_fault, RM_told_s_told, RM_told_s_statements, RM_told_s_far, RM_told_s_queue, RM_told_s_queued, RM_told_s_parts1, RM_told_s_parts2, RM_told_s_picturesSum, RM_told_s_behindAll, RM_told_s_pl, RM_statements_s_shelf, RM_statements_s_rowSort, RM_statements_s_rowSize, RM_statements_s_rows, RM_statements_s_moved1, RM_statements_s_shown, RM_statements_s_tape, RM_statements_s_tapeSize, RM_statements_s_refused, RM_statements_s_bars, RM_statements_s_kind, RM_statements_s_size, RM_statements_s_on, RM_statements_s_stuck, RM_statements_s_must, RM_statements_s_not, RM_statements_s_minutes, RM_statements_s_movedAll, RM_statements_s_seed, RM_statements_s_at, RM_statements_s_token, RM_statements_s_from, RM_statements_s_figures, RM_statements_s_fault, RM_statements_s_told, RM_statements_s_statements, RM_statements_s_far, RM_statements_s_queue, RM_statements_s_queued, RM_statements_s_parts1, RM_statements_s_parts2, RM_statements_s_picturesSum, RM_statements_s_behindAll, RM_statements_s_pl, RM_far_s_shelf, RM_far_s_rowSort, RM_far_s_rowSize, RM_far_s_rows, RM_far_s_moved1, RM_far_s_shown, RM_far_s_tape, RM_far_s_tapeSize, RM_far_s_refused, RM_far_s_bars, RM_far_s_kind, RM_far_s_size, RM_far_s_on, RM_far_s_stuck, RM_far_s_must, RM_far_s_not, RM_far_s_minutes, RM_far_s_movedAll, RM_far_s_seed, RM_far_s_at, RM_far_s_token, RM_far_s_from, RM_far_s_figures, RM_far_s_fault, RM_far_s_told, RM_far_s_statements, RM_far_s_far, RM_far_s_queue, RM_far_s_queued, RM_far_s_parts1, RM_far_s_parts2, RM_far_s_picturesSum, RM_far_s_behindAll, RM_far_s_pl, RM_queue_s_shelf, RM_queue_s_rowSort, RM_queue_s_rowSize, RM_queue_s_rows, RM_queue_s_moved1, RM_queue_s_shown, RM_queue_s_tape, RM_queue_s_tapeSize, RM_queue_s_refused, RM_queue_s_bars, RM_queue_s_kind, RM_queue_s_size, RM_queue_s_on, RM_queue_s_stuck, RM_queue_s_must, RM_queue_s_not, RM_queue_s_minutes, RM_queue_s_movedAll, RM_queue_s_seed, RM_queue_s_at, RM_queue_s_token, RM_queue_s_from, RM_queue_s_figures, RM_queue_s_fault, RM_queue_s_told, RM_queue_s_statements, RM_queue_s_far, RM_queue_s_queue, RM_queue_s_queued, RM_queue_s_parts1, RM_queue_s_parts2, RM_queue_s_picturesSum, RM_queue_s_behindAll, RM_queue_s_pl, RM_queued_s_shelf, RM_queued_s_rowSort, RM_queued_s_rowSize, RM_queued_s_rows, RM_queued_s_moved1, RM_queued_s_shown, RM_queued_s_tape, RM_queued_s_tapeSize, RM_queued_s_refused, RM_queued_s_bars, RM_queued_s_kind, RM_queued_s_size, RM_queued_s_on, RM_queued_s_stuck, RM_queued_s_must, RM_queued_s_not, RM_queued_s_minutes, RM_queued_s_movedAll, RM_queued_s_seed, RM_queued_s_at, RM_queued_s_token, RM_queued_s_from, RM_queued_s_figures, RM_queued_s_fault, RM_queued_s_told, RM_queued_s_statements, RM_queued_s_far, RM_queued_s_queue, RM_queued_s_queued, RM_queued_s_parts1, RM_queued_s_parts2, RM_queued_s_picturesSum, RM_queued_s_behindAll, RM_queued_s_pl, RM_parts1_s_shelf, RM_parts1_s_rowSort, RM_parts1_s_rowSize, RM_parts1_s_rows, RM_parts1_s_moved1, RM_parts1_s_shown, RM_parts1_s_tape, RM_parts1_s_tapeSize, RM_parts1_s_refused, RM_parts1_s_bars, RM_parts1_s_kind, RM_parts1_s_size, RM_parts1_s_on, RM_parts1_s_stuck, RM_parts1_s_must, RM_parts1_s_not, RM_parts1_s_minutes, RM_parts1_s_movedAll, RM_parts1_s_seed, RM_parts1_s_at, RM_parts1_s_token, RM_parts1_s_from, RM_parts1_s_figures, RM_parts1_s_fault, RM_parts1_s_told, RM_parts1_s_statements, RM_parts1_s_far, RM_parts1_s_queue, RM_parts1_s_queued, RM_parts1_s_parts1, RM_parts1_s_parts2, RM_parts1_s_picturesSum, RM_parts1_s_behindAll, RM_parts1_s_pl, RM_parts2_s_shelf, RM_parts2_s_rowSort, RM_parts2_s_rowSize, RM_parts2_s_rows, RM_parts2_s_moved1, RM_parts2_s_shown, RM_parts2_s_tape, RM_parts2_s_tapeSize, RM_parts2_s_refused, RM_parts2_s_bars, RM_parts2_s_kind, RM_parts2_s_size, RM_parts2_s_on, RM_parts2_s_stuck, RM_parts2_s_must, RM_parts2_s_not, RM_parts2_s_minutes, RM_parts2_s_movedAll, RM_parts2_s_seed, RM_parts2_s_at, RM_parts2_s_token, RM_parts2_s_from, RM_parts2_s_figures, RM_parts2_s_fault, RM_parts2_s_told, RM_parts2_s_statements, RM_parts2_s_far, RM_parts2_s_queue, RM_parts2_s_queued, RM_parts2_s_parts1, RM_parts2_s_parts2, RM_parts2_s_picturesSum, RM_parts2_s_behindAll, RM_parts2_s_pl, RM_picturesSum_s_shelf, RM_picturesSum_s_rowSort, RM_picturesSum_s_rowSize, RM_picturesSum_s_rows, RM_picturesSum_s_moved1, RM_picturesSum_s_shown, RM_picturesSum_s_tape, RM_picturesSum_s_tapeSize, RM_picturesSum_s_refused, RM_picturesSum_s_bars, RM_picturesSum_s_kind, RM_picturesSum_s_size, RM_picturesSum_s_on, RM_picturesSum_s_stuck, RM_picturesSum_s_must, RM_picturesSum_s_not, RM_picturesSum_s_minutes, RM_picturesSum_s_movedAll, RM_picturesSum_s_seed, RM_picturesSum_s_at, RM_picturesSum_s_token, RM_picturesSum_s_from, RM_picturesSum_s_figures, RM_picturesSum_s_fault, RM_picturesSum_s_told, RM_picturesSum_s_statements, RM_picturesSum_s_far, RM_picturesSum_s_queue, RM_picturesSum_s_queued, RM_picturesSum_s_parts1, RM_picturesSum_s_parts2, RM_picturesSum_s_picturesSum, RM_picturesSum_s_behindAll, RM_picturesSum_s_pl, RM_behindAll_s_shelf, RM_behindAll_s_rowSort, RM_behindAll_s_rowSize, RM_behindAll_s_rows, RM_behindAll_s_moved1, RM_behindAll_s_shown, RM_behindAll_s_tape, RM_behindAll_s_tapeSize, RM_behindAll_s_refused, RM_behindAll_s_bars, RM_behindAll_s_kind, RM_behindAll_s_size, RM_behindAll_s_on, RM_behindAll_s_stuck, RM_behindAll_s_must, RM_behindAll_s_not, RM_behindAll_s_minutes, RM_behindAll_s_movedAll, RM_behindAll_s_seed, RM_behindAll_s_at, RM_behindAll_s_token, RM_behindAll_s_from, RM_behindAll_s_figures, RM_behindAll_s_fault, RM_behindAll_s_told, RM_behindAll_s_statements, RM_behindAll_s_far, RM_behindAll_s_queue, RM_behindAll_s_queued, RM_behindAll_s_parts1, RM_behindAll_s_parts2, RM_behindAll_s_picturesSum, RM_behindAll_s_behindAll, RM_behindAll_s_pl, RM_pl_s_shelf, RM_pl_s_rowSort, RM_pl_s_rowSize, RM_pl_s_rows, RM_pl_s_moved1, RM_pl_s_shown, RM_pl_s_tape, RM_pl_s_tapeSize, RM_pl_s_refused, RM_pl_s_bars, RM_pl_s_kind, RM_pl_s_size, RM_pl_s_on, RM_pl_s_stuck, RM_pl_s_must, RM_pl_s_not, RM_pl_s_minutes, RM_pl_s_movedAll, RM_pl_s_seed, RM_pl_s_at, RM_pl_s_token, RM_pl_s_from, RM_pl_s_figures, RM_pl_s_fault, RM_pl_s_told, RM_pl_s_statements, RM_pl_s_far, RM_pl_s_queue, RM_pl_s_queued, RM_pl_s_parts1, RM_pl_s_parts2, RM_pl_s_picturesSum, RM_pl_s_behindAll, RM_pl_s_pl, and_self]
theorem R_addBar {rm : RM} {a : AE} {k z : Nat} (h : RmA rm a) (hn : aN a < 4) (hz : z ≤ 10) : ∃ rm', M_X6_addBar NN rm (nI k) (nI z) = some rm' ∧ RmA rm' (aB a k z) ∧ NE rm rm' := by
  obtain ⟨g1, g2, g3, g4, g5⟩ := h
  have hcl : (nI (aN a)).toNatClampNeg = aN a := nI_clamp (by omega)
  unfold M_X6_addBar
  simp only [RM_bars_s_kind, RM_bars_s_size, RM_bars_s_on, RM_size_s_kind, RM_on_s_size, RM_on_s_kind, RM_stuck_s_on, RM_stuck_s_size, RM_stuck_s_kind, g1, hcl, if_neg (ix hn (show 4 < 2 ^ 31 by omega)), sh_1 (show z < 31 by omega), nI_s1 (Nat.one_le_two_pow (n := z))]
  obtain ⟨MM, XX, h1, h2, h3⟩ := R_addLoop (r := RM_s_stuck (RM_s_on (RM_s_size (RM_s_kind rm (upd (RM_kind rm) (aN a) (nI k))) (upd (RM_size rm) (aN a) (nI z))) (upd (RM_on rm) (aN a) (nI (2 ^ z - 1)))) (upd (RM_stuck rm) (aN a) 0)) (p1 := nI k) (p2 := nI z) (n := aN a) (by simp only [RM_bars_s_stuck, RM_bars_s_on, RM_bars_s_size, RM_bars_s_kind, g1]) hn
  obtain ⟨R, r0, r1, r2, r3, r4, r5, r6, r7, r8, r9, r10, r11⟩ := aB_acc rm (upd (RM_kind rm) (aN a) (nI k)) (upd (RM_size rm) (aN a) (nI z)) (upd (RM_on rm) (aN a) (nI (2 ^ z - 1))) (upd (RM_stuck rm) (aN a) 0) MM XX (nI (aN a + 1))
  simp only [RM_must_s_stuck, RM_must_s_on, RM_must_s_size, RM_must_s_kind] at h2
  simp only [RM_not_s_stuck, RM_not_s_on, RM_not_s_size, RM_not_s_kind] at h3
  rw [← r0] at h1
  refine ⟨R, h1, ?_, r11⟩
  unfold RmA
  rw [r1, r2, r3, r4, r5, r6, r7, r8, r9, r10]
  refine ⟨rfl, fun b hb => ?_, g3, g4, g5⟩
  obtain ⟨k1, k2, k3, k4, k5⟩ := g2 b hb
  refine ⟨upd_vu k1, upd_vu k2, upd_vu k3, upd_vu (v := 0) k4, fun r hr => ?_⟩
  show MM b r = nI (if b = aN a then 0 else aM a b r) ∧ XX b r = nI (if b = aN a then 0 else aX a b r)
  rw [h2, h3]
  by_cases e : b = aN a
  · rw [if_pos e, if_pos e, if_pos ⟨e, hr⟩, if_pos ⟨e, hr⟩]
    exact ⟨rfl, rfl⟩
  · rw [if_neg e, if_neg e, if_neg (fun z => e z.1), if_neg (fun z => e z.1)]
    exact k5 r hr
theorem of_int {p : Int32} (h : 0 ≤ p.toInt) : ∃ n, n < 2 ^ 31 ∧ p = nI n := nI_of (by rw [lt_toInt, t_0]; omega)
theorem pS_bar : S_bar INV := by
  intro ro nw kp dr sh tp lw se rm K T hI p1 p2
  obtain ⟨a, h1, h2, h3, h4, h5, h6, h7, h8⟩ := id hI
  have hn := h3.1
  have ej : M_X5_bar_j20 NN p1 p2 (ro, nw) = some (-2, xRf ro 0, nw) := by
    unfold M_X5_bar_j20
    rw [xRf_ok.1]
    rfl
  have ej2 : M_X6_bar_j24 NN p1 p2 rm = some (-2, mRf rm 0) := by
    unfold M_X6_bar_j24
    rw [mRf_ok.1]
    rfl
  unfold M_X5_bar M_X6_bar
  rw [ej, ej2]
  by_cases hp : (0 ≤ p1.toInt ∧ p1.toInt ≤ 5) ∧ 1 ≤ p2.toInt ∧ p2.toInt ≤ 10
  · obtain ⟨k, hk, rfl⟩ := of_int hp.1.1
    obtain ⟨z, hz, rfl⟩ := of_int (p := p2) (by omega)
    rw [nI_toInt hk, nI_toInt hz] at hp
    rw [if_neg (nI_pos hk), if_neg (by rw [q_gt_5 hk]; omega), if_neg (by rw [q_lt_1 hz]; omega), if_pos (by rw [q_le_10 hz]; omega), R_k1 (by rw [nI_toInt hk]; exact hp.1.1) (by rw [nI_toInt hk]; exact hp.1.2), Option.bind_some, if_neg (by decide), R_k1 (by rw [nI_toInt hz]; exact hp.2.1) (by rw [nI_toInt hz]; exact hp.2.2), Option.bind_some, if_pos (by decide)]
    unfold M_X0_hasMostBars
    rw [h1.1, h2.1]
    by_cases e : aN a = 4
    · rw [e, if_neg (by decide), Option.bind_some, if_neg (by decide), xRf_ok.2.2.2.2, if_neg (show ¬ ¬ nI 4 = (4 : Int32) by decide), mRf_ok.2.2.2.2]
      exact ⟨_, rfl, _, rfl, rfl, hI.rf 4⟩
    · obtain ⟨ev', c1, c2⟩ := C_addBar (k := k) h1 (by omega) (z := z) (by omega)
      obtain ⟨rm', r1, r2, r3⟩ := R_addBar (k := k) h2 (by omega) (z := z) (by omega)
      rw [if_pos (by rw [q_lt_4 (by omega)]; omega), Option.bind_some, if_pos rfl, c1, if_pos (by rw [q_eq_4 (by omega)]; exact e), r1]
      refine ⟨_, rfl, _, rfl, ?_, aB a k z, c2, r2, aB_ok h3 (by omega) (by omega) (by omega) (by omega), h4.ne r3 (Nat.le_succ _), h5.ne r3, h6.ne r3, h7, h8.ne r3⟩
      show nI (aN a) = RM_bars rm' - 1
      rw [r2.1]
      exact (nI_s1 (n := aN a + 1) (by omega)).symm
  · refine ⟨(-2, xRf ro 0, nw), ?_, (-2, mRf rm 0), ?_, rfl, hI.rf 0⟩
    · simp only [lt_toInt, le_toInt, t_0, t_1, t_2, t_3, t_4, t_5, t_7, t_8, t_9, t_10, t_12, t_16, t_20, t_40, t_60, t_99, t_255, t_256, t_250, t_99999]
      repeat' first | rfl | (exfalso; omega) | split
    · by_cases g : 0 ≤ p1.toInt ∧ p1.toInt ≤ 5
      · rw [R_k1 (l := 0) (z := 5) g.1 g.2, Option.bind_some, if_neg (by decide), R_k0 (l := 1) (z := 10) (fun g2 => hp ⟨g, g2⟩)]
        rfl
      · rw [R_k0 (l := 0) (z := 5) g]
        rfl
theorem pS_wipe : S_wipe INV := by
  intro ro nw kp dr sh tp lw se rm K T hI _
  obtain ⟨a, h1, h2, h3, h4, ⟨z, t1, t2, t3, t4⟩, h6, h7, h8⟩ := id hI
  refine ⟨_, rfl, _, rfl, ?_, a, h1, h2, h3, h4, ⟨0, by omega, rfl, rfl, fun i hi => absurd hi (Nat.not_lt_zero i)⟩, h6, h7, h8⟩
  show TP_size tp = RM_tapeSize rm
  rw [t2, t3]
theorem pS_feed : S_feed INV := by
  intro ro nw kp dr sh tp lw se rm K T hI p1
  obtain ⟨a, h1, h2, h3, h4, ⟨z, t1, t2, t3, t4⟩, h6, h7, h8⟩ := id hI
  have ej : M_X5_feed_j11 NN p1 (ro, tp) = some (-2, xRf ro 0, tp) := by
    unfold M_X5_feed_j11
    rw [xRf_ok.1]
    rfl
  unfold M_X5_feed M_X6_feed
  rw [ej]
  by_cases hp : vI 256 p1
  · obtain ⟨c, hc, rfl⟩ := hp
    rw [if_neg (nI_pos (by omega)), if_pos (by rw [q_lt_256 (by omega)]; exact hc), R_q1 (k := 256) ⟨c, hc, rfl⟩ rfl (by omega), Option.bind_some, if_pos (by decide)]
    unfold M_X4_isFull M_X4_append M_X4_append_j37
    rw [t2, t3]
    by_cases e : z = 250
    · rw [e, if_neg (by decide), Option.bind_some, if_neg (by decide), xRf_ok.2.2.2.2, if_neg (show ¬ ¬ nI 250 = (250 : Int32) by decide), mRf_ok.2.2.2.2]
      exact ⟨_, rfl, _, rfl, rfl, hI.rf 4⟩
    · have b1 : ∀ t v, TP_size (TP_s_bytes t v) = TP_size t := fun _ _ => rfl
      rw [if_pos (by rw [q_lt_250 (by omega)]; omega), Option.bind_some, if_pos rfl, if_neg (nI_pos (by omega)), if_neg (by rw [q_ge_250 (by omega)]; omega), if_neg (nI_in (by omega) (by omega)), if_pos (by rw [q_eq_250 (by omega)]; exact e), if_neg (nI_in (by omega) (by omega)), nI_clamp (by omega), b1, t2, nI_1]
      refine ⟨_, rfl, _, rfl, rfl, a, h1, h2, h3, h4, ⟨z + 1, by omega, rfl, rfl, fun i hi => ?_⟩, h6, h7, h8⟩
      show ∃ x, x < 256 ∧ upd (TP_bytes tp) z (nI c) i = nI x ∧ upd (RM_tape rm) z (nI c) i = nI x
      by_cases e2 : i = z
      · subst e2
        exact ⟨c, hc, upd_eq _ _ _, upd_eq _ _ _⟩
      · rw [upd_ne e2, upd_ne e2]
        exact t4 i (by omega)
  · rw [R_q0 (k := 256) hp rfl (by omega), Option.bind_some, if_neg (show ¬ ¬ (0 : Int32) = 0 by decide), mRf_ok.1]
    refine ⟨(-2, xRf ro 0, tp), ?_, (-2, mRf rm 0), rfl, rfl, hI.rf 0⟩
    rw [vI_int (by omega)] at hp
    simp only [lt_toInt, le_toInt, t_0, t_1, t_2, t_3, t_4, t_5, t_7, t_8, t_9, t_10, t_12, t_16, t_20, t_40, t_60, t_99, t_255, t_256, t_250, t_99999]
    repeat' first | rfl | (exfalso; omega) | split
