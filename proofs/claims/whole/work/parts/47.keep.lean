/-! drop, image, back, copy -/
def gone (rm : RM) (n : Nat) (s : Nat) : Bool := decide (RM_shelf rm s = 2 ∧ nI n ≤ RM_shown rm s)
theorem goneF {sh : SH} {rm : RM} {s m : Nat} (g : shF sh rm s) : gone rm m s = false := by
  unfold gone
  rw [g.1]
  exact decide_eq_false fun z => by have := z.1; revert this; decide
theorem goneR {sh : SH} {rm : RM} {s m k z : Nat} (g : shR sh rm s k z) : gone rm m s = false := by
  unfold gone
  rw [g.1]
  exact decide_eq_false fun z => by have := z.1; revert this; decide
theorem goneB {sh : SH} {rm : RM} {s m n b : Nat} (g : shB sh rm n s b) (hm : m < 2 ^ 31) (hb : b < 2 ^ 31) : gone rm m s = decide (m ≤ b) := by
  unfold gone
  rw [g.1, g.2.2.2]
  by_cases e : m ≤ b
  · rw [decide_eq_true e, decide_eq_true ⟨rfl, (nI_leI hm hb).mpr e⟩]
  · rw [decide_eq_false e, decide_eq_false fun z => e ((nI_leI hm hb).mp z.2)]
theorem C_freeFrom {sh : SH} {rm : RM} {n m : Nat} (h : ShA sh rm n) (hn : n ≤ 4) (hm : m < 2 ^ 31) : ∃ H, M_X3_freeBarsFrom NN sh (nI m) = some (SH_s_held sh H) ∧ ∀ s, s < 8 → H s = if gone rm m s = true then -1 else SH_held sh s := by
  unfold M_X3_freeBarsFrom
  obtain ⟨r, ⟨H, h1, h2⟩, h3⟩ := lp_inv (body := M_X3_freeBarsFrom_l2 NN (nI m)) (N := NN) (P := fun i Z => ∃ H, Z = (SH_s_held sh H, nI i) ∧ ∀ s, H s = if s < i ∧ gone rm m s = true then -1 else SH_held sh s) (Qr := fun r => ∃ H, r = SH_s_held sh H ∧ ∀ s, s < 8 → H s = if gone rm m s = true then -1 else SH_held sh s) 8
    (fun i Z hi hP => by
      obtain ⟨H, rfl, h2⟩ := hP
      have hH : H i = SH_held sh i := by rw [h2, if_neg (fun z => Nat.lt_irrefl i z.1)]
      have hb : M_X3_barIn NN (SH_s_held sh H) (nI i) = some (if SH_held sh i < 10 then -1 else SH_held sh i - 10) := by
        unfold M_X3_barIn
        rw [S_held hi, Option.bind_some, show SH_held (SH_s_held sh H) i = H i from rfl, hH]
        split <;> rfl
      have mm : (-1 : Int32) < nI m := by rw [lt_toInt, t_m1, nI_toInt hm]; omega
      have hg : (if SH_held sh i < 10 then (-1 : Int32) else SH_held sh i - 10) < nI m ↔ gone rm m i = false := by
        rcases sh_cases h hi with g | ⟨k, z, g⟩ | ⟨b, g⟩
        · rw [goneF g, g.2, if_pos (by decide)]
          exact ⟨fun _ => rfl, fun _ => mm⟩
        · have := g.2.1
          rw [goneR g, g.2.2.2.1, if_pos (by rw [q_lt_10 (by omega)]; omega)]
          exact ⟨fun _ => rfl, fun _ => mm⟩
        · have := g.2.1
          rw [goneB g hm (by omega), g.2.2.1, if_neg (by rw [q_lt_10 (by omega)]; omega), show (10 : Int32) = nI 10 from rfl, pk_sub (by omega), nI_ltI (by omega) hm]
          by_cases e : m ≤ b
          · rw [decide_eq_true e]
            exact ⟨fun z => by omega, fun z => by cases z⟩
          · rw [decide_eq_false e]
            exact ⟨fun _ => rfl, fun _ => by omega⟩
      cases e : gone rm m i
      · refine Or.inl ⟨(SH_s_held sh H, nI (i + 1)), ⟨H, rfl, fun s => ?_⟩, fun rec => ?_⟩
        · rw [h2]
          by_cases es : s = i
          · subst es
            rw [e, if_neg (fun z => by cases z.2), if_neg (fun z => by cases z.2)]
          · by_cases l : s < i ∧ gone rm m s = true
            · rw [if_pos l, if_pos ⟨by omega, l.2⟩]
            · rw [if_neg l, if_neg (fun z => l ⟨by omega, z.2⟩)]
        · unfold M_X3_freeBarsFrom_l2 M_X3_freeBarsFrom_j22
          simp only []
          rw [if_neg (by rw [q_ge_8 (by omega)]; omega), hb, Option.bind_some, if_pos (hg.mpr e), nI_1]
      · refine Or.inl ⟨(SH_s_held sh (upd H i (-1)), nI (i + 1)), ⟨_, rfl, fun s => ?_⟩, fun rec => ?_⟩
        · by_cases es : s = i
          · subst es
            rw [upd_eq, if_pos ⟨by omega, e⟩]
          · rw [upd_ne es, h2]
            by_cases l : s < i ∧ gone rm m s = true
            · rw [if_pos l, if_pos ⟨by omega, l.2⟩]
            · rw [if_neg l, if_neg (fun z => l ⟨by omega, z.2⟩)]
        · unfold M_X3_freeBarsFrom_l2 M_X3_freeBarsFrom_j22 M_X3_free
          simp only []
          rw [if_neg (by rw [q_ge_8 (by omega)]; omega), hb, Option.bind_some, if_neg (fun z => by rw [hg.mp z] at e; cases e), S_is hi, Option.bind_some, if_neg (by decide), if_neg (S_in hi), S_cl hi, Option.bind_some, nI_1]
          rfl)
    (fun Z hP => by
      obtain ⟨H, rfl, h2⟩ := hP
      refine ⟨_, ⟨H, rfl, fun s hs => ?_⟩, fun rec => ?_⟩
      · rw [h2]
        cases e : gone rm m s
        · rw [if_neg (fun z => by cases z.2), if_neg (by decide)]
        · rw [if_pos ⟨hs, rfl⟩, if_pos rfl]
      · unfold M_X3_freeBarsFrom_l2
        simp only []
        rw [if_pos (by decide)])
    (by decide) (z := (sh, 0)) ⟨SH_held sh, rfl, fun s => by rw [if_neg (fun z => Nat.not_lt_zero s z.1)]⟩
  exact ⟨H, by rw [← h1]; exact h3, h2⟩
theorem R_follow {rm : RM} {m : Nat} (hb : RM_bars rm = nI m) : ∃ H, M_X6_shelvesFollow NN rm = some (RM_s_shelf rm H) ∧ ∀ s, s < 8 → H s = if gone rm m s = true then 0 else RM_shelf rm s := by
  unfold M_X6_shelvesFollow
  obtain ⟨r, ⟨H, h1, h2⟩, h3⟩ := lp_inv (body := M_X6_shelvesFollow_l2 NN) (N := NN) (P := fun i Z => ∃ H, Z = (RM_s_shelf rm H, nI i) ∧ ∀ s, H s = if s < i ∧ gone rm m s = true then 0 else RM_shelf rm s) (Qr := fun r => ∃ H, r = RM_s_shelf rm H ∧ ∀ s, s < 8 → H s = if gone rm m s = true then 0 else RM_shelf rm s) 8
    (fun i Z hi hP => by
      obtain ⟨H, rfl, h2⟩ := hP
      have hH : H i = RM_shelf rm i := by rw [h2, if_neg (fun z => Nat.lt_irrefl i z.1)]
      cases e : gone rm m i
      · refine Or.inl ⟨(RM_s_shelf rm H, nI (i + 1)), ⟨H, rfl, fun s => ?_⟩, fun rec => ?_⟩
        · rw [h2]
          by_cases es : s = i
          · subst es
            rw [e, if_neg (fun z => by cases z.2), if_neg (fun z => by cases z.2)]
          · by_cases l : s < i ∧ gone rm m s = true
            · rw [if_pos l, if_pos ⟨by omega, l.2⟩]
            · rw [if_neg l, if_neg (fun z => l ⟨by omega, z.2⟩)]
        · unfold M_X6_shelvesFollow_l2 M_X6_shelvesFollow_j38
          simp only []
          rw [if_neg (by rw [q_ge_8 (by omega)]; omega), if_neg (S_in hi), S_cl hi, show RM_shelf (RM_s_shelf rm H) i = H i from rfl, hH, show RM_shown (RM_s_shelf rm H) i = RM_shown rm i from rfl, show RM_bars (RM_s_shelf rm H) = RM_bars rm from rfl, hb, nI_1]
          unfold gone at e
          have e := of_decide_eq_false e
          by_cases g : RM_shelf rm i = 2
          · rw [if_neg (not_not_intro g), if_neg (S_in hi), if_pos]
            rw [lt_toInt]
            have : ¬ nI m ≤ RM_shown rm i := fun z => e ⟨g, z⟩
            rw [le_toInt] at this
            omega
          · rw [if_pos g]
      · refine Or.inl ⟨(RM_s_shelf rm (upd H i 0), nI (i + 1)), ⟨_, rfl, fun s => ?_⟩, fun rec => ?_⟩
        · by_cases es : s = i
          · subst es
            rw [upd_eq, if_pos ⟨by omega, e⟩]
          · rw [upd_ne es, h2]
            by_cases l : s < i ∧ gone rm m s = true
            · rw [if_pos l, if_pos ⟨by omega, l.2⟩]
            · rw [if_neg l, if_neg (fun z => l ⟨by omega, z.2⟩)]
        · unfold M_X6_shelvesFollow_l2 M_X6_shelvesFollow_j38
          simp only []
          rw [if_neg (by rw [q_ge_8 (by omega)]; omega), if_neg (S_in hi), S_cl hi, show RM_shelf (RM_s_shelf rm H) i = H i from rfl, hH, show RM_shown (RM_s_shelf rm H) i = RM_shown rm i from rfl, show RM_bars (RM_s_shelf rm H) = RM_bars rm from rfl, hb, nI_1]
          unfold gone at e
          have e := of_decide_eq_true e
          rw [if_neg (not_not_intro e.1), if_neg (S_in hi), if_neg, if_neg (S_in hi)]
          · rfl
          · rw [lt_toInt]
            have := e.2
            rw [le_toInt] at this
            omega)
    (fun Z hP => by
      obtain ⟨H, rfl, h2⟩ := hP
      refine ⟨_, ⟨H, rfl, fun s hs => ?_⟩, fun rec => ?_⟩
      · rw [h2]
        cases e : gone rm m s
        · rw [if_neg (fun z => by cases z.2), if_neg (by decide)]
        · rw [if_pos ⟨hs, rfl⟩, if_pos rfl]
      · unfold M_X6_shelvesFollow_l2
        simp only []
        rw [if_pos (by decide)])
    (by decide) (z := (rm, 0)) ⟨RM_shelf rm, rfl, fun s => by rw [if_neg (fun z => Nat.not_lt_zero s z.1)]⟩
  exact ⟨H, by rw [← h1]; exact h3, h2⟩
theorem ShA_gone {sh : SH} {rm rm' : RM} {n m : Nat} {H H' : Nat → Int32} (h : ShA sh rm n) (hn : n ≤ 4) (hm : m ≤ 4) (h1 : ∀ s, s < 8 → H s = if gone rm m s = true then -1 else SH_held sh s) (h2 : ∀ s, s < 8 → H' s = if gone rm m s = true then 0 else RM_shelf rm s) (e1 : RM_rowSort rm' = RM_rowSort rm) (e2 : RM_rowSize rm' = RM_rowSize rm) (e3 : RM_rows rm' = RM_rows rm) (e4 : RM_shown rm' = RM_shown rm) (e5 : RM_shelf rm' = H') : ShA (SH_s_held sh H) rm' m := by
  apply sh_of
  intro s hs
  unfold shF shR shB
  rw [e1, e2, e3, e4, e5]
  show (H' s = 0 ∧ H s = -1) ∨ (∃ k z, H' s = 1 ∧ k ≤ 4 ∧ z ≤ 40 ∧ H s = nI k ∧ RM_rowSort rm s = nI k ∧ SH_lengths sh s = nI z ∧ RM_rowSize rm s = nI z ∧ ∀ i, i < z → SH_cells sh (s * 40 + i) = RM_rows rm s i) ∨ ∃ b, H' s = 2 ∧ b < m ∧ H s = nI (10 + b) ∧ RM_shown rm s = nI b
  rw [h1 s hs, h2 s hs]
  rcases sh_cases h hs with g | ⟨k, z, g⟩ | ⟨b, g⟩
  · rw [goneF g]
    exact Or.inl g
  · rw [goneR g]
    exact Or.inr (Or.inl ⟨k, z, g⟩)
  · have := g.2.1
    rw [goneB g (by omega) (by omega)]
    by_cases e : m ≤ b
    · rw [decide_eq_true e]
      exact Or.inl ⟨rfl, rfl⟩
    · rw [decide_eq_false e]
      exact Or.inr (Or.inr ⟨b, g.1, by omega, g.2.2⟩)
theorem EvA.less {ev : EV} {a : AE} {n : Nat} (h : EvA ev a) : EvA (EV_s_bars ev (nI n)) (n, a.2) := ⟨rfl, h.2⟩
theorem RmA.less {rm : RM} {a : AE} {n : Nat} (h : RmA rm a) : RmA (RM_s_bars rm (nI n)) (n, a.2) := ⟨rfl, h.2⟩
theorem OkA.less {a : AE} {n : Nat} (h : OkA a) (hn : n ≤ aN a) : OkA (n, a.2) := ⟨Nat.le_trans hn h.1, fun b hb => h.2 b (Nat.lt_of_lt_of_le hb hn)⟩
theorem pS_drop : S_drop INV := by
  intro ro nw kp dr sh tp lw se rm K T hI _
  obtain ⟨a, h1, h2, h3, h4, h5, h6, h7, h8⟩ := id hI
  have hn := h3.1
  unfold M_X5_drop M_X6_drop
  rw [h1.1, h2.1]
  by_cases e : aN a = 0
  · rw [e, if_neg (by decide), if_neg (by decide), xRf_ok.2.2.2.1, mRf_ok.2.2.2.1]
    exact ⟨_, rfl, _, rfl, rfl, hI.rf 3⟩
  · rw [if_pos (by rw [q_eq_0 (by omega)]; exact e), if_pos (by rw [q_eq_0 (by omega)]; exact e), nI_s1 (by omega)]
    obtain ⟨H, c1, c2⟩ := C_freeFrom (sh := sh) (rm := rm) (m := aN a - 1) h4 hn (by omega)
    obtain ⟨H', r1, r2⟩ := R_follow (rm := RM_s_bars rm (nI (aN a - 1))) (m := aN a - 1) rfl
    rw [show EV_bars (EV_s_bars nw (nI (aN a - 1))) = nI (aN a - 1) from rfl, c1, r1]
    refine ⟨_, rfl, _, rfl, rfl, (aN a - 1, a.2), h1.less, h2.less, h3.less (by omega), ?_, h5, h6, h7, h8⟩
    exact ShA_gone h4 hn (by show aN a - 1 ≤ 4; omega) c2 r2 rfl rfl rfl rfl rfl
theorem cpy0 {f g : Nat → Int32} {n j : Nat} (h : j < n) : va_cpy f g 0 0 n j = f j := by
  rw [pk_cpy_in (by omega) (by omega)]
  exact congrArg f (by omega)
theorem E_become {N : Nat} {ev ev1 : EV} {a : AE} (h : EvA ev1 a) : ∃ ev', M_X0_become N ev ev1 = some ev' ∧ EvA ev' a := by
  unfold M_X0_become
  rw [if_neg (by decide), if_neg (by decide), if_neg (by decide), if_neg (by decide), if_neg (by decide), if_neg (by decide), if_neg (by decide)]
  simp only [c_0, c_4, c_10, c_40]
  refine ⟨_, rfl, ?_⟩
  unfold EvA
  simp only [EV_kinds_s_kinds, EV_kinds_s_sizes, EV_kinds_s_ons, EV_kinds_s_stucks, EV_kinds_s_musts, EV_kinds_s_nots, EV_kinds_s_ringMinutes, EV_kinds_s_bars, EV_kinds_s_moved, EV_kinds_s_seed, EV_sizes_s_kinds, EV_sizes_s_sizes, EV_sizes_s_ons, EV_sizes_s_stucks, EV_sizes_s_musts, EV_sizes_s_nots, EV_sizes_s_ringMinutes, EV_sizes_s_bars, EV_sizes_s_moved, EV_sizes_s_seed, EV_ons_s_kinds, EV_ons_s_sizes, EV_ons_s_ons, EV_ons_s_stucks, EV_ons_s_musts, EV_ons_s_nots, EV_ons_s_ringMinutes, EV_ons_s_bars, EV_ons_s_moved, EV_ons_s_seed, EV_stucks_s_kinds, EV_stucks_s_sizes, EV_stucks_s_ons, EV_stucks_s_stucks, EV_stucks_s_musts, EV_stucks_s_nots, EV_stucks_s_ringMinutes, EV_stucks_s_bars, EV_stucks_s_moved, EV_stucks_s_seed, EV_musts_s_kinds, EV_musts_s_sizes, EV_musts_s_ons, EV_musts_s_stucks, EV_musts_s_musts, EV_musts_s_nots, EV_musts_s_ringMinutes, EV_musts_s_bars, EV_musts_s_moved, EV_musts_s_seed, EV_nots_s_kinds, EV_nots_s_sizes, EV_nots_s_ons, EV_nots_s_stucks, EV_nots_s_musts, EV_nots_s_nots, EV_nots_s_ringMinutes, EV_nots_s_bars, EV_nots_s_moved, EV_nots_s_seed, EV_ringMinutes_s_kinds, EV_ringMinutes_s_sizes, EV_ringMinutes_s_ons, EV_ringMinutes_s_stucks, EV_ringMinutes_s_musts, EV_ringMinutes_s_nots, EV_ringMinutes_s_ringMinutes, EV_ringMinutes_s_bars, EV_ringMinutes_s_moved, EV_ringMinutes_s_seed, EV_bars_s_kinds, EV_bars_s_sizes, EV_bars_s_ons, EV_bars_s_stucks, EV_bars_s_musts, EV_bars_s_nots, EV_bars_s_ringMinutes, EV_bars_s_bars, EV_bars_s_moved, EV_bars_s_seed, EV_moved_s_kinds, EV_moved_s_sizes, EV_moved_s_ons, EV_moved_s_stucks, EV_moved_s_musts, EV_moved_s_nots, EV_moved_s_ringMinutes, EV_moved_s_bars, EV_moved_s_moved, EV_moved_s_seed, EV_seed_s_kinds, EV_seed_s_sizes, EV_seed_s_ons, EV_seed_s_stucks, EV_seed_s_musts, EV_seed_s_nots, EV_seed_s_ringMinutes, EV_seed_s_bars, EV_seed_s_moved, EV_seed_s_seed]
  refine ⟨h.1, fun b hb => ?_, fun r hr => ?_, h.2.2.2⟩
  · have g := h.2.1 b hb
    rw [cpy0 hb, cpy0 hb, cpy0 hb, cpy0 hb]
    refine ⟨g.1, g.2.1, g.2.2.1, g.2.2.2.1, fun r hr => ?_⟩
    rw [cpy0 (by omega), cpy0 (by omega)]
    exact g.2.2.2.2 r hr
  · rw [cpy0 hr]
    exact h.2.2.1 r hr
theorem ovf_lt {n j : Nat} {f k : Nat → Int32} (h : j < n) : ovf n f k j = f j := if_pos h
theorem R_takel {rm rm1 : RM} {a : AE} (h : RmA rm1 a) (g1 : RM_bars rm = RM_bars rm1) (g2 : ∀ b, b < 4 → RM_kind rm b = RM_kind rm1 b ∧ RM_size rm b = RM_size rm1 b ∧ RM_on rm b = RM_on rm1 b ∧ RM_stuck rm b = RM_stuck rm1 b) : ∃ rm', lp (M_X6_takeFrom_l54 NN rm1) NN (rm, 0) = some rm' ∧ RmA rm' a ∧ NE rm rm' := by
  obtain ⟨r, ⟨h1, h2⟩, h3⟩ := lp_inv (body := M_X6_takeFrom_l54 NN rm1) (N := NN) (P := fun i Z => ∃ MM XX, Z = (RM_s_not (RM_s_must rm MM) XX, nI i) ∧ ∀ b, b < i → ∀ r, r < 10 → MM b r = RM_must rm1 b r ∧ XX b r = RM_not rm1 b r) (Qr := fun r => RmA r a ∧ NE rm r) 4
    (fun i Z hi hP => by
      obtain ⟨MM, XX, rfl, h2⟩ := hP
      refine Or.inl ⟨_, ⟨va_up MM i (ovf 10 (RM_must rm1 i) (MM i)), va_up XX i (ovf 10 (RM_not rm1 i) (XX i)), rfl, fun b hb r hr => ?_⟩, fun rec => ?_⟩
      · unfold va_up
        by_cases e : b = i
        · rw [if_pos e, if_pos e, ovf_lt hr, ovf_lt hr, e]
          exact ⟨rfl, rfl⟩
        · rw [if_neg e, if_neg e]
          exact h2 b (by omega) r hr
      · unfold M_X6_takeFrom_l54
        simp only []
        rw [if_neg (by rw [q_ge_4 (by omega)]; omega), if_neg (nI_in (by omega) (by omega)), if_neg (nI_in (by omega) (by omega)), Option.bind_some, if_neg (nI_in (by omega) (by omega)), if_neg (nI_in (by omega) (by omega)), Option.bind_some, nI_clamp (by omega), nI_1]
        rfl)
    (fun Z hP => by
      obtain ⟨MM, XX, rfl, h2⟩ := hP
      refine ⟨_, ?_, fun rec => ?_⟩
      · exact RM_s_seed (RM_s_movedAll (RM_s_minutes (RM_s_not (RM_s_must rm MM) XX) (ovf 10 (RM_minutes rm1) (RM_minutes rm))) (RM_movedAll rm1)) (RM_seed rm1)
      · refine ⟨⟨g1.trans h.1, fun b hb => ?_, fun r hr => ?_, h.2.2.2⟩, rfl⟩
        · have k := h.2.1 b hb
          have k2 := g2 b hb
          refine ⟨k2.1.trans k.1, k2.2.1.trans k.2.1, k2.2.2.1.trans k.2.2.1, k2.2.2.2.trans k.2.2.2.1, fun r hr => ⟨(h2 b hb r hr).1.trans (k.2.2.2.2 r hr).1, (h2 b hb r hr).2.trans (k.2.2.2.2 r hr).2⟩⟩
        · exact (ovf_lt hr).trans (h.2.2.1 r hr)
      · unfold M_X6_takeFrom_l54
        simp only []
        rw [if_pos (by decide)]
        rfl)
    (by decide) (z := (rm, 0)) ⟨RM_must rm, RM_not rm, rfl, fun b hb => absurd hb (Nat.not_lt_zero b)⟩
  exact ⟨r, h3, h1, h2⟩
theorem R_take {rm rm1 : RM} {a : AE} (h : RmA rm1 a) : ∃ rm', M_X6_takeFrom NN rm rm1 = some rm' ∧ RmA rm' a ∧ NE rm rm' := by
  unfold M_X6_takeFrom
  simp only [Option.bind_some]
  obtain ⟨rm', h1, h2, h3⟩ := R_takel (rm := RM_s_stuck (RM_s_on (RM_s_size (RM_s_kind (RM_s_bars rm (RM_bars rm1)) (ovf 4 (RM_kind rm1) (RM_kind rm))) (ovf 4 (RM_size rm1) (RM_size rm))) (ovf 4 (RM_on rm1) (RM_on rm))) (ovf 4 (RM_stuck rm1) (RM_stuck rm))) h rfl (fun b hb => ⟨ovf_lt hb, ovf_lt hb, ovf_lt hb, ovf_lt hb⟩)
  exact ⟨rm', h1, h2, h3⟩
theorem pS_image : S_image INV := by
  intro ro nw kp dr sh tp lw se rm K T hI _
  obtain ⟨a, h1, h2, h3, h4, h5, h6, h7, h8⟩ := id hI
  obtain ⟨kp', e1, e2⟩ := E_become (N := NN) (ev := kp) h1
  refine ⟨(1, RO_s_imageStands ro 1, kp'), ?_, fun hK => ?_, fun r hK => ?_⟩
  · unfold M_X5_image
    rw [e1]
    rfl
  · obtain ⟨rm', r1, r2, r3⟩ := R_take (rm := RM0) h2
    refine ⟨(1, rm'), ?_, rfl, a, h1, h2, h3, h4, h5, h6, Or.inr ⟨rfl, rm', a, rfl, e2, r2, h3⟩, h8⟩
    unfold M_X6_image_n M_X6_image_n_j100018
    rw [r1]
    rfl
  · obtain ⟨rm', r1, r2, r3⟩ := R_take (rm := r) h2
    refine ⟨(1, rm'), ?_, rfl, a, h1, h2, h3, h4, h5, h6, Or.inr ⟨rfl, rm', a, rfl, e2, r2, h3⟩, h8⟩
    unfold M_X6_image_s M_X6_image_s_j18
    rw [r1]
    rfl
theorem pS_back : S_back INV := by
  intro ro nw kp dr sh tp lw se rm K T hI _
  obtain ⟨a, h1, h2, h3, h4, h5, h6, h7, h8⟩ := id hI
  have hn := h3.1
  rcases id h7 with ⟨k1, rfl⟩ | ⟨k1, r, a', rfl, k2, k3, k4⟩
  · refine ⟨(-5, xRf ro 3, nw, sh), ?_, fun _ => ⟨(-5, mRf rm 3), ?_, rfl, hI.rf 3⟩, fun r hr => by cases hr⟩
    · unfold M_X5_back
      rw [k1, if_neg (by decide), xRf_ok.2.2.2.1]
      rfl
    · unfold M_X6_back_n
      rw [mRf_ok.2.2.2.1]
      rfl
  · have hn' := k4.1
    obtain ⟨nw', e1, e2⟩ := E_become (N := NN) (ev := nw) k2
    obtain ⟨rm', r1, r2, r3⟩ := R_take (rm := rm) k3
    have h4' : ShA sh rm' 4 := h4.ne r3 hn
    obtain ⟨H, c1, c2⟩ := C_freeFrom (sh := sh) (rm := rm') (m := aN a') h4' (by omega) (by omega)
    obtain ⟨H', f1, f2⟩ := R_follow (rm := rm') (m := aN a') r2.1
    refine ⟨(1, ro, nw', SH_s_held sh H), ?_, fun hK => by cases hK, fun r' hr => ?_⟩
    · unfold M_X5_back
      rw [k1, if_pos (by decide), e1, Option.bind_some, e2.1, c1]
      rfl
    · obtain rfl : r = r' := Option.some.inj hr
      refine ⟨(1, RM_s_shelf rm' H'), ?_, rfl, a', e2, r2, k4, ?_, h5.ne r3, h6.ne r3, h7, h8.ne r3⟩
      · unfold M_X6_back_s
        rw [r1, Option.bind_some, f1]
        rfl
      · exact ShA_gone h4' (by omega) hn' c2 f2 rfl rfl rfl rfl rfl
