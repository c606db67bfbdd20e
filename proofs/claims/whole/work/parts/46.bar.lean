/-! a new bar; the tape's feed and wipe -/
def nE (rm : RM) := (RM_shelf rm, RM_rowSort rm, RM_rowSize rm, RM_rows rm, RM_moved1 rm, RM_shown rm, RM_tape rm, RM_tapeSize rm, RM_refused rm, RM_at rm, RM_token rm, RM_from rm, RM_figures rm, RM_fault rm, RM_told rm, RM_statements rm, RM_far rm, RM_queue rm, RM_queued rm, RM_parts1 rm, RM_parts2 rm, RM_picturesSum rm, RM_behindAll rm, RM_pl rm)
/-- all but the evening is as it was -/
def NE (rm rm' : RM) : Prop := nE rm' = nE rm
theorem NE.trans {r1 r2 r3 : RM} (h : NE r1 r2) (k : NE r2 r3) : NE r1 r3 := Eq.trans k h
theorem NE.all {rm rm' : RM} (h : NE rm rm') : RM_shelf rm' = RM_shelf rm ∧ RM_rowSort rm' = RM_rowSort rm ∧ RM_rowSize rm' = RM_rowSize rm ∧ RM_rows rm' = RM_rows rm ∧ RM_moved1 rm' = RM_moved1 rm ∧ RM_shown rm' = RM_shown rm ∧ RM_tape rm' = RM_tape rm ∧ RM_tapeSize rm' = RM_tapeSize rm ∧ RM_refused rm' = RM_refused rm ∧ RM_at rm' = RM_at rm ∧ RM_token rm' = RM_token rm ∧ RM_from rm' = RM_from rm ∧ RM_figures rm' = RM_figures rm ∧ RM_fault rm' = RM_fault rm ∧ RM_told rm' = RM_told rm ∧ RM_statements rm' = RM_statements rm ∧ RM_far rm' = RM_far rm ∧ RM_queue rm' = RM_queue rm ∧ RM_queued rm' = RM_queued rm ∧ RM_parts1 rm' = RM_parts1 rm ∧ RM_parts2 rm' = RM_parts2 rm ∧ RM_picturesSum rm' = RM_picturesSum rm ∧ RM_behindAll rm' = RM_behindAll rm ∧ RM_pl rm' = RM_pl rm := by
  unfold NE nE at h
  simp only [Prod.mk.injEq] at h
  exact h
theorem ShA.ne {sh : SH} {rm rm' : RM} {n m : Nat} (h : ShA sh rm n) (k : NE rm rm') (hm : n ≤ m) : ShA sh rm' m := by
  obtain ⟨e1, e2, e3, e4, e5, e6, -⟩ := k.all
  unfold ShA
  rw [e1, e2, e3, e4, e6]
  intro s hs
  rcases h s hs with g | g | ⟨g, b, hb, g2⟩
  · exact Or.inl g
  · exact Or.inr (Or.inl g)
  · exact Or.inr (Or.inr ⟨g, b, Nat.lt_of_lt_of_le hb hm, g2⟩)
theorem TpA.ne {tp : TP} {rm rm' : RM} (h : TpA tp rm) (k : NE rm rm') : TpA tp rm' := by
  obtain ⟨e1, e2, e3, e4, e5, e6, e7, e8, -⟩ := k.all
  unfold TpA
  rw [e7, e8]
  exact h
theorem RfA.ne {ro : RO} {rm rm' : RM} (h : RfA ro rm) (k : NE rm rm') : RfA ro rm' := by
  obtain ⟨e1, e2, e3, e4, e5, e6, e7, e8, e9, -⟩ := k.all
  unfold RfA
  rw [e9]
  exact h
theorem PlA.ne {rm rm' : RM} (h : PlA rm) (k : NE rm rm') : PlA rm' := by
  obtain ⟨e1, e2, e3, e4, e5, e6, e7, e8, e9, e10, e11, e12, e13, e14, e15, e16, e17, e18, e19, e20, e21, e22, e23, e24⟩ := k.all
  unfold PlA
  rw [e24]
  exact h
def aB (a : AE) (k z : Nat) : AE := (aN a + 1, vu (aK a) (aN a) k, vu (aZ a) (aN a) z, vu (aO a) (aN a) (2 ^ z - 1), vu (aT a) (aN a) 0, (fun i j => if i = aN a then 0 else aM a i j), (fun i j => if i = aN a then 0 else aX a i j), aU a, aV a, aW a)
theorem aB_ok {a : AE} {k z : Nat} (h : OkA a) (hn : aN a < 4) (hk : k ≤ 5) (h1 : 1 ≤ z) (hz : z ≤ 10) : OkA (aB a k z) := by
  refine ⟨hn, fun b hb => ?_⟩
  have hb : b < aN a + 1 := hb
  have hp : 0 < 2 ^ z := Nat.two_pow_pos z
  show vu (aK a) (aN a) k b ≤ 5 ∧ 1 ≤ vu (aZ a) (aN a) z b ∧ vu (aZ a) (aN a) z b ≤ 10 ∧ vu (aO a) (aN a) (2 ^ z - 1) b < 2 ^ vu (aZ a) (aN a) z b ∧ vu (aT a) (aN a) 0 b < 2 ^ vu (aZ a) (aN a) z b ∧ ∀ r, r < 10 → (if b = aN a then 0 else aM a b r) < 2 ^ vu (aZ a) (aN a) z b ∧ (if b = aN a then 0 else aX a b r) < 2 ^ vu (aZ a) (aN a) z b
  by_cases e : b = aN a
  · subst e
    simp only [vu_at, if_true]
    exact ⟨hk, h1, hz, by omega, hp, fun _ _ => ⟨hp, hp⟩⟩
  · simp only [vu_no e, if_neg e]
    exact h.2 b (by omega)
theorem upd_vu {f : Nat → Int32} {g : Nat → Nat} {b v i : Nat} (h : f i = nI (g i)) : upd f b (nI v) i = nI (vu g b v i) := by
  unfold upd vu
  by_cases e : i = b
  · rw [if_pos e, if_pos e]
  · rw [if_neg e, if_neg e, h]
theorem C_addBar {ev : EV} {a : AE} {k z : Nat} (h : EvA ev a) (hn : aN a < 4) (hz : z ≤ 10) : ∃ ev', M_X0_addBar NN ev (nI k) (nI z) = some (nI (aN a), ev') ∧ EvA ev' (aB a k z) := by
  obtain ⟨g1, g2, g3, g4, g5⟩ := h
  have hi4 : ¬ (nI (aN a) < 0 ∨ 4 ≤ (nI (aN a)).toNatClampNeg) := nI_in hn (by omega)
  have hcl : (nI (aN a)).toNatClampNeg = aN a := nI_clamp (by omega)
  unfold M_X0_addBar
  rw [g1, if_neg (nI_pos (by omega)), if_pos (by rw [q_lt_4 (by omega)]; exact hn), if_neg hi4, if_neg hi4, if_neg hi4, if_neg hi4, hcl, sh_1 (by omega), nI_s1 Nat.one_le_two_pow, nI_1]
  obtain ⟨r, ⟨MM, XX, h1, h2, h3⟩, h4⟩ := lp_inv (body := M_X0_addBar_l61 NN (nI k) (nI z)) (N := NN) (P := fun i Z => ∃ MM XX, Z = (EV_s_nots (EV_s_musts (EV_s_stucks (EV_s_ons (EV_s_sizes (EV_s_kinds (EV_s_bars ev (nI (aN a + 1))) (upd (EV_kinds ev) (aN a) (nI k))) (upd (EV_sizes ev) (aN a) (nI z))) (upd (EV_ons ev) (aN a) (nI (2 ^ z - 1)))) (upd (EV_stucks ev) (aN a) 0)) MM) XX, nI (aN a), nI i) ∧ (∀ j, MM j = if aN a * 10 ≤ j ∧ j < aN a * 10 + i then 0 else EV_musts ev j) ∧ ∀ j, XX j = if aN a * 10 ≤ j ∧ j < aN a * 10 + i then 0 else EV_nots ev j) (Qr := fun r => ∃ MM XX, r = (nI (aN a), EV_s_nots (EV_s_musts (EV_s_stucks (EV_s_ons (EV_s_sizes (EV_s_kinds (EV_s_bars ev (nI (aN a + 1))) (upd (EV_kinds ev) (aN a) (nI k))) (upd (EV_sizes ev) (aN a) (nI z))) (upd (EV_ons ev) (aN a) (nI (2 ^ z - 1)))) (upd (EV_stucks ev) (aN a) 0)) MM) XX) ∧ (∀ j, MM j = if aN a * 10 ≤ j ∧ j < aN a * 10 + 10 then 0 else EV_musts ev j) ∧ ∀ j, XX j = if aN a * 10 ≤ j ∧ j < aN a * 10 + 10 then 0 else EV_nots ev j) 10
    (fun i Z hi hP => by
      obtain ⟨MM, XX, rfl, h2, h3⟩ := hP
      have st : ∀ (f g : Nat → Int32), (∀ j, f j = if aN a * 10 ≤ j ∧ j < aN a * 10 + i then 0 else g j) → ∀ j, upd f (aN a * 10 + i) 0 j = if aN a * 10 ≤ j ∧ j < aN a * 10 + (i + 1) then 0 else g j := by
        intro f g hf j
        unfold upd
        by_cases e : j = aN a * 10 + i
        · rw [if_pos e, if_pos (by omega)]
        · rw [if_neg e, hf j]
          by_cases l : aN a * 10 ≤ j ∧ j < aN a * 10 + i
          · rw [if_pos l, if_pos (by omega)]
          · rw [if_neg l, if_neg (by omega)]
      refine Or.inl ⟨_, ⟨upd MM (aN a * 10 + i) 0, upd XX (aN a * 10 + i) 0, rfl, st _ _ h2, st _ _ h3⟩, fun rec => ?_⟩
      unfold M_X0_addBar_l61
      simp only []
      rw [if_neg (by rw [q_ge_10 (by omega)]; omega), at10 hn (by omega), if_neg (nI_in (by omega) (by omega)), if_neg (nI_in (by omega) (by omega)), nI_clamp (by omega), nI_1]
      rfl)
    (fun Z hP => by
      obtain ⟨MM, XX, rfl, h2, h3⟩ := hP
      refine ⟨_, ⟨MM, XX, rfl, h2, h3⟩, fun rec => ?_⟩
      unfold M_X0_addBar_l61
      simp only []
      rw [if_pos (by decide)])
    (by decide) (z := (EV_s_stucks (EV_s_ons (EV_s_sizes (EV_s_kinds (EV_s_bars ev (nI (aN a + 1))) (upd (EV_kinds ev) (aN a) (nI k))) (upd (EV_sizes ev) (aN a) (nI z))) (upd (EV_ons ev) (aN a) (nI (2 ^ z - 1)))) (upd (EV_stucks ev) (aN a) 0), nI (aN a), 0)) ⟨EV_musts ev, EV_nots ev, rfl, fun j => by rw [if_neg (by omega)], fun j => by rw [if_neg (by omega)]⟩
  subst h1
  refine ⟨_, h4, rfl, fun b hb => ?_, g3, g4, g5⟩
  obtain ⟨k1, k2, k3, k4, k5⟩ := g2 b hb
  refine ⟨upd_vu k1, upd_vu k2, upd_vu k3, upd_vu (v := 0) k4, fun r hr => ?_⟩
  show MM (b * 10 + r) = nI (if b = aN a then 0 else aM a b r) ∧ XX (b * 10 + r) = nI (if b = aN a then 0 else aX a b r)
  rw [h2, h3]
  by_cases e : b = aN a
  · rw [if_pos e, if_pos e, if_pos (by omega), if_pos (by omega)]
    exact ⟨rfl, rfl⟩
  · rw [if_neg e, if_neg e, if_neg (by omega), if_neg (by omega)]
    exact k5 r hr
theorem R_addBar {rm : RM} {a : AE} {k z : Nat} (h : RmA rm a) (hn : aN a < 4) (hz : z ≤ 10) : ∃ rm', M_X6_addBar NN rm (nI k) (nI z) = some rm' ∧ RmA rm' (aB a k z) ∧ NE rm rm' := by
  obtain ⟨g1, g2, g3, g4, g5⟩ := h
  have hi4 : ¬ (nI (aN a) < 0 ∨ 4 ≤ (nI (aN a)).toNatClampNeg) := nI_in hn (by omega)
  have hcl : (nI (aN a)).toNatClampNeg = aN a := nI_clamp (by omega)
  have b1 : ∀ r v, RM_bars (RM_s_kind r v) = RM_bars r := fun _ _ => rfl
  have b2 : ∀ r v, RM_bars (RM_s_size r v) = RM_bars r := fun _ _ => rfl
  have b3 : ∀ r v, RM_bars (RM_s_on r v) = RM_bars r := fun _ _ => rfl
  have b4 : ∀ r v, RM_bars (RM_s_stuck r v) = RM_bars r := fun _ _ => rfl
  have b5 : ∀ r v, RM_bars (RM_s_must r v) = RM_bars r := fun _ _ => rfl
  have b6 : ∀ r v, RM_bars (RM_s_not r v) = RM_bars r := fun _ _ => rfl
  have c1 : ∀ r v, RM_size (RM_s_kind r v) = RM_size r := fun _ _ => rfl
  have c2 : ∀ r v, RM_on (RM_s_size r v) = RM_on r := fun _ _ => rfl
  have c3 : ∀ r v, RM_on (RM_s_kind r v) = RM_on r := fun _ _ => rfl
  have c4 : ∀ r v, RM_stuck (RM_s_on r v) = RM_stuck r := fun _ _ => rfl
  have c5 : ∀ r v, RM_stuck (RM_s_size r v) = RM_stuck r := fun _ _ => rfl
  have c6 : ∀ r v, RM_stuck (RM_s_kind r v) = RM_stuck r := fun _ _ => rfl
  unfold M_X6_addBar
  simp only [b1, b2, b3, c1, c2, c3, c4, c5, c6, g1, hcl]
  rw [if_neg (by rw [← hcl]; exact hi4), if_neg (by rw [← hcl]; exact hi4), if_neg (by rw [← hcl]; exact hi4), if_neg (by rw [← hcl]; exact hi4), sh_1 (by omega), nI_s1 Nat.one_le_two_pow]
  obtain ⟨r, ⟨MM, XX, h1, h2, h3⟩, h4⟩ := lp_inv (body := M_X6_addBar_l46 NN (nI k) (nI z)) (N := NN) (P := fun i Z => ∃ MM XX, Z = (RM_s_not (RM_s_must (RM_s_stuck (RM_s_on (RM_s_size (RM_s_kind rm (upd (RM_kind rm) (aN a) (nI k))) (upd (RM_size rm) (aN a) (nI z))) (upd (RM_on rm) (aN a) (nI (2 ^ z - 1)))) (upd (RM_stuck rm) (aN a) 0)) MM) XX, nI i) ∧ (∀ x j, MM x j = if x = aN a ∧ j < i then 0 else RM_must rm x j) ∧ ∀ x j, XX x j = if x = aN a ∧ j < i then 0 else RM_not rm x j) (Qr := fun r => ∃ MM XX, r = RM_s_bars (RM_s_not (RM_s_must (RM_s_stuck (RM_s_on (RM_s_size (RM_s_kind rm (upd (RM_kind rm) (aN a) (nI k))) (upd (RM_size rm) (aN a) (nI z))) (upd (RM_on rm) (aN a) (nI (2 ^ z - 1)))) (upd (RM_stuck rm) (aN a) 0)) MM) XX) (nI (aN a + 1)) ∧ (∀ x j, MM x j = if x = aN a ∧ j < 10 then 0 else RM_must rm x j) ∧ ∀ x j, XX x j = if x = aN a ∧ j < 10 then 0 else RM_not rm x j) 10
    (fun i Z hi hP => by
      obtain ⟨MM, XX, rfl, h2, h3⟩ := hP
      have st : ∀ (f g : Nat → Nat → Int32), (∀ x j, f x j = if x = aN a ∧ j < i then 0 else g x j) → ∀ x j, va_up f (aN a) (upd (f (aN a)) i 0) x j = if x = aN a ∧ j < i + 1 then 0 else g x j := by
        intro f g hf x j
        unfold va_up
        by_cases e : x = aN a
        · subst e
          rw [if_pos rfl]
          unfold upd
          by_cases e2 : j = i
          · rw [if_pos e2, if_pos ⟨rfl, by omega⟩]
          · rw [if_neg e2, hf]
            by_cases l : j < i
            · rw [if_pos ⟨rfl, l⟩, if_pos ⟨rfl, by omega⟩]
            · rw [if_neg (fun z => l z.2), if_neg (fun z => by have := z.2; omega)]
        · rw [if_neg e, hf, if_neg (fun z => e z.1), if_neg (fun z => e z.1)]
      refine Or.inl ⟨_, ⟨va_up MM (aN a) (upd (MM (aN a)) i 0), va_up XX (aN a) (upd (XX (aN a)) i 0), rfl, st _ _ h2, st _ _ h3⟩, fun rec => ?_⟩
      unfold M_X6_addBar_l46
      simp only [b1, b2, b3, b4, b5, b6, g1, hcl, nI_clamp (show i < 2 ^ 31 by omega)]
      rw [if_neg (by rw [q_ge_10 (by omega)]; omega), if_neg (by rw [← hcl]; exact hi4), if_neg (by rw [q_lt_0 (by omega)]; omega), if_neg (by rw [← hcl]; exact hi4), if_neg (by rw [q_lt_0 (by omega)]; omega), nI_1]
      rfl)
    (fun Z hP => by
      obtain ⟨MM, XX, rfl, h2, h3⟩ := hP
      refine ⟨_, ⟨MM, XX, rfl, h2, h3⟩, fun rec => ?_⟩
      unfold M_X6_addBar_l46
      simp only [b1, b2, b3, b4, b5, b6, g1]
      rw [if_pos (by decide), nI_1])
    (by decide) (z := (RM_s_stuck (RM_s_on (RM_s_size (RM_s_kind rm (upd (RM_kind rm) (aN a) (nI k))) (upd (RM_size rm) (aN a) (nI z))) (upd (RM_on rm) (aN a) (nI (2 ^ z - 1)))) (upd (RM_stuck rm) (aN a) 0), 0)) ⟨RM_must rm, RM_not rm, rfl, fun x j => by rw [if_neg (by omega)], fun x j => by rw [if_neg (by omega)]⟩
  subst h1
  refine ⟨_, h4, ⟨rfl, fun b hb => ?_, g3, g4, g5⟩, rfl⟩
  obtain ⟨k1, k2, k3, k4, k5⟩ := g2 b hb
  refine ⟨upd_vu k1, upd_vu k2, upd_vu k3, upd_vu (v := 0) k4, fun r hr => ?_⟩
  show MM b r = nI (if b = aN a then 0 else aM a b r) ∧ XX b r = nI (if b = aN a then 0 else aX a b r)
  rw [h2, h3]
  by_cases e : b = aN a
  · rw [if_pos e, if_pos e, if_pos ⟨e, hr⟩, if_pos ⟨e, hr⟩]
    exact ⟨rfl, rfl⟩
  · rw [if_neg e, if_neg e, if_neg (fun z => e z.1), if_neg (fun z => e z.1)]
    exact k5 r hr
theorem of_int {p : Int32} (h : 0 ≤ p.toInt) : ∃ n, n < 2 ^ 31 ∧ p = nI n := nI_of (by rw [lt_toInt, t_0]; omega)
theorem pS_bar : S_bar INV := by
  intro ro nw kp dr sh tp lw se rm K T hI p1 p2
  obtain ⟨a, h1, h2, h3, h4, h5, h6, h7, h8⟩ := id hI
  have hn := h3.1
  have ej : M_X5_bar_j20 NN p1 p2 (ro, nw) = some (-2, xRf ro 0, nw) := by
    unfold M_X5_bar_j20
    rw [xRf_ok.1]
    rfl
  have ej2 : M_X6_bar_j24 NN p1 p2 rm = some (-2, mRf rm 0) := by
    unfold M_X6_bar_j24
    rw [mRf_ok.1]
    rfl
  unfold M_X5_bar M_X6_bar
  rw [ej, ej2]
  by_cases hp : (0 ≤ p1.toInt ∧ p1.toInt ≤ 5) ∧ 1 ≤ p2.toInt ∧ p2.toInt ≤ 10
  · obtain ⟨k, hk, rfl⟩ := of_int hp.1.1
    obtain ⟨z, hz, rfl⟩ := of_int (p := p2) (by omega)
    rw [nI_toInt hk, nI_toInt hz] at hp
    rw [if_neg (nI_pos hk), if_neg (by rw [q_gt_5 hk]; omega), if_neg (by rw [q_lt_1 hz]; omega), if_pos (by rw [q_le_10 hz]; omega), R_k1 (by rw [nI_toInt hk]; exact hp.1.1) (by rw [nI_toInt hk]; exact hp.1.2), Option.bind_some, if_neg (by decide), R_k1 (by rw [nI_toInt hz]; exact hp.2.1) (by rw [nI_toInt hz]; exact hp.2.2), Option.bind_some, if_pos (by decide)]
    unfold M_X0_hasMostBars
    rw [h1.1, h2.1]
    by_cases e : aN a = 4
    · rw [e, if_neg (by decide), Option.bind_some, if_neg (by decide), xRf_ok.2.2.2.2, if_neg (not_not_intro rfl), mRf_ok.2.2.2.2]
      exact ⟨_, rfl, _, rfl, rfl, hI.rf 4⟩
    · obtain ⟨ev', c1, c2⟩ := C_addBar (k := k) h1 (by omega) (z := z) (by omega)
      obtain ⟨rm', r1, r2, r3⟩ := R_addBar (k := k) h2 (by omega) (z := z) (by omega)
      rw [if_pos (by rw [q_lt_4 (by omega)]; omega), Option.bind_some, if_pos rfl, c1, if_pos (by rw [q_eq_4 (by omega)]; exact e), r1]
      refine ⟨_, rfl, _, rfl, ?_, aB a k z, c2, r2, aB_ok h3 (by omega) (by omega) (by omega) (by omega), h4.ne r3 (Nat.le_succ _), h5.ne r3, h6.ne r3, h7, h8.ne r3⟩
      show nI (aN a) = RM_bars rm' - 1
      rw [r2.1]
      exact (nI_s1 (n := aN a + 1) (by omega)).symm
  · refine ⟨(-2, xRf ro 0, nw), ?_, (-2, mRf rm 0), ?_, rfl, hI.rf 0⟩
    · simp only [lt_toInt, le_toInt, t_0, t_1, t_2, t_3, t_4, t_5, t_7, t_8, t_9, t_10, t_12, t_16, t_20, t_40, t_60, t_99, t_255, t_256, t_250, t_99999]
      repeat' first | rfl | (exfalso; omega) | split
    · by_cases g : 0 ≤ p1.toInt ∧ p1.toInt ≤ 5
      · rw [R_k1 g.1 g.2, Option.bind_some, if_neg (by decide), R_k0 (l := 1) (z := 10) (fun g2 => hp ⟨g, g2⟩)]
        rfl
      · rw [R_k0 (l := 0) (z := 5) g]
        rfl
theorem pS_wipe : S_wipe INV := by
  intro ro nw kp dr sh tp lw se rm K T hI _
  obtain ⟨a, h1, h2, h3, h4, ⟨z, t1, t2, t3, t4⟩, h6, h7, h8⟩ := id hI
  refine ⟨_, rfl, _, rfl, ?_, a, h1, h2, h3, h4, ⟨0, by omega, rfl, rfl, fun i hi => absurd hi (Nat.not_lt_zero i)⟩, h6, h7, h8⟩
  show TP_size tp = RM_tapeSize rm
  rw [t2, t3]
theorem pS_feed : S_feed INV := by
  intro ro nw kp dr sh tp lw se rm K T hI p1
  obtain ⟨a, h1, h2, h3, h4, ⟨z, t1, t2, t3, t4⟩, h6, h7, h8⟩ := id hI
  have ej : M_X5_feed_j11 NN p1 (ro, tp) = some (-2, xRf ro 0, tp) := by
    unfold M_X5_feed_j11
    rw [xRf_ok.1]
    rfl
  unfold M_X5_feed M_X6_feed
  rw [ej]
  by_cases hp : vI 256 p1
  · obtain ⟨c, hc, rfl⟩ := hp
    rw [if_neg (nI_pos (by omega)), if_pos (by rw [q_lt_256 (by omega)]; exact hc), R_q1 (k := 256) ⟨c, hc, rfl⟩ rfl (by omega), Option.bind_some, if_pos (by decide)]
    unfold M_X4_isFull M_X4_append M_X4_append_j37
    rw [t2, t3]
    by_cases e : z = 250
    · rw [e, if_neg (by decide), Option.bind_some, if_neg (by decide), xRf_ok.2.2.2.2, if_neg (not_not_intro rfl), mRf_ok.2.2.2.2]
      exact ⟨_, rfl, _, rfl, rfl, hI.rf 4⟩
    · have b1 : ∀ t v, TP_size (TP_s_bytes t v) = TP_size t := fun _ _ => rfl
      rw [if_pos (by rw [q_lt_250 (by omega)]; omega), Option.bind_some, if_pos rfl, if_neg (nI_pos (by omega)), if_neg (by rw [q_ge_250 (by omega)]; omega), if_neg (nI_in (by omega) (by omega)), if_pos (by rw [q_eq_250 (by omega)]; exact e), if_neg (nI_in (by omega) (by omega)), nI_clamp (by omega), b1, t2, nI_1]
      refine ⟨_, rfl, _, rfl, rfl, a, h1, h2, h3, h4, ⟨z + 1, by omega, rfl, rfl, fun i hi => ?_⟩, h6, h7, h8⟩
      show ∃ x, x < 256 ∧ upd (TP_bytes tp) z (nI c) i = nI x ∧ upd (RM_tape rm) z (nI c) i = nI x
      by_cases e2 : i = z
      · subst e2
        exact ⟨c, hc, upd_eq _ _ _, upd_eq _ _ _⟩
      · rw [upd_ne e2, upd_ne e2]
        exact t4 i (by omega)
  · rw [R_q0 (k := 256) hp rfl (by omega), Option.bind_some, if_neg (by decide), mRf_ok.1]
    refine ⟨(-2, xRf ro 0, tp), ?_, (-2, mRf rm 0), rfl, rfl, hI.rf 0⟩
    rw [vI_int (by omega)] at hp
    simp only [lt_toInt, le_toInt, t_0, t_1, t_2, t_3, t_4, t_5, t_7, t_8, t_9, t_10, t_12, t_16, t_20, t_40, t_60, t_99, t_255, t_256, t_250, t_99999]
    repeat' first | rfl | (exfalso; omega) | split
