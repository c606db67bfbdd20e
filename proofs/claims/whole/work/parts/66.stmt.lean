/-! the tape: statements -/
def pt (r : RM) := (RM_shelf r, RM_rowSort r, RM_rowSize r, RM_rows r, RM_shown r, RM_tape r, RM_tapeSize r, RM_refused r, RM_pl r)
def Pt (r r' : RM) : Prop := pt r' = pt r
theorem Pt.trans {r1 r2 r3 : RM} (h : Pt r1 r2) (k : Pt r2 r3) : Pt r1 r3 := Eq.trans k h
theorem Pt.ofS {r r' : RM} (k : Sg r r') : Pt r r' := by
  have h : sg r' = sg r := k
  unfold sg at h
  unfold Pt pt
  simp only [Prod.mk.injEq] at h ⊢
  obtain ⟨g1, g2, g3, g4, g5, g6, g7, g8, -, -, -, -, -, -, -, -, -, -, g19⟩ := h
  exact ⟨g1, g2, g3, g4, g5, g6, g7, g8, g19⟩
theorem Pt.ne {r r' : RM} (k : NE r r') : Pt r r' := by
  obtain ⟨g1, g2, g3, g4, -, g6, g7, g8, g9, -, -, -, -, -, -, -, -, -, -, -, -, -, -, g24⟩ := k.all
  unfold Pt pt
  rw [g1, g2, g3, g4, g6, g7, g8, g9, g24]
section STMT
variable {c : Nat → Nat} {z : Nat}
theorem RT.ne {r r' : RM} {s : Nat} (h : RT r c z s) (k : NE r r') : RT r' c z s := by
  obtain ⟨-, -, -, -, -, -, g7, g8, -, g10, g11, g12, g13, -⟩ := k.all
  unfold RT RpC at h ⊢
  rw [g7, g8, g10, g11, g12, g13]
  exact h
def OG (c : Nat → Nat) (z s : Nat) (a0 : AE) (r0 : RM) (tp' : TP) (ev' : EV) (r' : RM) : Prop := ∃ q a', te c z s ≤ q ∧ q ≤ z ∧ CT tp' c z q ∧ RT r' c z q ∧ EvA ev' a' ∧ RmA r' a' ∧ OkA a' ∧ Pt r0 r' ∧ RM_statements r' = RM_statements r0 ∧ aN a0 ≤ aN a'
def OB (c : Nat → Nat) (z : Nat) (r0 : RM) (tp' : TP) (r' : RM) : Prop := ∃ q, q ≤ z ∧ TpC tp' c z ∧ TP_start tp' = nI q ∧ RM_fault r' = nI q ∧ Pt r0 r'
def RS (c : Nat → Nat) (z s : Nat) (a0 : AE) (r0 : RM) (cl : Option (Int32 × TP × EV)) (rf : Option (Int32 × RM)) : Prop := (∃ tp' ev' r', cl = some (1, tp', ev') ∧ rf = some (1, r') ∧ OG c z s a0 r0 tp' ev' r') ∨ ∃ tp' ev' r', cl = some (0, tp', ev') ∧ rf = some (0, r') ∧ OB c z r0 tp' r'
theorem R_tells1 (b : Bt c z) {r : RM} {s : Nat} (hs : s ≤ z) (h : RT r c z s) (hty : ty c z s ≠ 4) {lo hi : Int32} (hhi : hi.toInt < 100000) (g : okn c z (ts c z (te c z s)) = true ∧ lo.toInt ≤ num c z (ts c z (te c z s)) ∧ (num c z (ts c z (te c z s)) : Int) ≤ hi.toInt) : ∃ r', M_X6_tells NN r lo hi = some (1, r') ∧ RT r' c z (ts c z (te c z (ts c z (te c z s)))) ∧ Sg r r' ∧ RM_statements r' = RM_statements r ∧ RM_told r' = upd (RM_told r) 0 (nI (num c z (ts c z (te c z s)))) := by
  have hte := te_le c hs
  have hts := ts_le c hte.2
  obtain ⟨r1, w1, w2, w3⟩ := R_look b h.1 hte.2 (h.2.2.2.1 hty)
  obtain ⟨r', x1, x2, x3, x4, x5⟩ := R_num b hts.2 w3 (j := 0) (by omega) hhi g
  have x1' : M_X6_number NN r1 0 lo hi = some (1, r') := x1
  refine ⟨r', ?_, x2, w2.1.trans x3, x4.trans w2.2.2, by rw [x5, w2.2.1]⟩
  unfold M_X6_tells
  rw [w1, Option.bind_some, x1', Option.bind_some]
  exact if_neg (not_not_intro (Or.inr rfl))
theorem R_tells0 (b : Bt c z) {r : RM} {s : Nat} (hs : s ≤ z) (h : RT r c z s) (hty : ty c z s ≠ 4) {lo hi : Int32} (hhi : hi.toInt < 100000) (g : ¬ (okn c z (ts c z (te c z s)) = true ∧ lo.toInt ≤ num c z (ts c z (te c z s)) ∧ (num c z (ts c z (te c z s)) : Int) ≤ hi.toInt)) : ∃ r', M_X6_tells NN r lo hi = some (0, r') ∧ Sg r r' ∧ RM_fault r' = nI (ts c z (te c z s)) := by
  have hte := te_le c hs
  have hts := ts_le c hte.2
  obtain ⟨r1, w1, w2, w3⟩ := R_look b h.1 hte.2 (h.2.2.2.1 hty)
  obtain ⟨r', x1, x3, x4⟩ := R_bad b hts.2 w3 (j := 0) hhi g
  refine ⟨r', ?_, w2.1.trans x3, x4⟩
  unfold M_X6_tells
  rw [w1, Option.bind_some, x1, Option.bind_some]
  exact if_neg (not_not_intro (Or.inl rfl))
theorem E_setMin {ev : EV} {a : AE} {r : Nat} (hr : r < 10) (v : Int32) (h : EvA ev a) : ∃ ev', M_X0_setMinutes NN ev (nI r) v = some ev' ∧ EvA ev' (sU a r v) := by
  refine ⟨EV_s_ringMinutes ev (upd (EV_ringMinutes ev) r v), ?_, ⟨h.1, h.2.1, fun i hi => upd_at (h.2.2.1 i hi), h.2.2.2⟩⟩
  unfold M_X0_setMinutes
  rw [if_neg (nI_pos (by omega)), if_neg (show ¬ ((10 : Int32) ≤ nI r) from nI_ge (b := 10) (by omega) (by omega)), if_neg (nI_in (by omega) (by omega)), nI_clamp (by omega)]
theorem RmA.sU {r : RM} {a : AE} (k : Nat) (v : Int32) (h : RmA r a) : RmA (RM_s_minutes r (upd (RM_minutes r) k v)) (sU a k v) := ⟨h.1, h.2.1, fun i hi => upd_at (h.2.2.1 i hi), h.2.2.2⟩
def rM4 (r : RM) : Option (Int32 × RM) := (M_X6_tells NN r 0 9).bind fun r112 => (if r112.1 = 0 then some ((0 : Int32), r112.2) else ((M_X6_number NN r112.2 (1 : Int32) (0 : Int32) (99 : Int32)).bind fun r123 => (if ¬ r123.1 = 0 then (if (0 : Int32) < 0 ∨ 4 ≤ (0 : Int32).toNatClampNeg then none else (if (1 : Int32) < 0 ∨ 4 ≤ (1 : Int32).toNatClampNeg then none else (if (RM_told r123.2 (0 : Int32).toNatClampNeg) < 0 ∨ 10 ≤ (RM_told r123.2 (0 : Int32).toNatClampNeg).toNatClampNeg then none else some ((1 : Int32), RM_s_minutes r123.2 (upd (RM_minutes r123.2) (RM_told r123.2 (0 : Int32).toNatClampNeg).toNatClampNeg (RM_told r123.2 (1 : Int32).toNatClampNeg)))))) else some ((0 : Int32), r123.2))))
theorem x0_in : ¬ ((0 : Int32) < 0 ∨ 4 ≤ (0 : Int32).toNatClampNeg) := by decide
theorem x1_in : ¬ ((1 : Int32) < 0 ∨ 4 ≤ (1 : Int32).toNatClampNeg) := by decide
theorem T_minutes (b : Bt c z) {tp : TP} {ev : EV} {r : RM} {a : AE} {s : Nat} (hs : s ≤ z) (hC : CT tp c z s) (hR : RT r c z s) (hty : ty c z s = 1) (h1 : EvA ev a) (h2 : RmA r a) (ok : OkA a) : RS c z s a r (M_X4_readMinutes NN tp ev) (rM4 r) := by
  have hz := b.1
  have hte := te_le c hs
  have hq1 := ts_le c hte.2
  obtain ⟨tp1, w1, w2, w3⟩ := C_num b hs hC
  have ht1 := R_tells1 b hs hR (by omega) (lo := 0) (hi := 9) (by decide)
  have ht0 := R_tells0 b hs hR (by omega) (lo := 0) (hi := 9) (by decide)
  rw [show (0 : Int32).toInt = 0 from rfl, show (9 : Int32).toInt = 9 from rfl] at ht1 ht0
  unfold M_X4_readMinutes rM4
  rw [w1, Option.bind_some]
  generalize ts c z (te c z s) = q at *
  by_cases g : okn c z q = true ∧ (0 : Int) ≤ num c z q ∧ (num c z q : Int) ≤ 9
  · obtain ⟨r1, x1, x2, x3, x4, x5⟩ := ht1 g
    obtain ⟨g1, -, g3⟩ := g
    have hte2 := te_le c hq1.2
    have hq2 := ts_le c hte2.2
    obtain ⟨tp2, y1, y2, y3⟩ := C_num b hq1.2 w2
    rw [g1, if_neg (show ¬ oB true = 0 by decide), w3 g1, if_pos (show nI (num c z q) < (10 : Int32) from (nI_ltI (b := 10) (by omega) (by omega)).mpr (by omega)), x1, Option.bind_some, if_neg n10]
    have hn1 := fun g => R_num b hq2.2 x2 (j := 1) (by omega) (lo := 0) (hi := 99) (by decide) g
    have hn0 := fun g => R_bad b hq2.2 x2 (j := 1) (lo := 0) (hi := 99) (by decide) g
    have hy := te_le c hq2.2
    have hq3 := ts_le c hy.2
    generalize ts c z (te c z q) = q2 at *
    have hn := (num_ok hq1.2 g1).2.2.2
    by_cases g : okn c z q2 = true ∧ (0 : Int32).toInt ≤ num c z q2 ∧ (num c z q2 : Int) ≤ (99 : Int32).toInt
    · obtain ⟨r3, u1, u2, u3, u4, u5⟩ := hn1 g
      rw [show (99 : Int32).toInt = 99 from rfl] at g
      have hm := (num_ok hq2.2 g.1).2.2.2
      obtain ⟨ev', v1, v2⟩ := E_setMin (r := num c z q) (by omega) (nI (num c z q2)) h1
      obtain ⟨tp3, t1, t2⟩ := C_read b y2.1 hy.2 y2.2.2.2.1
      have a3 : RmA r3 a := (h2.sg x3).sg u3
      have u1' : M_X6_number NN r1 1 0 99 = some (1, r3) := u1
      have e0 : RM_told r3 0 = nI (num c z q) := by rw [u5, x5, upd_ne (by decide), upd_eq]
      have e1 : RM_told r3 1 = nI (num c z q2) := by rw [u5, upd_eq]
      refine Or.inl ⟨tp3, ev', RM_s_minutes r3 (upd (RM_minutes r3) (num c z q) (nI (num c z q2))), ?_, ?_, ts c z (te c z q2), _, by omega, hq3.2, t2, u2.ne (ne_minutes _ _), v2, a3.sU _ _, ok, ?_, ?_, Nat.le_refl _⟩
      · rw [y1, Option.bind_some, g.1, if_neg (show ¬ oB true = 0 by decide), y3 g.1, if_pos (show nI (num c z q2) ≤ (99 : Int32) from (nI_leI (b := 99) (by omega) (by omega)).mpr (by omega)), v1, Option.bind_some, t1, Option.bind_some]
      · rw [u1', Option.bind_some, if_pos n10, if_neg x0_in, if_neg x1_in, c_0, c_1, e0, e1, if_neg (nI_in (by omega) (by omega)), nI_clamp (by omega)]
      · exact ((Pt.ofS x3).trans (Pt.ofS u3)).trans (Pt.ne (ne_minutes _ _))
      · rw [RM_statements_s_minutes, u4, x4]
    · obtain ⟨r3, u1, u3, u4⟩ := hn0 g
      rw [show (0 : Int32).toInt = 0 from rfl, show (99 : Int32).toInt = 99 from rfl] at g
      have u1' : M_X6_number NN r1 1 0 99 = some (0, r3) := u1
      refine Or.inr ⟨tp2, ev, r3, ?_, ?_, q2, hq2.2, y2.1, y2.2.1, u4, (Pt.ofS x3).trans (Pt.ofS u3)⟩
      · rw [y1, Option.bind_some]
        cases g2 : okn c z q2
        · rw [if_pos (show oB false = 0 by decide)]
        · rw [if_neg (show ¬ oB true = 0 by decide), y3 g2, if_neg (show ¬ nI (num c z q2) ≤ (99 : Int32) from fun w => by
            have hn := (num_ok hq2.2 g2).2.2.2
            have w := (nI_leI (b := 99) (by omega) (by omega)).mp w
            exact g ⟨g2, by omega, by omega⟩)]
      · rw [u1', Option.bind_some, if_neg n00]
  · obtain ⟨r1, x1, x3, x4⟩ := ht0 g
    refine Or.inr ⟨tp1, ev, r1, ?_, ?_, q, hq1.2, w2.1, w2.2.1, x4, Pt.ofS x3⟩
    · cases g1 : okn c z q
      · rw [if_pos (show oB false = 0 by decide)]
      · rw [if_neg (show ¬ oB true = 0 by decide), w3 g1, if_neg (show ¬ nI (num c z q) < (10 : Int32) from fun w => by
          have hn := (num_ok hq1.2 g1).2.2.2
          have w := (nI_ltI (b := 10) (by omega) (by omega)).mp w
          exact g ⟨g1, by omega, by omega⟩)]
    · rw [x1, Option.bind_some, if_pos rfl]
end STMT
