/-! the tape: table -/
section TABLE
variable {c : Nat → Nat} {z : Nat}
theorem R_tab1 (b : Bt c z) {r r1 : RM} {a : AE} {q : Nat} (hq : q ≤ z) (w : M_X6_look NN r = some r1) (h : RT r1 c z q) (h2 : RmA r1 a) (ok : OkA a) : M_X6_tableTold NN r = (if okn c z q = true ∧ num c z q < aN a ∧ aK a (num c z q) ≠ 5 then some (0, RM_s_fault r1 (RM_from r1)) else M_X6_tableTold_j41 NN r1) := by
  have hz := b.1
  have hn := ok.1
  have hty := ty_le c z q
  unfold M_X6_tableTold
  rw [w, Option.bind_some, h.2.2.1, h2.1]
  by_cases e2 : ty c z q = 2
  · rw [if_neg (show ¬ ¬ nI (ty c z q) = (2 : Int32) from not_not_intro (by rw [e2]; rfl)), h.2.2.2.2 e2]
    by_cases l : te c z q - q ≤ 4
    · have ho : okn c z q = true := by
        unfold okn
        rw [e2, decide_eq_true l]
        rfl
      obtain ⟨m1, m2, m3, m4⟩ := num_ok hq ho
      rw [if_pos l, m3]
      by_cases hb : num c z q < aN a
      · have hk := (ok.2 _ hb).1
        rw [if_neg (show ¬ nI (aN a) ≤ nI (num c z q) from by rw [nI_leI (by omega) (by omega)]; omega), if_neg (nI_in (by omega) (by omega)), nI_clamp (by omega), (h2.2.1 _ (by omega)).1]
        by_cases e5 : aK a (num c z q) = 5
        · rw [if_pos (show nI (aK a (num c z q)) = (5 : Int32) by rw [e5]; rfl), if_neg (fun w => w.2.2 e5)]
        · rw [if_neg (show ¬ nI (aK a (num c z q)) = (5 : Int32) from fun w => e5 ((nI_eq (b := 5) (by omega) (by omega)).mp w)), if_pos ⟨ho, hb, e5⟩]
          unfold M_X6_wrong
          rw [Option.bind_some]
          exact if_neg (not_not_intro (Or.inl rfl))
      · rw [if_pos (show nI (aN a) ≤ nI (num c z q) from by rw [nI_leI (by omega) (by omega)]; omega), if_neg (fun w => hb w.2.1)]
    · have ho : ¬ okn c z q = true := by
        unfold okn
        rw [decide_eq_false l, Bool.and_false]
        decide
      rw [if_neg l, if_pos (show nI (aN a) ≤ (100000 : Int32) from by rw [show (100000 : Int32) = nI 100000 from rfl, nI_leI (by omega) (by omega)]; omega), if_neg (fun w => ho w.1)]
  · have ho : ¬ okn c z q = true := by
      unfold okn
      rw [b_ne e2, Bool.false_and]
      decide
    rw [if_pos (show ¬ nI (ty c z q) = (2 : Int32) from fun w => e2 ((nI_eq (b := 2) (by omega) (by omega)).mp w)), if_neg (fun w => ho w.1)]
theorem E_ringD {ev : EV} {a : AE} {b m : Nat} (h : EvA ev a) (ok : OkA a) (hb : b < aN a) (hm : m < 2 ^ 31) : M_X0_hasRing NN ev (nI b) (nI m) = some (oB (decide (m < aZ a b))) := E_ringd h ok hb hm
theorem x2_in : ¬ ((2 : Int32) < 0 ∨ 4 ≤ (2 : Int32).toNatClampNeg) := by decide
theorem x3_in : ¬ ((3 : Int32) < 0 ∨ 4 ≤ (3 : Int32).toNatClampNeg) := by decide
theorem cc_2 : (2 : Int32).toNatClampNeg = 2 := rfl
theorem cc_3 : (3 : Int32).toNatClampNeg = 3 := rfl
/-- one figure more: both go on, or both end there -/
theorem T_num (b : Bt c z) {tp : TP} {r : RM} {q : Nat} (hq : q ≤ z) (hC : CT tp c z q) (hR : RT r c z (ts c z (te c z q))) {j n : Nat} (hj : j < 4) (hn : n ≤ 1024) (h1 : 1 ≤ n) : ∃ tp', CT tp' c z (ts c z (te c z q)) ∧ ts c z (te c z q) ≤ z ∧ te c z q ≤ ts c z (te c z q) ∧ ((∃ v, v < n ∧ (okn c z (ts c z (te c z q)) = true) ∧ num c z (ts c z (te c z q)) = v ∧ M_X4_readNumber NN tp = some (1, tp') ∧ TP_value tp' = nI v ∧ ∃ r', M_X6_number NN r (nI j) 0 (nI (n - 1)) = some (1, r') ∧ RT r' c z (ts c z (te c z (ts c z (te c z q)))) ∧ Sg r r' ∧ RM_statements r' = RM_statements r ∧ RM_told r' = upd (RM_told r) j (nI v)) ∨ ((M_X4_readNumber NN tp = some (0, tp') ∨ ∃ v, n ≤ v ∧ v < 10000 ∧ M_X4_readNumber NN tp = some (1, tp') ∧ TP_value tp' = nI v) ∧ ∃ r', M_X6_number NN r (nI j) 0 (nI (n - 1)) = some (0, r') ∧ Sg r r' ∧ RM_fault r' = nI (ts c z (te c z q)))) := by
  have hz := b.1
  have hte := te_le c hq
  have hq1 := ts_le c hte.2
  obtain ⟨tp1, w1, w2, w3⟩ := C_num b hq hC
  have eh : (nI (n - 1)).toInt = (n : Int) - 1 := by
    rw [nI_toInt (by omega)]
    omega
  have hn1 := fun g => R_num b hq1.2 hR (j := j) hj (lo := 0) (hi := nI (n - 1)) (by omega) g
  have hn0 := fun g => R_bad b hq1.2 hR (j := nI j) (lo := 0) (hi := nI (n - 1)) (by omega) g
  generalize ts c z (te c z q) = q2 at *
  refine ⟨tp1, w2, hq1.2, hq1.1, ?_⟩
  by_cases g : okn c z q2 = true ∧ (0 : Int32).toInt ≤ num c z q2 ∧ (num c z q2 : Int) ≤ (nI (n - 1)).toInt
  · obtain ⟨r3, u1, u2, u3, u4, u5⟩ := hn1 g
    rw [eh] at g
    rw [g.1] at w1
    exact Or.inl ⟨num c z q2, by omega, g.1, rfl, w1, w3 g.1, r3, u1, u2, u3, u4, u5⟩
  · obtain ⟨r3, u1, u3, u4⟩ := hn0 g
    rw [eh, show (0 : Int32).toInt = 0 from rfl] at g
    refine Or.inr ⟨?_, r3, u1, u3, u4⟩
    cases g2 : okn c z q2
    · rw [g2] at w1
      exact Or.inl w1
    · have hm := (num_ok hq1.2 g2).2.2.2
      rw [g2] at w1
      exact Or.inr ⟨num c z q2, by by_cases l : num c z q2 < n; exact absurd ⟨g2, by omega, by omega⟩ g; omega, hm, w1, w3 g2⟩
theorem T_table (b : Bt c z) {tp : TP} {ev : EV} {r : RM} {a : AE} {s : Nat} (hs : s ≤ z) (hC : CT tp c z s) (hR : RT r c z s) (hty : ty c z s = 1) (h1 : EvA ev a) (h2 : RmA r a) (ok : OkA a) : RS c z s a r (M_X4_readTable NN tp ev) (M_X6_tableTold NN r) := by
  have hz := b.1
  have hn := ok.1
  have hte := te_le c hs
  have hq1 := ts_le c hte.2
  obtain ⟨tp1, w1, w2, w3⟩ := C_num b hs hC
  obtain ⟨r1, x1, x2, x3⟩ := R_look b hR.1 hte.2 (hR.2.2.2.1 (by omega))
  have a1 := h2.sg x2.1
  have hb1 := R_barsI a1 ok
  have tab := R_tab1 b hq1.2 x1 x3 a1 ok
  have hn1 := fun g => R_num b hq1.2 x3 (j := 0) (by omega) (lo := 0) (hi := RM_bars r1 - 1) (by omega) g
  have hn0 := fun g => R_bad b hq1.2 x3 (j := 0) (lo := 0) (hi := RM_bars r1 - 1) (by omega) g
  rw [show (0 : Int32).toInt = 0 from rfl, hb1] at hn1 hn0
  unfold M_X4_readTable
  rw [w1, Option.bind_some]
  generalize ts c z (te c z s) = q at *
  by_cases g : okn c z q = true ∧ (0 : Int) ≤ num c z q ∧ (num c z q : Int) ≤ (aN a : Int) - 1
  · obtain ⟨g1, -, g3⟩ := g
    have hb : num c z q < aN a := by omega
    have hk := (ok.2 _ hb).1
    by_cases e5 : aK a (num c z q) = 5
    · rw [if_neg (fun w => w.2.2 e5)] at tab
      rw [tab, g1, if_neg (show ¬ oB true = 0 by decide), w3 g1, E_kind h1 ok hb, Option.bind_some, if_pos (show nI (aK a (num c z q)) = (5 : Int32) by rw [e5]; rfl)]
      obtain ⟨r2, y1, y2, y3, y4, y5⟩ := hn1 ⟨g1, by omega, g3⟩
      have a2 := a1.sg y3
      have hzq := (ok.2 _ hb).2.1
      have hzq2 := (ok.2 _ hb).2.2.1
      have hp := p10 hzq2
      have hp0 := Nat.two_pow_pos (aZ a (num c z q))
      have y1' : M_X6_number NN r1 0 0 (RM_bars r1 - 1) = some (1, r2) := y1
      have t0 : RM_told r2 0 = nI (num c z q) := by rw [y5, upd_eq]
      have sz : RM_size r2 (num c z q) = nI (aZ a (num c z q)) := (a2.2.1 _ (by omega)).2.1
      unfold M_X6_tableTold_j41
      rw [y1', Option.bind_some, if_pos n10, if_neg x0_in, c_0, t0, if_neg (nI_in (by omega) (by omega)), nI_clamp (by omega), sz, nI_s1 hzq]
      obtain ⟨tp2, ct2, l2, l2', st⟩ := T_num b hq1.2 w2 y2 (j := 1) (n := aZ a (num c z q)) (by omega) (by omega) (by omega)
      rcases st with ⟨v, hv, vo, vn, c1, c2, r3, d1, d2, d3, d4, d5⟩ | ⟨hc, r3, d1, d2, d3⟩
      · have d1' : M_X6_number NN r2 1 0 (nI (aZ a (num c z q) - 1)) = some (1, r3) := d1
        have a3 := a2.sg d3
        rw [d1', Option.bind_some, if_neg n10, R_alln a3 ok hb, Option.bind_some, c1, Option.bind_some, if_neg n10, c2, E_ring h1 ok hb hv, Option.bind_some, if_pos n10]
        have p3 := ((Pt.ofS x2.1).trans (Pt.ofS y3)).trans (Pt.ofS d3)
        obtain ⟨tp3, ct3, l3, l3', st⟩ := T_num b l2 ct2 d2 (j := 2) (n := 2 ^ aZ a (num c z q)) (by omega) (by omega) (by omega)
        rcases st with ⟨m, hm, mo, mn, m1, m2, r4, e1, e2, e3, e4, e5'⟩ | ⟨hc, r4, e1, e2, e3⟩
        · have e1' : M_X6_number NN r3 2 0 (nI (2 ^ aZ a (num c z q) - 1)) = some (1, r4) := e1
          have a4 := a3.sg e3
          rw [e1', Option.bind_some, if_neg n10, R_alln a4 ok hb, Option.bind_some, m1, Option.bind_some, if_neg n10, m2, E_setI h1 ok hb hm, Option.bind_some, if_pos n10]
          have p4 := p3.trans (Pt.ofS e3)
          obtain ⟨tp4, ct4, l4, l4', st⟩ := T_num b l3 ct3 e2 (j := 3) (n := 2 ^ aZ a (num c z q)) (by omega) (by omega) (by omega)
          rcases st with ⟨x, hx, xo, xn, f1, f2, r5, u1, u2, u3, u4, u5⟩ | ⟨hc, r5, u1, u2, u3⟩
          · have u1' : M_X6_number NN r4 3 0 (nI (2 ^ aZ a (num c z q) - 1)) = some (1, r5) := u1
            have a5 := a4.sg u3
            have t1 : RM_told r5 1 = nI v := by rw [u5, upd_ne (by decide), e5', upd_ne (by decide), d5, upd_eq]
            have t2 : RM_told r5 2 = nI m := by rw [u5, upd_ne (by decide), e5', upd_eq]
            have t3 : RM_told r5 3 = nI x := by rw [u5, upd_eq]
            obtain ⟨tp5, k1, k2⟩ := C_read b ct4.1 (te_le c l4).2 ct4.2.2.2.1
            have hq5 := ts_le c (te_le c l4).2
            have hle := (te_le c l4).1
            have g0 := te_le c hq1.2
            have g2 := te_le c l2
            have g3 := te_le c l3
            refine Or.inl ⟨tp5, _, RM_s_not (RM_s_must r5 (va_up (RM_must r5) (num c z q) (upd (RM_must r5 (num c z q)) v (nI m)))) (va_up (RM_not r5) (num c z q) (upd (RM_not r5 (num c z q)) v (nI x))), ?_, ?_, _, sM a (num c z q) v m x, ?_, hq5.2, k2, (u2.ne (ne_must _ _)).ne (ne_not _ _), h1.sM (by omega), a5.sM, ok.sM fun _ => ⟨hm, hx⟩, ((p4.trans (Pt.ofS u3)).trans (Pt.ne (ne_must _ _))).trans (Pt.ne (ne_not _ _)), ?_, Nat.le_refl _⟩
            · rw [f1, Option.bind_some, if_neg n10, f2, E_setI h1 ok hb hx, Option.bind_some, if_pos n10, E_tell h1 ok hb hv, Option.bind_some, k1, Option.bind_some]
            · rw [u1', Option.bind_some, if_pos n10]
              simp only [RM_told_s_must, RM_not_s_must, c_1, cc_2, cc_3, t1, t2, t3, nI_clamp (show v < 2 ^ 31 by omega)]
              have i4 : ¬ (nI (num c z q) < 0 ∨ 4 ≤ num c z q) := fun w => w.elim (nI_pos (by omega)) (by omega)
              have i10 : ¬ (nI v < 0 ∨ 10 ≤ v) := fun w => w.elim (nI_pos (by omega)) (by omega)
              have j1 : ¬ ((1 : Int32) < 0 ∨ 4 ≤ 1) := by decide
              have j2 : ¬ ((2 : Int32) < 0 ∨ 4 ≤ 2) := by decide
              have j3 : ¬ ((3 : Int32) < 0 ∨ 4 ≤ 3) := by decide
              simp only [if_neg i4, if_neg i10, if_neg j1, if_neg j2, if_neg j3]
            · omega
            · rw [RM_statements_s_not, RM_statements_s_must, u4, e4, d4, y4]
              exact x2.2.2
          · have u1' : M_X6_number NN r4 3 0 (nI (2 ^ aZ a (num c z q) - 1)) = some (0, r5) := u1
            refine Or.inr ⟨tp4, ev, r5, ?_, ?_, _, l4, ct4.1, ct4.2.1, u3, p4.trans (Pt.ofS u2)⟩
            · rcases hc with hc | ⟨x, v1, v2, v3, v4⟩
              · rw [hc, Option.bind_some, if_pos rfl]
              · rw [v3, Option.bind_some, if_neg n10, v4, E_setD h1 ok hb (by omega), Option.bind_some, decide_eq_false (by omega), if_neg (show ¬ ¬ oB false = 0 by decide)]
            · rw [u1', Option.bind_some, if_neg n00]
        · have e1' : M_X6_number NN r3 2 0 (nI (2 ^ aZ a (num c z q) - 1)) = some (0, r4) := e1
          refine Or.inr ⟨tp3, ev, r4, ?_, ?_, _, l3, ct3.1, ct3.2.1, e3, p3.trans (Pt.ofS e2)⟩
          · rcases hc with hc | ⟨m, v1, v2, v3, v4⟩
            · rw [hc, Option.bind_some, if_pos rfl]
            · rw [v3, Option.bind_some, if_neg n10, v4, E_setD h1 ok hb (by omega), Option.bind_some, decide_eq_false (by omega), if_neg (show ¬ ¬ oB false = 0 by decide)]
          · rw [e1', Option.bind_some, if_pos rfl]
      · have d1' : M_X6_number NN r2 1 0 (nI (aZ a (num c z q) - 1)) = some (0, r3) := d1
        refine Or.inr ⟨tp2, ev, r3, ?_, ?_, _, l2, ct2.1, ct2.2.1, d3, ((Pt.ofS x2.1).trans (Pt.ofS y3)).trans (Pt.ofS d2)⟩
        · rcases hc with hc | ⟨v, v1, v2, v3, v4⟩
          · rw [hc, Option.bind_some, if_pos rfl]
          · rw [v3, Option.bind_some, if_neg n10, v4, E_ringD h1 ok hb (by omega), Option.bind_some, decide_eq_false (by omega), if_neg (show ¬ ¬ oB false = 0 by decide)]
        · rw [d1', Option.bind_some, if_pos rfl]
    · rw [if_pos ⟨g1, hb, e5⟩] at tab
      rw [tab, g1, if_neg (show ¬ oB true = 0 by decide), w3 g1, E_kind h1 ok hb, Option.bind_some, if_neg (show ¬ nI (aK a (num c z q)) = (5 : Int32) from fun w => e5 ((nI_eq (b := 5) (by omega) (by omega)).mp w))]
      refine Or.inr ⟨tp1, ev, RM_s_fault r1 (RM_from r1), rfl, rfl, q, hq1.2, w2.1, w2.2.1, ?_, (Pt.ofS x2.1).trans (Pt.ofS (sg_fault' _ _))⟩
      rw [RM_fault_s_fault, x3.2.1]
  · obtain ⟨r2, y1, y3, y4⟩ := hn0 g
    rw [if_neg (fun w => g ⟨w.1, by omega, by have := w.2.1; omega⟩)] at tab
    rw [tab]
    refine Or.inr ⟨tp1, ev, r2, ?_, ?_, q, hq1.2, w2.1, w2.2.1, y4, (Pt.ofS x2.1).trans (Pt.ofS y3)⟩
    · cases g1 : okn c z q
      · rw [if_pos (show oB false = 0 by decide)]
      · have hm := (num_ok hq1.2 g1).2.2.2
        rw [if_neg (show ¬ oB true = 0 by decide), w3 g1]
        have ek : M_X0_kindOf NN ev (nI (num c z q)) = some (-1) := by
          unfold M_X0_kindOf
          rw [E_barD h1 ok (by omega), Option.bind_some, decide_eq_false (fun w => g ⟨g1, by omega, by omega⟩), if_pos (show oB false = 0 by decide)]
        rw [ek, Option.bind_some, if_neg (show ¬ (-1 : Int32) = 5 by decide)]
    · unfold M_X6_tableTold_j41
      rw [y1, Option.bind_some, if_neg n00]
end TABLE
