/-! the tape: bar -/
section BAR
variable {c : Nat → Nat} {z : Nat}
theorem E_turn {ev : EV} {a : AE} {b s : Nat} (h : EvA ev a) (ok : OkA a) (hb : b < aN a) : ∃ ev', M_X0_turnOn NN ev (nI b) (nI s) = some ev' ∧ EvA ev' (sO a b s) := by
  refine ⟨EV_s_ons ev (upd (EV_ons ev) b (nI s)), ?_, h.sO⟩
  unfold M_X0_turnOn
  rw [E_bar h ok hb, Option.bind_some, if_neg (by decide), if_neg (E_in ok hb), E_cl ok hb]
theorem T_bar (b : Bt c z) {tp : TP} {ev : EV} {r : RM} {a : AE} {s : Nat} (hs : s ≤ z) (hC : CT tp c z s) (hR : RT r c z s) (hty : ty c z s = 1) (h1 : EvA ev a) (h2 : RmA r a) (ok : OkA a) (h4 : aN a < 4) : RS c z s a r (M_X4_readBar NN tp ev) (M_X6_barTold NN r) := by
  have hz := b.1
  have hte := te_le c hs
  have hq1 := ts_le c hte.2
  obtain ⟨tp1, w1, w2, w3⟩ := C_num b hs hC
  have em : M_X0_hasMostBars NN ev = some 0 := by
    unfold M_X0_hasMostBars
    rw [h1.1, if_pos (show nI (aN a) < (4 : Int32) from (nI_ltI (b := 4) (by omega) (by omega)).mpr h4)]
  have ht1 := R_tells1 b hs hR (by omega) (lo := 0) (hi := 5) (by decide)
  have ht0 := R_tells0 b hs hR (by omega) (lo := 0) (hi := 5) (by decide)
  rw [show (0 : Int32).toInt = 0 from rfl, show (5 : Int32).toInt = 5 from rfl] at ht1 ht0
  unfold M_X4_readBar M_X6_barTold
  rw [em, Option.bind_some, if_neg n00, w1, Option.bind_some]
  generalize ts c z (te c z s) = q at *
  by_cases g : okn c z q = true ∧ (0 : Int) ≤ num c z q ∧ (num c z q : Int) ≤ 5
  · obtain ⟨r1, x1, x2, x3, x4, x5⟩ := ht1 g
    obtain ⟨g1, -, g3⟩ := g
    have hte2 := te_le c hq1.2
    have hq2 := ts_le c hte2.2
    obtain ⟨tp2, y1, y2, y3⟩ := C_num b hq1.2 w2
    have a1 := h2.sg x3
    rw [g1, if_neg (show ¬ oB true = 0 by decide), w3 g1, if_pos (show nI (num c z q) ≤ (5 : Int32) from (nI_leI (b := 5) (by omega) (by omega)).mpr (by omega)), y1, Option.bind_some, x1, Option.bind_some, if_neg n10]
    have hn1 := fun g => R_num b hq2.2 x2 (j := 1) (by omega) (lo := 1) (hi := 10) (by decide) g
    have hn0 := fun g => R_bad b hq2.2 x2 (j := 1) (lo := 1) (hi := 10) (by decide) g
    rw [show (1 : Int32).toInt = 1 from rfl, show (10 : Int32).toInt = 10 from rfl] at hn1 hn0
    have hy := te_le c hq2.2
    have hq3 := ts_le c hy.2
    generalize ts c z (te c z q) = q2 at *
    by_cases g : okn c z q2 = true ∧ (1 : Int) ≤ num c z q2 ∧ (num c z q2 : Int) ≤ 10
    · obtain ⟨r3, u1, u2, u3, u4, u5⟩ := hn1 g
      obtain ⟨gg, g5, g6⟩ := g
      have u1' : M_X6_number NN r1 1 1 10 = some (1, r3) := u1
      have a3 := a1.sg u3
      have e0 : RM_told r3 0 = nI (num c z q) := by rw [u5, upd_ne (by decide), x5, upd_eq]
      have e1 : RM_told r3 1 = nI (num c z q2) := by rw [u5, upd_eq]
      obtain ⟨ev', v1, v2⟩ := C_addBar (k := num c z q) (z := num c z q2) h1 h4 (by omega)
      obtain ⟨r4, k1, k2, k3⟩ := R_addBar (k := num c z q) (z := num c z q2) a3 h4 (by omega)
      have okB := aB_ok (k := num c z q) (z := num c z q2) ok h4 (by omega) (by omega) (by omega)
      obtain ⟨tp3, t1, t2⟩ := C_read b y2.1 hy.2 y2.2.2.2.1
      have R4 := u2.ne k3
      have st4 : RM_statements r4 = RM_statements r := by
        obtain ⟨-, -, -, -, -, -, -, -, -, -, -, -, -, -, -, g16, -⟩ := k3.all
        rw [g16, u4, x4]
      have p4 : Pt r r4 := ((Pt.ofS x3).trans (Pt.ofS u3)).trans (Pt.ne k3)
      have hbn : aN a < aN (aB a (num c z q) (num c z q2)) := Nat.lt_succ_self _
      have hZ : aZ (aB a (num c z q) (num c z q2)) (aN a) = num c z q2 := if_pos rfl
      have hp := p10 (show num c z q2 ≤ 10 by omega)
      have hp0 := Nat.two_pow_pos (num c z q2)
      rw [gg, if_neg (show ¬ oB true = 0 by decide), y3 gg, if_neg (show ¬ nI (num c z q2) < (1 : Int32) from fun w => by rw [q_lt_1 (by omega)] at w; omega), if_pos (show nI (num c z q2) ≤ (10 : Int32) from (nI_leI (b := 10) (by omega) (by omega)).mpr (by omega)), v1, Option.bind_some, t1, Option.bind_some, u1', Option.bind_some, if_pos n10, if_neg x0_in, if_neg x1_in, c_0, c_1, e0, e1, k1, Option.bind_some]
      generalize ts c z (te c z q2) = q3 at *
      rw [C_isWord b (by omega) hq3.2 t2, R_isWord b (by omega) hq3.2 R4, Option.bind_some, Option.bind_some]
      cases hw : wd c z q3 1
      · rw [if_neg (show ¬ ¬ oB false = 0 by decide), if_pos (show oB false = 0 by decide)]
        exact Or.inl ⟨tp3, ev', r4, rfl, rfl, q3, _, by omega, hq3.2, t2, R4, v2, k2, okB, p4, st4, Nat.le_succ _⟩
      · have hwt := wd_ty hw
        rw [if_pos (show ¬ oB true = 0 by decide), if_neg (show ¬ oB true = 0 by decide)]
        have ebn : RM_bars r4 - 1 = nI (aN a) := by
          rw [k2.1]
          exact nI_s1 (Nat.succ_le_succ (Nat.zero_le _))
        have hall : M_X6_all NN r4 (nI (aN a)) = some (nI (2 ^ num c z q2 - 1)) := by
          have := R_alln (N := NN) k2 okB hbn
          rw [hZ] at this
          exact this
        rw [ebn, hall, Option.bind_some]
        have hte3 := te_le c hq3.2
        have hq4 := ts_le c hte3.2
        obtain ⟨tp4, n1, n2, n3⟩ := C_num b hq3.2 t2
        have eh : (nI (2 ^ num c z q2 - 1)).toInt = ((2 ^ num c z q2 : Nat) : Int) - 1 := by
          rw [nI_toInt (by omega)]
          omega
        have hm1 := R_tells1 b hq3.2 R4 (by omega) (lo := 0) (hi := nI (2 ^ num c z q2 - 1)) (by omega)
        have hm0 := R_tells0 b hq3.2 R4 (by omega) (lo := 0) (hi := nI (2 ^ num c z q2 - 1)) (by omega)
        rw [show (0 : Int32).toInt = 0 from rfl, eh] at hm1 hm0
        generalize ts c z (te c z q3) = q4 at *
        by_cases g : okn c z q4 = true ∧ (0 : Int) ≤ num c z q4 ∧ (num c z q4 : Int) ≤ ((2 ^ num c z q2 : Nat) : Int) - 1
        · obtain ⟨r5, m1, m2, m3, m4, m5⟩ := hm1 g
          have hv : num c z q4 < 2 ^ aZ (aB a (num c z q) (num c z q2)) (aN a) := by rw [hZ]; omega
          have a5 := k2.sg m3
          have f0 : RM_told r5 0 = nI (num c z q4) := by rw [m5, upd_eq]
          have ebn5 : RM_bars r5 - 1 = nI (aN a) := by
            rw [a5.1]
            exact nI_s1 (Nat.succ_le_succ (Nat.zero_le _))
          obtain ⟨ev2, o1, o2⟩ := E_turn (s := num c z q4) v2 okB hbn
          have hy4 := te_le c hq4.2
          obtain ⟨tp5, i1, i2⟩ := C_read b n2.1 hy4.2 n2.2.2.2.1
          have hq5 := ts_le c hy4.2
          refine Or.inl ⟨tp5, ev2, RM_s_on r5 (upd (RM_on r5) (aN a) (nI (num c z q4))), ?_, ?_, ts c z (te c z q4), _, by omega, hq5.2, i2, m2.ne (ne_on _ _), o2, a5.sO, okB.sO fun _ => hv, ((p4.trans (Pt.ofS m3)).trans (Pt.ne (ne_on _ _))), ?_, Nat.le_succ _⟩
          · rw [n1, Option.bind_some, g.1, if_neg (show ¬ oB true = 0 by decide), n3 g.1, E_setI v2 okB hbn hv, Option.bind_some, if_pos n10, o1, Option.bind_some, i1, Option.bind_some]
          · rw [m1, Option.bind_some, if_pos n10, if_neg (show ¬ ((0 : Int32) < 0 ∨ 4 ≤ 0) by decide), ebn5, if_neg (nI_in (by omega) (by omega)), nI_clamp (by omega), f0]
          · rw [RM_statements_s_on, m4, st4]
        · obtain ⟨r5, m1, m3, m4⟩ := hm0 g
          refine Or.inr ⟨tp4, ev', r5, ?_, ?_, q4, hq4.2, n2.1, n2.2.1, m4, p4.trans (Pt.ofS m3)⟩
          · rw [n1, Option.bind_some]
            cases g2 : okn c z q4
            · rw [if_pos (show oB false = 0 by decide)]
            · have hm := (num_ok hq4.2 g2).2.2.2
              rw [if_neg (show ¬ oB true = 0 by decide), n3 g2, E_setD v2 okB hbn (by omega), Option.bind_some, hZ, decide_eq_false (fun w => g ⟨g2, by omega, by omega⟩), if_neg (show ¬ ¬ oB false = 0 by decide)]
          · rw [m1, Option.bind_some, if_neg n00]
    · obtain ⟨r3, u1, u3, u4⟩ := hn0 g
      have u1' : M_X6_number NN r1 1 1 10 = some (0, r3) := u1
      refine Or.inr ⟨tp2, ev, r3, ?_, ?_, q2, hq2.2, y2.1, y2.2.1, u4, (Pt.ofS x3).trans (Pt.ofS u3)⟩
      · cases g2 : okn c z q2
        · rw [if_pos (show oB false = 0 by decide)]
        · have hm := (num_ok hq2.2 g2).2.2.2
          rw [if_neg (show ¬ oB true = 0 by decide), y3 g2]
          by_cases l : nI (num c z q2) < (1 : Int32)
          · rw [if_pos l]
          · rw [if_neg l, if_neg]
            intro w
            rw [q_lt_1 (by omega)] at l
            have w := (nI_leI (b := 10) (by omega) (by omega)).mp w
            exact g ⟨g2, by omega, by omega⟩
      · rw [u1', Option.bind_some, if_neg n00]
  · obtain ⟨r1, x1, x3, x4⟩ := ht0 g
    refine Or.inr ⟨tp1, ev, r1, ?_, ?_, q, hq1.2, w2.1, w2.2.1, x4, Pt.ofS x3⟩
    · cases g1 : okn c z q
      · rw [if_pos (show oB false = 0 by decide)]
      · have hm := (num_ok hq1.2 g1).2.2.2
        rw [if_neg (show ¬ oB true = 0 by decide), w3 g1, if_neg (show ¬ nI (num c z q) ≤ (5 : Int32) from fun w => by
          have w := (nI_leI (b := 5) (by omega) (by omega)).mp w
          exact g ⟨g1, by omega, by omega⟩)]
    · rw [x1, Option.bind_some, if_pos rfl]
end BAR
