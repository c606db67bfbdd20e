/-! the tape: stuck, table, move -/
section STMT2
variable {c : Nat → Nat} {z : Nat}
theorem E_barD {ev : EV} {a : AE} {n : Nat} (h : EvA ev a) (ok : OkA a) (hn : n < 2 ^ 31) : M_X0_hasBar NN ev (nI n) = some (oB (decide (n < aN a))) := by
  by_cases l : n < aN a
  · rw [decide_eq_true l]
    exact E_bar h ok l
  · rw [decide_eq_false l]
    have := ok.1
    exact E_nobar h ok fun ⟨b, hb, e⟩ => l (by rw [(nI_eq hn (by omega)).mp e]; exact hb)
theorem E_setD {ev : EV} {a : AE} {b n : Nat} (h : EvA ev a) (ok : OkA a) (hb : b < aN a) (hn : n < 2 ^ 31) : M_X0_hasSet NN ev (nI b) (nI n).toInt64 = some (oB (decide (n < 2 ^ aZ a b))) := by
  have hp := p10 (ok.2 b hb).2.2.1
  by_cases l : n < 2 ^ aZ a b
  · rw [decide_eq_true l]
    exact E_setI h ok hb l
  · rw [decide_eq_false l]
    exact E_nosetb h ok hb fun ⟨s, hs, e⟩ => l (by rw [(nI_eq hn (by omega)).mp e]; exact hs)
theorem R_barsI {r : RM} {a : AE} (h : RmA r a) (ok : OkA a) : (RM_bars r - 1).toInt = (aN a : Int) - 1 := by
  have := ok.1
  rw [h.1, show (1 : Int32) = nI 1 from rfl, pk_sub_toInt (by omega) (by omega)]
  rfl
theorem E_fast {ev : EV} {a : AE} {b s : Nat} (h : EvA ev a) (ok : OkA a) (hb : b < aN a) : ∃ ev', M_X0_fasten NN ev (nI b) (nI s) = some ev' ∧ EvA ev' (sT a b s) := by
  refine ⟨EV_s_stucks ev (upd (EV_stucks ev) b (nI s)), ?_, h.sT⟩
  unfold M_X0_fasten
  rw [E_bar h ok hb, Option.bind_some, if_neg (by decide), if_neg (E_in ok hb), E_cl ok hb]
def rM2 (r : RM) : Option (Int32 × RM) := (M_X6_tells NN r (0 : Int32) ((RM_bars r) - (1 : Int32))).bind fun r39 => (if r39.1 = 0 then some ((0 : Int32), r39.2) else (if (0 : Int32) < 0 ∨ 4 ≤ (0 : Int32).toNatClampNeg then none else ((M_X6_all NN r39.2 (RM_told r39.2 (0 : Int32).toNatClampNeg)).bind fun r55 => ((M_X6_number NN r39.2 (1 : Int32) (0 : Int32) r55).bind fun r58 => (if ¬ r58.1 = 0 then (if (0 : Int32) < 0 ∨ 4 ≤ (0 : Int32).toNatClampNeg then none else (if (1 : Int32) < 0 ∨ 4 ≤ (1 : Int32).toNatClampNeg then none else (if (RM_told r58.2 (0 : Int32).toNatClampNeg) < 0 ∨ 4 ≤ (RM_told r58.2 (0 : Int32).toNatClampNeg).toNatClampNeg then none else some ((1 : Int32), RM_s_stuck r58.2 (upd (RM_stuck r58.2) (RM_told r58.2 (0 : Int32).toNatClampNeg).toNatClampNeg (RM_told r58.2 (1 : Int32).toNatClampNeg)))))) else some ((0 : Int32), r58.2))))))
theorem T_stuck (b : Bt c z) {tp : TP} {ev : EV} {r : RM} {a : AE} {s : Nat} (hs : s ≤ z) (hC : CT tp c z s) (hR : RT r c z s) (hty : ty c z s = 1) (h1 : EvA ev a) (h2 : RmA r a) (ok : OkA a) : RS c z s a r (M_X4_readStuck NN tp ev) (rM2 r) := by
  have hz := b.1
  have hn := ok.1
  have hte := te_le c hs
  have hq1 := ts_le c hte.2
  obtain ⟨tp1, w1, w2, w3⟩ := C_num b hs hC
  have hb1 := R_barsI h2 ok
  have ht1 := R_tells1 b hs hR (by omega) (lo := 0) (hi := RM_bars r - 1) (by omega)
  have ht0 := R_tells0 b hs hR (by omega) (lo := 0) (hi := RM_bars r - 1) (by omega)
  rw [show (0 : Int32).toInt = 0 from rfl, hb1] at ht1 ht0
  unfold M_X4_readStuck rM2
  rw [w1, Option.bind_some]
  generalize ts c z (te c z s) = q at *
  by_cases g : okn c z q = true ∧ (0 : Int) ≤ num c z q ∧ (num c z q : Int) ≤ (aN a : Int) - 1
  · obtain ⟨r1, x1, x2, x3, x4, x5⟩ := ht1 g
    obtain ⟨g1, -, g3⟩ := g
    have hb : num c z q < aN a := by omega
    have hp := p10 (ok.2 _ hb).2.2.1
    have hp0 := Nat.two_pow_pos (aZ a (num c z q))
    have hte2 := te_le c hq1.2
    have hq2 := ts_le c hte2.2
    obtain ⟨tp2, y1, y2, y3⟩ := C_num b hq1.2 w2
    have a1 := h2.sg x3
    have e0 : RM_told r1 0 = nI (num c z q) := by rw [x5, upd_eq]
    have eh : (nI (2 ^ aZ a (num c z q) - 1)).toInt = ((2 ^ aZ a (num c z q) : Nat) : Int) - 1 := by
      rw [nI_toInt (by omega)]
      omega
    rw [g1, if_neg (show ¬ oB true = 0 by decide), w3 g1, E_bar h1 ok hb, Option.bind_some, if_pos n10, x1, Option.bind_some, if_neg n10, if_neg x0_in, c_0, e0, R_alln a1 ok hb, Option.bind_some]
    have hn1 := fun g => R_num b hq2.2 x2 (j := 1) (by omega) (lo := 0) (hi := nI (2 ^ aZ a (num c z q) - 1)) (by omega) g
    have hn0 := fun g => R_bad b hq2.2 x2 (j := 1) (lo := 0) (hi := nI (2 ^ aZ a (num c z q) - 1)) (by omega) g
    have hy := te_le c hq2.2
    have hq3 := ts_le c hy.2
    generalize ts c z (te c z q) = q2 at *
    by_cases g : okn c z q2 = true ∧ (0 : Int32).toInt ≤ num c z q2 ∧ (num c z q2 : Int) ≤ (nI (2 ^ aZ a (num c z q) - 1)).toInt
    · obtain ⟨r3, u1, u2, u3, u4, u5⟩ := hn1 g
      rw [eh] at g
      have hv : num c z q2 < 2 ^ aZ a (num c z q) := by omega
      obtain ⟨ev', v1, v2⟩ := E_fast (s := num c z q2) h1 ok hb
      obtain ⟨tp3, t1, t2⟩ := C_read b y2.1 hy.2 y2.2.2.2.1
      have a3 : RmA r3 a := a1.sg u3
      have u1' : M_X6_number NN r1 1 0 (nI (2 ^ aZ a (num c z q) - 1)) = some (1, r3) := u1
      have e0 : RM_told r3 0 = nI (num c z q) := by rw [u5, upd_ne (by decide), e0]
      have e1 : RM_told r3 1 = nI (num c z q2) := by rw [u5, upd_eq]
      refine Or.inl ⟨tp3, ev', RM_s_stuck r3 (upd (RM_stuck r3) (num c z q) (nI (num c z q2))), ?_, ?_, ts c z (te c z q2), _, by omega, hq3.2, t2, u2.ne (ne_stuck _ _), v2, a3.sT, ok.sT fun _ => hv, ?_, ?_, Nat.le_refl _⟩
      · rw [y1, Option.bind_some, g.1, if_neg (show ¬ oB true = 0 by decide), y3 g.1, E_setI h1 ok hb hv, Option.bind_some, if_pos n10, v1, Option.bind_some, t1, Option.bind_some]
      · rw [u1', Option.bind_some, if_pos n10, if_neg (show ¬ ((0 : Int32) < 0 ∨ 4 ≤ 0) by decide), if_neg x1_in, c_1, e0, e1, if_neg (nI_in (by omega) (by omega)), nI_clamp (by omega)]
      · exact ((Pt.ofS x3).trans (Pt.ofS u3)).trans (Pt.ne (ne_stuck _ _))
      · rw [RM_statements_s_stuck, u4, x4]
    · obtain ⟨r3, u1, u3, u4⟩ := hn0 g
      rw [show (0 : Int32).toInt = 0 from rfl, eh] at g
      have u1' : M_X6_number NN r1 1 0 (nI (2 ^ aZ a (num c z q) - 1)) = some (0, r3) := u1
      refine Or.inr ⟨tp2, ev, r3, ?_, ?_, q2, hq2.2, y2.1, y2.2.1, u4, (Pt.ofS x3).trans (Pt.ofS u3)⟩
      · rw [y1, Option.bind_some]
        cases g2 : okn c z q2
        · rw [if_pos (show oB false = 0 by decide)]
        · have hm := (num_ok hq2.2 g2).2.2.2
          rw [if_neg (show ¬ oB true = 0 by decide), y3 g2, E_setD h1 ok hb (by omega), Option.bind_some, decide_eq_false (fun w => g ⟨g2, by omega, by omega⟩), if_neg (show ¬ ¬ oB false = 0 by decide)]
      · rw [u1', Option.bind_some, if_neg n00]
  · obtain ⟨r1, x1, x3, x4⟩ := ht0 g
    refine Or.inr ⟨tp1, ev, r1, ?_, ?_, q, hq1.2, w2.1, w2.2.1, x4, Pt.ofS x3⟩
    · cases g1 : okn c z q
      · rw [if_pos (show oB false = 0 by decide)]
      · have hm := (num_ok hq1.2 g1).2.2.2
        rw [if_neg (show ¬ oB true = 0 by decide), w3 g1, E_barD h1 ok (by omega), Option.bind_some, decide_eq_false (fun w => g ⟨g1, by omega, by omega⟩), if_neg (show ¬ ¬ oB false = 0 by decide)]
    · rw [x1, Option.bind_some, if_pos rfl]
/-! move -/
def RS4 (c : Nat → Nat) (z s : Nat) (a0 : AE) (r0 : RM) (cl : Option (Int32 × TP × EV × LW)) (rf : Option (Int32 × RM)) : Prop := (∃ tp' ev' lw' r', cl = some (1, tp', ev', lw') ∧ rf = some (1, r') ∧ OG c z s a0 r0 tp' ev' r') ∨ ∃ tp' ev' lw' r', cl = some (0, tp', ev', lw') ∧ rf = some (0, r') ∧ OB c z r0 tp' r'
theorem C_hasBitW {q : PL} {s m : Nat} (hz : q.2.1 ≤ 10) (hm : m < 2 ^ 31) : M_X5_hasBit NN (nI (lg q s)) (nI m) = some (oB (lgl q s m)) := by
  by_cases l : m ≤ 20
  · exact C_hasBit l
  · have hf : lgl q s m = false := by
      cases e : lgl q s m
      · rfl
      · have := (mvb_20 hz (mvb_of e)).1
        omega
    rw [hf]
    unfold M_X5_hasBit
    rw [if_neg (nI_pos hm)]
    by_cases l2 : 32 ≤ m
    · rw [if_pos (show (32 : Int32) ≤ nI m from (nI_leI (a := 32) (by omega) hm).mpr l2)]
      rfl
    · rw [if_neg (show ¬ (32 : Int32) ≤ nI m from fun w => l2 ((nI_leI (a := 32) (by omega) hm).mp w))]
      have eb := bit_0 (nI (lg q s)) (show m < 32 by omega)
      have hb : (lg q s).testBit m = false := Nat.testBit_lt_two_pow (Nat.lt_of_lt_of_le (lg_lt q s) (Nat.pow_le_pow_right (by omega) (by omega)))
      rw [if_pos (eb.mpr (by rw [bt_nI, hb, Bool.and_false]))]
      rfl
theorem RmA.mvS {r : RM} {a : AE} {b m : Nat} (h : RmA r a) (ok : OkA a) (hb : b < aN a) (hm : m ≤ 20) : ∃ R, RM_s_movedAll (RM_s_on r (upd (RM_on r) b (nI (aO a b ^^^ mk m)))) (RM_movedAll (RM_s_on r (upd (RM_on r) b (nI (aO a b ^^^ mk m)))) + 1) = R ∧ RmA R (aMv a b m) ∧ NE r R := by
  obtain ⟨R, g1, g2, g3⟩ := R_make (N := NN) h ok hb hm
  refine ⟨R, ?_, g2, g3⟩
  have hn := ok.1
  unfold M_X6_makes at g1
  rw [if_neg (E_in ok hb), M_mask hm, Option.bind_some, if_neg (E_in ok hb), E_cl ok hb, (h.2.1 b (by omega)).2.2.1, fb_xorI] at g1
  exact Option.some.inj g1
theorem T_move (b : Bt c z) {tp : TP} {ev : EV} {lw : LW} {r : RM} {a : AE} {s : Nat} (hs : s ≤ z) (hC : CT tp c z s) (hR : RT r c z s) (hty : ty c z s = 1) (h1 : EvA ev a) (h2 : RmA r a) (ok : OkA a) : RS4 c z s a r (M_X4_readMove NN tp ev lw) (M_X6_moveTold NN r) := by
  have hz := b.1
  have hn := ok.1
  have hte := te_le c hs
  have hq1 := ts_le c hte.2
  obtain ⟨tp1, w1, w2, w3⟩ := C_num b hs hC
  have hb1 := R_barsI h2 ok
  have ht1 := R_tells1 b hs hR (by omega) (lo := 0) (hi := RM_bars r - 1) (by omega)
  have ht0 := R_tells0 b hs hR (by omega) (lo := 0) (hi := RM_bars r - 1) (by omega)
  rw [show (0 : Int32).toInt = 0 from rfl, hb1] at ht1 ht0
  unfold M_X4_readMove M_X6_moveTold
  rw [w1, Option.bind_some]
  generalize ts c z (te c z s) = q at *
  by_cases g : okn c z q = true ∧ (0 : Int) ≤ num c z q ∧ (num c z q : Int) ≤ (aN a : Int) - 1
  · obtain ⟨r1, x1, x2, x3, x4, x5⟩ := ht1 g
    obtain ⟨g1, -, g3⟩ := g
    have hb : num c z q < aN a := by omega
    have okq := aL_ok ok hb
    have hzq := okq.2.2.1
    have ho := (ok.2 _ hb).2.2.2.1
    have hte2 := te_le c hq1.2
    have hq2 := ts_le c hte2.2
    obtain ⟨tp2, y1, y2, y3⟩ := C_num b hq1.2 w2
    have a1 := h2.sg x3
    have e0 : RM_told r1 0 = nI (num c z q) := by rw [x5, upd_eq]
    have hon : RM_on r1 (num c z q) = nI (aO a (num c z q)) := (a1.2.1 _ (by omega)).2.2.1
    obtain ⟨lw', l1, l2⟩ := C_take (N := NN) h1 ok hb lw
    rw [g1, if_neg (show ¬ oB true = 0 by decide), w3 g1, E_bar h1 ok hb, Option.bind_some, if_pos n10, l1, Option.bind_some, y1, Option.bind_some, x1, Option.bind_some, if_pos n10, if_neg x0_in]
    have hy := te_le c hq2.2
    have hq3 := ts_le c hy.2
    generalize ts c z (te c z q) = q2 at *
    obtain ⟨rw0, v1, v2, v3⟩ := R_wrong' x2
    have ej : M_X6_moveTold_j64 NN r1 = some (0, rw0) := by
      unfold M_X6_moveTold_j64
      rw [v1, Option.bind_some]
      exact if_neg (not_not_intro (Or.inl rfl))
    have bad : ∀ {cl : Option (Int32 × TP × EV × LW)}, cl = some (0, tp2, ev, lw') → RS4 c z s a r cl (some (0, rw0)) := fun e => Or.inr ⟨tp2, ev, lw', rw0, e, rfl, q2, hq2.2, y2.1, y2.2.1, v3, (Pt.ofS x3).trans (Pt.ofS v2)⟩
    have hty2 := ty_le c z q2
    rw [x2.2.2.1, ej]
    by_cases e2 : ty c z q2 = 2
    · rw [if_neg (show ¬ ¬ nI (ty c z q2) = (2 : Int32) from not_not_intro (by rw [e2]; rfl)), x2.2.2.2.2 e2]
      by_cases l : te c z q2 - q2 ≤ 4
      · have ho2 : okn c z q2 = true := by
          unfold okn
          rw [e2, decide_eq_true l]
          rfl
        obtain ⟨m1, m2, m3, m4⟩ := num_ok hq2.2 ho2
        rw [if_pos l, m3, ho2, if_neg (show ¬ oB true = 0 by decide), y3 ho2, E_on h1 ok hb, Option.bind_some, L_legal l2 okq ho, Option.bind_some, C_hasBitW hzq (by omega), Option.bind_some]
        by_cases lm : num c z q2 ≤ 20
        · have ein : M_X6_in NN (nI (num c z q2)).toInt64 0 20 = some 1 := R_in1 (by rw [Int32.toInt_toInt64, nI_toInt (by omega)]; exact Int.natCast_nonneg _) (by rw [Int32.toInt_toInt64, nI_toInt (by omega)]; show _ ≤ (20 : Int); omega)
          rw [ein, Option.bind_some, if_neg n10, c_0, e0, if_neg (nI_in (by omega) (by omega)), nI_clamp (by omega), hon, R_may a1 ok hb ho (by omega), Option.bind_some]
          cases gl : lgl (aL a (num c z q)) (aO a (num c z q)) (num c z q2)
          · rw [if_neg (show ¬ ¬ oB false = 0 by decide), if_neg (show ¬ ¬ oB false = 0 by decide)]
            exact bad rfl
          · obtain ⟨ev', k1, k2⟩ := C_make (N := NN) h1 ok hb (mvb_20 hzq (mvb_of gl)).2
            obtain ⟨R, n1, n2, n3⟩ := a1.mvS ok hb lm
            have xR := x2.ne n3
            obtain ⟨r3, u1, u2, u3⟩ := R_look b xR.1 hy.2 (xR.2.2.2.1 (by omega))
            obtain ⟨tp3, t1, t2⟩ := C_read b y2.1 hy.2 y2.2.2.2.1
            have est : RM_statements R = RM_statements r1 := by
              obtain ⟨-, -, -, -, -, -, -, -, -, -, -, -, -, -, -, g16, -⟩ := n3.all
              exact g16
            refine Or.inl ⟨tp3, ev', lw', r3, ?_, ?_, ts c z (te c z q2), _, by omega, hq3.2, t2, u3, k2, n2.sg u2.1, aMv_ok ok hb (mvb_of gl), ((Pt.ofS x3).trans (Pt.ne n3)).trans (Pt.ofS u2.1), ?_, Nat.le_refl _⟩
            · rw [if_pos (show ¬ oB true = 0 by decide), k1, Option.bind_some, t1, Option.bind_some]
            · have hix : ¬ (nI (num c z q) < 0 ∨ 4 ≤ num c z q) := fun w => w.elim (nI_pos (by omega)) (by omega)
              rw [if_pos (show ¬ oB true = 0 by decide), if_neg hix, M_mask lm, Option.bind_some, if_neg hix, fb_xorI, n1, u1, Option.bind_some]
            · rw [u2.2.2, est, x4]
        · have ein : M_X6_in NN (nI (num c z q2)).toInt64 0 20 = some 0 := R_in0 (by
            rw [Int32.toInt_toInt64, nI_toInt (by omega)]
            show ¬ ((0 : Int) ≤ _ ∧ _ ≤ (20 : Int))
            omega)
          have gl : lgl (aL a (num c z q)) (aO a (num c z q)) (num c z q2) = false := by
            cases gl : lgl (aL a (num c z q)) (aO a (num c z q)) (num c z q2)
            · rfl
            · have := (mvb_20 hzq (mvb_of gl)).1
              omega
          rw [ein, Option.bind_some, if_pos rfl, gl, if_neg (show ¬ ¬ oB false = 0 by decide)]
          exact bad rfl
      · have ho2 : okn c z q2 = false := by
          unfold okn
          rw [decide_eq_false l, Bool.and_false]
        have ein : M_X6_in NN (100000 : Int32).toInt64 0 20 = some 0 := by decide +kernel
        rw [if_neg l, ein, Option.bind_some, if_pos rfl, ho2, if_pos (show oB false = 0 by decide)]
        exact bad rfl
    · have ho2 : okn c z q2 = false := by
        unfold okn
        rw [b_ne e2, Bool.false_and]
      rw [if_pos (show ¬ nI (ty c z q2) = (2 : Int32) from fun w => e2 ((nI_eq (b := 2) (by omega) (by omega)).mp w)), ho2, if_pos (show oB false = 0 by decide)]
      exact bad rfl
  · obtain ⟨r1, x1, x3, x4⟩ := ht0 g
    refine Or.inr ⟨tp1, ev, lw, r1, ?_, ?_, q, hq1.2, w2.1, w2.2.1, x4, Pt.ofS x3⟩
    · cases g1 : okn c z q
      · rw [if_pos (show oB false = 0 by decide)]
      · have hm := (num_ok hq1.2 g1).2.2.2
        rw [if_neg (show ¬ oB true = 0 by decide), w3 g1, E_barD h1 ok (by omega), Option.bind_some, decide_eq_false (fun w => g ⟨g1, by omega, by omega⟩), if_neg (show ¬ ¬ oB false = 0 by decide)]
    · rw [x1, Option.bind_some, if_neg n00]
end STMT2
