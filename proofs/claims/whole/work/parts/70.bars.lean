/-! the tape: a statement, all, bars -/
section ALL
variable {c : Nat → Nat} {z : Nat}
theorem RS.up {s : Nat} {a : AE} {r : RM} {cl : Option (Int32 × TP × EV)} {rf : Option (Int32 × RM)} (h : RS c z s a r cl rf) (lw : LW) : RS4 c z s a r (cl.bind fun r15 => (if ¬ (r15.1 = 0 ∨ r15.1 = 1) then none else some (r15.1, r15.2.1, r15.2.2, lw))) rf := by
  rcases h with ⟨tp', ev', r', rfl, rfl, h⟩ | ⟨tp', ev', r', rfl, rfl, h⟩
  · exact Or.inl ⟨tp', ev', lw, r', rfl, rfl, h⟩
  · exact Or.inr ⟨tp', ev', lw, r', rfl, rfl, h⟩
theorem RS4.wrap {s : Nat} {a : AE} {r : RM} {cl : Option (Int32 × TP × EV × LW)} {rf : Option (Int32 × RM)} (h : RS4 c z s a r cl rf) : RS4 c z s a r cl (rf.bind fun r18 => (if ¬ (r18.1 = 0 ∨ r18.1 = 1) then none else some (r18.1, r18.2))) := by
  rcases h with ⟨tp', ev', lw', r', e, rfl, h⟩ | ⟨tp', ev', lw', r', e, rfl, h⟩
  · exact Or.inl ⟨tp', ev', lw', r', e, rfl, h⟩
  · exact Or.inr ⟨tp', ev', lw', r', e, rfl, h⟩
theorem RS4.mv {s : Nat} {a : AE} {r : RM} {cl : Option (Int32 × TP × EV × LW)} {rf : Option (Int32 × RM)} (h : RS4 c z s a r cl rf) : RS4 c z s a r (cl.bind fun r76 => (if r76.1 = 0 then some ((0 : Int32), r76.2.1, r76.2.2.1, r76.2.2.2) else some ((1 : Int32), r76.2.1, r76.2.2.1, r76.2.2.2))) rf := by
  rcases h with ⟨tp', ev', lw', r', rfl, e, h⟩ | ⟨tp', ev', lw', r', rfl, e, h⟩
  · exact Or.inl ⟨tp', ev', lw', r', rfl, e, h⟩
  · exact Or.inr ⟨tp', ev', lw', r', rfl, e, h⟩
theorem T_stmt (b : Bt c z) {tp : TP} {ev : EV} {lw : LW} {r : RM} {a : AE} {p : Nat} (hp : p ≤ z) (hT : TpC tp c z) (ha : TP_at tp = nI p) (hR : RT r c z (ts c z p)) (h1 : EvA ev a) (h2 : RmA r a) (ok : OkA a) : RS4 c z (ts c z p) a r (M_X4_readStatement NN tp ev lw) (M_X6_statement NN r) ∧ (ty c z (ts c z p) = 1 ∨ (M_X6_statement NN r).map Prod.fst = some 0) := by
  have hz := b.1
  have hn := ok.1
  obtain ⟨tp1, w1, hC⟩ := C_read b hT hp ha
  have hs := (ts_le c hp).2
  generalize ts c z p = s at *
  have bad : ∀ {cl : Option (Int32 × TP × EV × LW)}, cl = some (0, tp1, ev, lw) → RS4 c z s a r cl (some (0, RM_s_fault r (RM_from r))) := fun e => Or.inr ⟨tp1, ev, lw, _, e, rfl, s, hs, hC.1, hC.2.1, (RM_fault_s_fault _ _).trans hR.2.1, Pt.ofS (sg_fault' _ _)⟩
  have wr : (M_X6_wrong NN r).bind (fun r167 => (if ¬ (r167.1 = 0 ∨ r167.1 = 1) then none else some (r167.1, r167.2))) = some (0, RM_s_fault r (RM_from r)) := by
    unfold M_X6_wrong
    rw [Option.bind_some]
    exact if_neg (not_not_intro (Or.inl rfl))
  unfold M_X4_readStatement
  rw [w1, Option.bind_some, C_isWord b (by omega) hs hC, Option.bind_some, C_isWord b (by omega) hs hC, Option.bind_some, C_isWord b (by omega) hs hC, C_isWord b (by omega) hs hC, C_isWord b (by omega) hs hC]
  unfold M_X6_statement
  rw [R_isWord b (by omega) hs hR, Option.bind_some, h2.1]
  have j22 : M_X6_statement_j22 NN r = if wd c z s 2 = true then rM2 r else if wd c z s 3 = true then ((M_X6_tableTold NN r).bind fun r95 => (if ¬ (r95.1 = 0 ∨ r95.1 = 1) then none else some (r95.1, r95.2))) else if wd c z s 4 = true then rM4 r else if wd c z s 5 = true then ((M_X6_moveTold NN r).bind fun r160 => (if ¬ (r160.1 = 0 ∨ r160.1 = 1) then none else some (r160.1, r160.2))) else some (0, RM_s_fault r (RM_from r)) := by
    unfold M_X6_statement_j22
    rw [R_isWord b (by omega) hs hR, Option.bind_some, R_isWord b (by omega) hs hR, Option.bind_some, R_isWord b (by omega) hs hR, Option.bind_some, R_isWord b (by omega) hs hR, Option.bind_some, wr]
    cases wd c z s 2
    · rw [if_pos (show oB false = 0 by decide), if_neg (show ¬ false = true by decide)]
      cases wd c z s 3
      · rw [if_pos (show oB false = 0 by decide), if_neg (show ¬ false = true by decide)]
        cases wd c z s 4
        · rw [if_pos (show oB false = 0 by decide), if_neg (show ¬ false = true by decide)]
          cases wd c z s 5
          · rw [if_pos (show oB false = 0 by decide), if_neg (show ¬ false = true by decide)]
          · rw [if_neg (show ¬ oB true = 0 by decide), if_pos rfl]
        · rw [if_neg (show ¬ oB true = 0 by decide), if_pos rfl]
          rfl
      · rw [if_neg (show ¬ oB true = 0 by decide), if_pos rfl]
    · rw [if_neg (show ¬ oB true = 0 by decide), if_pos rfl]
      rfl
  rw [j22]
  simp only [Option.bind_some]
  cases h0 : wd c z s 0
  · rw [if_pos (show oB false = 0 by decide), if_pos (show oB false = 0 by decide)]
    cases g2 : wd c z s 2
    · rw [if_pos (show oB false = 0 by decide), if_neg (show ¬ false = true by decide)]
      cases g3 : wd c z s 3
      · rw [if_pos (show oB false = 0 by decide), if_neg (show ¬ false = true by decide)]
        cases g4 : wd c z s 4
        · rw [if_pos (show oB false = 0 by decide), if_neg (show ¬ false = true by decide)]
          cases g5 : wd c z s 5
          · rw [if_pos (show oB false = 0 by decide), if_neg (show ¬ false = true by decide)]
            exact ⟨bad rfl, Or.inr rfl⟩
          · rw [if_neg (show ¬ oB true = 0 by decide), if_pos rfl]
            exact ⟨(T_move b hs hC hR (wd_ty g5) h1 h2 ok).mv.wrap, Or.inl (wd_ty g5)⟩
        · rw [if_neg (show ¬ oB true = 0 by decide), if_pos rfl]
          exact ⟨(T_minutes b hs hC hR (wd_ty g4) h1 h2 ok).up lw, Or.inl (wd_ty g4)⟩
      · rw [if_neg (show ¬ oB true = 0 by decide), if_pos rfl]
        exact ⟨((T_table b hs hC hR (wd_ty g3) h1 h2 ok).up lw).wrap, Or.inl (wd_ty g3)⟩
    · rw [if_neg (show ¬ oB true = 0 by decide), if_pos rfl]
      exact ⟨(T_stuck b hs hC hR (wd_ty g2) h1 h2 ok).up lw, Or.inl (wd_ty g2)⟩
  · rw [if_neg (show ¬ oB true = 0 by decide), if_neg (show ¬ oB true = 0 by decide)]
    by_cases l : aN a = 4
    · have g2 := wd_one (j := 2) (by omega) (by omega) h0 (by decide)
      have g3 := wd_one (j := 3) (by omega) (by omega) h0 (by decide)
      have g4 := wd_one (j := 4) (by omega) (by omega) h0 (by decide)
      have g5 := wd_one (j := 5) (by omega) (by omega) h0 (by decide)
      have em : M_X0_hasMostBars NN ev = some 1 := by
        unfold M_X0_hasMostBars
        rw [h1.1, l]
        rfl
      have er : M_X4_readBar NN tp1 ev = some (0, tp1, ev) := by
        unfold M_X4_readBar
        rw [em, Option.bind_some, if_pos n10]
      rw [l, if_pos (show (4 : Int32) ≤ nI 4 by decide), g2, g3, g4, g5, if_neg (show ¬ false = true by decide), if_neg (show ¬ false = true by decide), if_neg (show ¬ false = true by decide), if_neg (show ¬ false = true by decide), er]
      exact ⟨bad rfl, Or.inr rfl⟩
    · rw [if_neg (show ¬ (4 : Int32) ≤ nI (aN a) from fun w => by
        have := (nI_leI (a := 4) (by omega) (by omega)).mp w
        omega)]
      exact ⟨((T_bar b hs hC hR (wd_ty h0) h1 h2 ok (by omega)).up lw).wrap, Or.inl (wd_ty h0)⟩
def RF (c : Nat → Nat) (z : Nat) (a0 : AE) (r0 : RM) (cl : Option (Int32 × TP × EV × LW)) (rf : Option (Int32 × RM)) : Prop := (∃ k tp' ev' lw' r' a', cl = some (nI k, tp', ev', lw') ∧ k ≤ 250 ∧ rf = some (1, r') ∧ EvA ev' a' ∧ RmA r' a' ∧ OkA a' ∧ Pt r0 r' ∧ RM_statements r' = nI k ∧ aN a0 ≤ aN a' ∧ TpC tp' c z) ∨ ∃ tp' ev' lw' r' q, cl = some (-1, tp', ev', lw') ∧ rf = some (0, r') ∧ q ≤ z ∧ TP_start tp' = nI q ∧ RM_fault r' = nI q ∧ Pt r0 r' ∧ TpC tp' c z
def dC (rec : (TP × EV × LW × Int32) → Option (Int32 × TP × EV × LW)) (k : Int32) (o : Int32 × TP × EV × LW) : Option (Int32 × TP × EV × LW) := (if ¬ o.1 = 0 then (if ¬ (TP_type o.2.1) = 0 then (if (TP_type o.2.1) = (3 : Int32) then rec (o.2.1, o.2.2.1, o.2.2.2, (k + 1)) else some ((-1 : Int32), o.2.1, o.2.2.1, o.2.2.2)) else some (k, o.2.1, o.2.2.1, o.2.2.2)) else some ((-1 : Int32), o.2.1, o.2.2.1, o.2.2.2))
theorem l7_eq (rec : (TP × EV × LW × Int32) → Option (Int32 × TP × EV × LW)) {tp : TP} {ev : EV} {lw : LW} {k : Nat} (hk : k ≤ 250) : M_X4_readInto_l7 NN rec (tp, ev, lw, nI k) = (M_X4_readStatement NN tp ev lw).bind (dC rec (nI k)) := by
  unfold M_X4_readInto_l7
  simp only []
  rw [if_neg (show ¬ (250 : Int32) < nI k from fun w => by
    have := (nI_ltI (a := 250) (by omega) (by omega)).mp w
    omega)]
  rfl
def dR (o : Int32 × RM) (rec : RM → Option (Int32 × RM)) : Option (Int32 × RM) := if ¬ o.1 = 0 then rec (RM_s_statements o.2 (RM_statements o.2 + 1)) else some ((0 : Int32), o.2)
theorem sg_stm (r : RM) (v : Int32) : Sg r (RM_s_statements r v) := sg_statements r v
theorem T_tail (b : Bt c z) {a0 : AE} {r0 : RM} : ∀ (n q k M M' : Nat) (tp : TP) (ev : EV) (lw : LW) (r : RM) (a : AE), z - q < n → n ≤ M → n ≤ M' → q ≤ z → 2 * k ≤ q + 1 → 1 ≤ k → CT tp c z q → RT r c z q → EvA ev a → RmA r a → OkA a → Pt r0 r → aN a0 ≤ aN a → RM_statements r = nI k → RF c z a0 r0 (dC (lp (M_X4_readInto_l7 NN) M) (nI k) (1, tp, ev, lw)) (lp (M_X6_readAll_l23 NN) M' r) := by
  have hz := b.1
  intro n
  induction n with
  | zero =>
    intro q k M M' tp ev lw r a h
    omega
  | succ n ih =>
    intro q k M M' tp ev lw r a hn hM hM' hq hk hk1 hC hR h1 h2 ok hp ha hst
    obtain ⟨M, rfl⟩ : ∃ m, M = m + 1 := ⟨M - 1, by omega⟩
    obtain ⟨M', rfl⟩ : ∃ m, M' = m + 1 := ⟨M' - 1, by omega⟩
    have hty := ty_le c z q
    show RF c z a0 r0 _ (M_X6_readAll_l23 NN (lp (M_X6_readAll_l23 NN) M') r)
    generalize hrec' : lp (M_X6_readAll_l23 NN) M' = rec'
    unfold M_X6_readAll_l23 dC
    simp only []
    rw [if_pos n10, hC.2.2.1, hR.2.2.1]
    by_cases e0 : ty c z q = 0
    · rw [e0, if_neg (show ¬ ¬ nI 0 = 0 from not_not_intro rfl), if_pos (show nI 0 = 0 from rfl)]
      exact Or.inl ⟨k, tp, ev, lw, r, a, rfl, by omega, rfl, h1, h2, ok, hp, hst, ha, hC.1⟩
    · rw [if_pos (show ¬ nI (ty c z q) = 0 from fun w => e0 ((nI_eq (b := 0) (by omega) (by omega)).mp w)), if_neg (show ¬ nI (ty c z q) = 0 from fun w => e0 ((nI_eq (b := 0) (by omega) (by omega)).mp w))]
      by_cases e3 : ty c z q = 3
      · rw [e3, if_pos (show nI 3 = (3 : Int32) from rfl), if_pos (show nI 3 = (3 : Int32) from rfl), nI_1]
        have hte := te_le c hq
        have hqs : te c z q = q + 1 := by
          by_cases e : q = z
          · rw [e, (ty_z c z).1] at e3
            cases e3
          · cases g : isL (c q)
            · cases g2 : isD (c q)
              · by_cases g3 : c q = 59
                · exact (ty_S e g3).2
                · rw [(ty_O e g g2 g3).1] at e3
                  cases e3
              · rw [(ty_D e g g2).1] at e3
                cases e3
            · rw [(ty_L e g).1] at e3
              cases e3
        have hqq := ts_le c hte.2
        obtain ⟨r1, x1, x2, x3⟩ := R_look b hR.1 hte.2 (hR.2.2.2.1 (by omega))
        obtain ⟨t1, t2⟩ := T_stmt b (lw := lw) hte.2 hC.1 hC.2.2.2.1 x3 h1 (h2.sg x2.1) ok
        show RF c z a0 r0 (M_X4_readInto_l7 NN (lp (M_X4_readInto_l7 NN) M) (tp, ev, lw, nI (k + 1))) _
        rw [l7_eq _ (by omega), x1, Option.bind_some]
        rcases t1 with ⟨tp', ev', lw', r', f1, f2, og⟩ | ⟨tp', ev', lw', r', f1, f2, ob⟩
        · rw [f2] at t2
          have hty1 : ty c z (ts c z (te c z q)) = 1 := by
            rcases t2 with t2 | t2
            · exact t2
            · cases t2
          obtain ⟨q', a', o1, o2, o3, o4, o5, o6, o7, o8, o9, o10⟩ := og
          have hl : ts c z (te c z q) < te c z (ts c z (te c z q)) := by
            obtain ⟨y1, y2, y3⟩ := ty_1 hty1
            by_cases w : ts c z (te c z q) < te c z (ts c z (te c z q))
            · exact w
            · have hle := te_le c hqq.2
              have := sk_at (P := isL) (c := c) (z := z) (p := ts c z (te c z q)) (by omega)
              rw [← y3, show te c z (ts c z (te c z q)) = ts c z (te c z q) by omega, y2] at this
              cases this
          rw [f1, f2, Option.bind_some, Option.bind_some, if_pos n10]
          rw [← hrec']
          have eS : RM_statements (RM_s_statements r' (RM_statements r' + 1)) = nI (k + 1) := by
            rw [RM_statements_s_statements, o9, x2.2.2, hst, nI_1]
          refine ih q' (k + 1) M M' tp' ev' lw' _ a' (by omega) (by omega) (by omega) o2 (by omega) (by omega) o3 ?_ o5 ?_ o7 ?_ (by omega) eS
          · have hS := sg_stm r' (RM_statements r' + 1)
            refine ⟨o4.1.sg hS, ?_, ?_, fun w => ?_, fun w => ?_⟩
            · rw [RM_from_s_statements]; exact o4.2.1
            · rw [RM_token_s_statements]; exact o4.2.2.1
            · rw [RM_at_s_statements]; exact o4.2.2.2.1 w
            · rw [RM_figures_s_statements]; exact o4.2.2.2.2 w
          · exact o6.sg (sg_stm _ _)
          · exact ((hp.trans (Pt.ofS x2.1)).trans o8).trans (Pt.ofS (sg_stm _ _))
        · obtain ⟨q', o1, o2, o3, o4, o5⟩ := ob
          rw [f1, f2, Option.bind_some, Option.bind_some, if_neg n00]
          exact Or.inr ⟨tp', ev', lw', r', q', rfl, rfl, o1, o3, o4, (hp.trans (Pt.ofS x2.1)).trans o5, o2⟩
      · rw [if_neg (show ¬ nI (ty c z q) = (3 : Int32) from fun w => e3 ((nI_eq (b := 3) (by omega) (by omega)).mp w)), if_neg (show ¬ nI (ty c z q) = (3 : Int32) from fun w => e3 ((nI_eq (b := 3) (by omega) (by omega)).mp w))]
        obtain ⟨r', v1, v2, v3⟩ := R_wrong' hR
        rw [v1, Option.bind_some]
        exact Or.inr ⟨tp, ev, lw, r', q, rfl, if_neg (not_not_intro (Or.inl rfl)), hq, hC.2.1, v3, hp.trans (Pt.ofS v2), hC.1⟩
theorem T_all (b : Bt c z) {tp : TP} {ev : EV} {lw : LW} {r : RM} {a : AE} (hT : TpC tp c z) (hR : RpC r c z) (h1 : EvA ev a) (h2 : RmA r a) (ok : OkA a) : RF c z a r (M_X4_readInto NN tp ev lw) (M_X6_readAll NN r) := by
  have hz := b.1
  have k0 : Sg r (RM_s_at (RM_s_statements r 1) 0) := (sg_stm r 1).trans (show Sg _ _ from sg_at _ _)
  have a0 : RM_at (RM_s_at (RM_s_statements r 1) 0) = nI 0 := RM_at_s_at _ _
  have s0 : RM_statements (RM_s_at (RM_s_statements r 1) 0) = nI 1 := (RM_statements_s_at _ _).trans (RM_statements_s_statements _ _)
  unfold M_X6_readAll M_X4_readInto
  generalize RM_s_at (RM_s_statements r 1) 0 = t at k0 a0 s0
  obtain ⟨r1, x1, x2, x3⟩ := R_look b (hR.sg k0) (Nat.zero_le z) a0
  have hq := ts_le c (Nat.zero_le z)
  obtain ⟨t1, t2⟩ := T_stmt b (lw := lw) (tp := TP_s_at tp 0) (Nat.zero_le z) hT rfl x3 h1 ((h2.sg k0).sg x2.1) ok
  have p1 : Pt r r1 := (Pt.ofS k0).trans (Pt.ofS x2.1)
  show RF c z a r (M_X4_readInto_l7 NN (lp (M_X4_readInto_l7 NN) 4999) (TP_s_at tp 0, ev, lw, nI 1)) _
  rw [l7_eq _ (by omega), x1, Option.bind_some]
  rcases t1 with ⟨tp', ev', lw', r', f1, f2, og⟩ | ⟨tp', ev', lw', r', f1, f2, ob⟩
  · rw [f2] at t2
    have hty1 : ty c z (ts c z 0) = 1 := by
      rcases t2 with t2 | t2
      · exact t2
      · cases t2
    obtain ⟨q', a', o1, o2, o3, o4, o5, o6, o7, o8, o9, o10⟩ := og
    have hl : ts c z 0 < te c z (ts c z 0) := by
      obtain ⟨y1, y2, y3⟩ := ty_1 hty1
      by_cases w : ts c z 0 < te c z (ts c z 0)
      · exact w
      · have hle := te_le c hq.2
        have := sk_at (P := isL) (c := c) (z := z) (p := ts c z 0) (by omega)
        rw [← y3, show te c z (ts c z 0) = ts c z 0 by omega, y2] at this
        cases this
    rw [f1, f2, Option.bind_some, Option.bind_some, if_pos n10]
    exact T_tail b (z - q' + 1) q' 1 4999 NN tp' ev' lw' r' a' (by omega) (by omega) (by show _ ≤ 5000; omega) o2 (by omega) (by omega) o3 o4 o5 o6 o7 (p1.trans o8) o10 (by rw [o9, x2.2.2, s0])
  · obtain ⟨q', o1, o2, o3, o4, o5⟩ := ob
    rw [f1, f2, Option.bind_some, Option.bind_some, if_neg n00]
    exact Or.inr ⟨tp', ev', lw', r', q', rfl, rfl, o1, o3, o4, p1.trans o5, o2⟩
end ALL
def Pu (r r' : RM) : Prop := RM_shelf r' = RM_shelf r ∧ RM_rowSort r' = RM_rowSort r ∧ RM_rowSize r' = RM_rowSize r ∧ RM_rows r' = RM_rows r ∧ RM_shown r' = RM_shown r ∧ RM_refused r' = RM_refused r ∧ RM_pl r' = RM_pl r
theorem Pu.ofP {r r' : RM} (k : Pt r r') : Pu r r' := by
  unfold Pt pt at k
  simp only [Prod.mk.injEq] at k
  obtain ⟨g1, g2, g3, g4, g5, -, -, g8, g9⟩ := k
  exact ⟨g1, g2, g3, g4, g5, g8, g9⟩
theorem Pu.ts {r r' : RM} (k : Pu r r') (v : Int32) : Pu r (RM_s_tapeSize r' v) := by
  obtain ⟨g1, g2, g3, g4, g5, g6, g7⟩ := k
  unfold Pu
  rw [RM_shelf_s_tapeSize, RM_rowSort_s_tapeSize, RM_rowSize_s_tapeSize, RM_rows_s_tapeSize, RM_shown_s_tapeSize, RM_refused_s_tapeSize, RM_pl_s_tapeSize]
  exact ⟨g1, g2, g3, g4, g5, g6, g7⟩
theorem Pu.ne {r r' r2 : RM} (k : Pu r r') (h : NE r' r2) : Pu r r2 := by
  obtain ⟨g1, g2, g3, g4, g5, g6, g7⟩ := k
  obtain ⟨e1, e2, e3, e4, -, e6, -, -, e9, -, -, -, -, -, -, -, -, -, -, -, -, -, -, e24⟩ := h.all
  exact ⟨e1.trans g1, e2.trans g2, e3.trans g3, e4.trans g4, e6.trans g5, e9.trans g6, e24.trans g7⟩
theorem INV.pu {ro : RO} {nw kp dr : EV} {sh : SH} {tp : TP} {lw : LW} {se : SE} {rm r : RM} {K T : Option RM} {a' : AE} {n : Nat} (k : Pu rm r) (h1 : EvA nw a') (h2 : RmA r a') (h3 : OkA a') (h4 : ShA sh rm n) (hn : n ≤ aN a') (ht : RM_tapeSize r = 0) (h6 : RfA ro rm) (h7 : KpA ro kp K) (h8 : PlA rm) : INV ro nw kp dr sh (TP_s_size tp 0) lw se r K T := by
  obtain ⟨g1, g2, g3, g4, g5, g6, g7⟩ := k
  refine ⟨a', h1, h2, h3, ?_, ⟨0, Nat.zero_le _, rfl, ht, fun i hi => absurd hi (Nat.not_lt_zero i)⟩, ?_, h7, ?_⟩
  · unfold ShA
    rw [g1, g2, g3, g4, g5]
    intro s hs
    rcases h4 s hs with g | g | ⟨g, b, hb, g2⟩
    · exact Or.inl g
    · exact Or.inr (Or.inl g)
    · exact Or.inr (Or.inr ⟨g, b, Nat.lt_of_lt_of_le hb hn, g2⟩)
  · unfold RfA
    rw [g6]
    exact h6
  · unfold PlA
    rw [g7]
    exact h8
theorem RmA.ts {r : RM} {a : AE} (v : Int32) (h : RmA r a) : RmA (RM_s_tapeSize r v) a := ⟨h.1, h.2⟩
theorem R_bars {N : Nat} {rm rt : RM} : M_X6_bars_s N rm rt = (M_X6_takeFrom N rt rm).bind fun r23 => ((M_X6_readAll N rm).bind fun r27 => (if ¬ r27.1 = 0 then some ((RM_statements (RM_s_tapeSize r27.2 (0 : Int32))), RM_s_tapeSize r27.2 (0 : Int32), r23) else ((M_X6_takeFrom N (RM_s_tapeSize r27.2 (0 : Int32)) r23).bind fun r45 => ((M_X6_refuse N r45 (-2 : Int32)).bind fun r51 => some (((-20 : Int32) - (RM_fault r51.2)), r51.2, r23))))) := rfl
theorem R_barsN {N : Nat} {rm : RM} : M_X6_bars_n N rm = (M_X6_takeFrom N RM0 rm).bind fun r23 => ((M_X6_readAll N rm).bind fun r27 => (if ¬ r27.1 = 0 then some ((RM_statements (RM_s_tapeSize r27.2 (0 : Int32))), RM_s_tapeSize r27.2 (0 : Int32), some r23) else ((M_X6_takeFrom N (RM_s_tapeSize r27.2 (0 : Int32)) r23).bind fun r45 => ((M_X6_refuse N r45 (-2 : Int32)).bind fun r51 => some (((-20 : Int32) - (RM_fault r51.2)), r51.2, some r23))))) := rfl
theorem mRf_fault (r : RM) (k : Nat) : RM_fault (mRf r k) = RM_fault r := RM_fault_s_refused _ _
theorem pS_bars : S_bars INV := by
  intro ro nw kp dr sh tp lw se rm K T hI _
  obtain ⟨a, h1, h2, h3, h4, h5, h6, h7, h8⟩ := id hI
  obtain ⟨z, hz, z1, z2, z3⟩ := h5
  have hc : ∀ i, ∃ x, x < 256 ∧ (i < z → TP_bytes tp i = nI x ∧ RM_tape rm i = nI x) := fun i => by
    by_cases l : i < z
    · obtain ⟨x, g1, g2, g3⟩ := z3 i l
      exact ⟨x, g1, fun _ => ⟨g2, g3⟩⟩
    · exact ⟨0, by decide, fun w => absurd w l⟩
  obtain ⟨c, hc⟩ : ∃ c : Nat → Nat, ∀ i, c i < 256 ∧ (i < z → TP_bytes tp i = nI (c i) ∧ RM_tape rm i = nI (c i)) := ⟨fun i => (hc i).choose, fun i => (hc i).choose_spec⟩
  have b : Bt c z := ⟨hz, fun i => (hc i).1⟩
  have hT : TpC tp c z := ⟨z1, fun i hi => ((hc i).2 hi).1⟩
  have hR : RpC rm c z := ⟨z2, fun i hi => ((hc i).2 hi).2⟩
  obtain ⟨d1, e1, e2⟩ := E_become (N := NN) (ev := dr) h1
  have main := T_all b (lw := lw) hT hR e2 h2 h3
  unfold M_X5_bars
  rw [e1, Option.bind_some]
  rcases main with ⟨k, tp', ev', lw', r', a', f1, f2, f3, g1, g2, g3, g4, g5, g6, g7⟩ | ⟨tp', ev', lw', r', q, f1, f2, f3, g1, g2, g3, g4⟩
  · obtain ⟨n1, e3, e4⟩ := E_become (N := NN) (ev := nw) g1
    have hI2 : ∀ T', INV ro n1 kp ev' sh (TP_s_size tp' 0) lw' se (RM_s_tapeSize r' 0) K T' := fun T' => INV.pu ((Pu.ofP g4).ts 0) e4 (g2.ts 0) g3 h4 g6 (RM_tapeSize_s_tapeSize _ _) h6 h7 h8
    have est : RM_statements (RM_s_tapeSize r' 0) = nI k := (RM_statements_s_tapeSize _ _).trans g5
    have ref : ∀ rt, ∃ r23, M_X6_bars_s NN rm rt = some (nI k, RM_s_tapeSize r' 0, r23) := fun rt => by
      obtain ⟨r23, t1, t2, -⟩ := R_take (rm := rt) h2
      refine ⟨r23, ?_⟩
      rw [R_bars, t1, Option.bind_some, f3, Option.bind_some, if_pos n10, est]
    have hne : ¬ nI k = (-1 : Int32) := fun w => by
      have := congrArg Int32.toInt w
      rw [nI_toInt (by omega), show (-1 : Int32).toInt = -1 from rfl] at this
      omega
    refine ⟨(nI k, ro, n1, ev', TP_s_size tp' 0, lw'), ?_, fun hT => ?_, fun rt hT => ?_⟩
    · rw [f1, Option.bind_some]
      unfold M_X4_clear
      rw [Option.bind_some, if_pos hne, e3, Option.bind_some]
    · obtain ⟨r23, w⟩ := ref RM0
      refine ⟨(nI k, RM_s_tapeSize r' 0, some r23), ?_, rfl, hI2 _⟩
      rw [R_bars, f3] at w
      rw [R_barsN, f3]
      obtain ⟨r24, t1, t2, -⟩ := R_take (rm := RM0) h2
      rw [t1, Option.bind_some, Option.bind_some, if_pos n10, est] at w ⊢
      have := Option.some.inj w
      rw [(Prod.mk.inj (Prod.mk.inj this).2).2]
    · obtain ⟨r23, w⟩ := ref rt
      exact ⟨(nI k, RM_s_tapeSize r' 0, r23), w, rfl, hI2 _⟩
  · have fin : ∀ r23, RmA r23 a → ∃ r45, M_X6_takeFrom NN (RM_s_tapeSize r' 0) r23 = some r45 ∧ RM_fault r45 = nI q ∧ ∀ T', INV ro nw kp ev' sh (TP_s_size tp' 0) lw' se r45 K T' := fun r23 t2 => by
      obtain ⟨r45, u1, u2, u3⟩ := R_take (rm := RM_s_tapeSize r' 0) t2
      obtain ⟨-, -, -, -, -, -, -, g8, -, -, -, -, -, g14, -⟩ := u3.all
      exact ⟨r45, u1, g14.trans ((RM_fault_s_tapeSize _ _).trans g2), fun T' => INV.pu (((Pu.ofP g3).ts 0).ne u3) h1 u2 h3 h4 (Nat.le_refl _) (g8.trans (RM_tapeSize_s_tapeSize _ _)) h6 h7 h8⟩
    refine ⟨(-20 - nI q, xRf ro 0, nw, ev', TP_s_size tp' 0, lw'), ?_, fun hT => ?_, fun rt hT => ?_⟩
    · rw [f1, Option.bind_some]
      unfold M_X4_clear
      rw [Option.bind_some, if_neg (show ¬ ¬ (-1 : Int32) = -1 from not_not_intro rfl), xRf_ok.1, Option.bind_some, g1]
    · obtain ⟨r23, t1, t2, -⟩ := R_take (rm := RM0) h2
      obtain ⟨r45, u1, u2, u3⟩ := fin r23 t2
      refine ⟨(-20 - nI q, mRf r45 0, some r23), ?_, rfl, INV.rf (dr := ev') (lw := lw') (se := se) (T := T) 0 (u3 T)⟩
      rw [R_barsN, t1, Option.bind_some, f2, Option.bind_some, if_neg n00, u1, Option.bind_some, mRf_ok.1, Option.bind_some, mRf_fault, u2]
    · obtain ⟨r23, t1, t2, -⟩ := R_take (rm := rt) h2
      obtain ⟨r45, u1, u2, u3⟩ := fin r23 t2
      refine ⟨(-20 - nI q, mRf r45 0, r23), ?_, rfl, INV.rf (dr := ev') (lw := lw') (se := se) (T := T) 0 (u3 T)⟩
      rw [R_bars, t1, Option.bind_some, f2, Option.bind_some, if_neg n00, u1, Option.bind_some, mRf_ok.1, Option.bind_some, mRf_fault, u2]
theorem I0 : INV RO0 EV0 EV0 EV0 SH0 TP0 LW0 SE0 RM0 none none := by
  have hm : ∀ r, r < 10 → RM_minutes RM0 r = EV_ringMinutes EV0 r := by decide +kernel
  have hsh : ∀ s, s < 8 → RM_shelf RM0 s = 0 ∧ SH_held SH0 s = -1 := by decide +kernel
  refine ⟨(0, fun _ => 0, fun _ => 0, fun _ => 0, fun _ => 0, fun _ _ => 0, fun _ _ => 0, fun i => EV_ringMinutes EV0 i, 0, 1), ⟨rfl, fun b hb => ⟨rfl, rfl, rfl, rfl, fun r hr => ⟨rfl, rfl⟩⟩, fun r hr => rfl, rfl, rfl⟩, ⟨rfl, fun b hb => ⟨rfl, rfl, rfl, rfl, fun r hr => ⟨rfl, rfl⟩⟩, hm, rfl, rfl⟩, ⟨Nat.zero_le _, fun b hb => absurd hb (Nat.not_lt_zero b)⟩, fun s hs => Or.inl (hsh s hs), ⟨0, Nat.zero_le _, rfl, rfl, fun i hi => absurd hi (Nat.not_lt_zero i)⟩, fun k hk => rfl, Or.inl ⟨rfl, rfl⟩, Or.inl rfl⟩
