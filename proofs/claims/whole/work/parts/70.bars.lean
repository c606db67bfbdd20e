/-! the tape: a statement, all, bars -/
section ALL
variable {c : Nat → Nat} {z : Nat}
theorem RS.up {s : Nat} {a : AE} {r : RM} {cl : Option (Int32 × TP × EV)} {rf : Option (Int32 × RM)} (h : RS c z s a r cl rf) (lw : LW) : RS4 c z s a r (cl.bind fun r15 => (if ¬ (r15.1 = 0 ∨ r15.1 = 1) then none else some (r15.1, r15.2.1, r15.2.2, lw))) rf := by
  rcases h with ⟨tp', ev', r', rfl, rfl, h⟩ | ⟨tp', ev', r', rfl, rfl, h⟩
  · exact Or.inl ⟨tp', ev', lw, r', rfl, rfl, h⟩
  · exact Or.inr ⟨tp', ev', lw, r', rfl, rfl, h⟩
theorem RS4.wrap {s : Nat} {a : AE} {r : RM} {cl : Option (Int32 × TP × EV × LW)} {rf : Option (Int32 × RM)} (h : RS4 c z s a r cl rf) : RS4 c z s a r cl (rf.bind fun r18 => (if ¬ (r18.1 = 0 ∨ r18.1 = 1) then none else some (r18.1, r18.2))) := by
  rcases h with ⟨tp', ev', lw', r', e, rfl, h⟩ | ⟨tp', ev', lw', r', e, rfl, h⟩
  · exact Or.inl ⟨tp', ev', lw', r', e, rfl, h⟩
  · exact Or.inr ⟨tp', ev', lw', r', e, rfl, h⟩
theorem RS4.mv {s : Nat} {a : AE} {r : RM} {cl : Option (Int32 × TP × EV × LW)} {rf : Option (Int32 × RM)} (h : RS4 c z s a r cl rf) : RS4 c z s a r (cl.bind fun r76 => (if r76.1 = 0 then some ((0 : Int32), r76.2.1, r76.2.2.1, r76.2.2.2) else some ((1 : Int32), r76.2.1, r76.2.2.1, r76.2.2.2))) rf := by
  rcases h with ⟨tp', ev', lw', r', rfl, e, h⟩ | ⟨tp', ev', lw', r', rfl, e, h⟩
  · exact Or.inl ⟨tp', ev', lw', r', rfl, e, h⟩
  · exact Or.inr ⟨tp', ev', lw', r', rfl, e, h⟩
theorem T_stmt (b : Bt c z) {tp : TP} {ev : EV} {lw : LW} {r : RM} {a : AE} {p : Nat} (hp : p ≤ z) (hT : TpC tp c z) (ha : TP_at tp = nI p) (hR : RT r c z (ts c z p)) (h1 : EvA ev a) (h2 : RmA r a) (ok : OkA a) : RS4 c z (ts c z p) a r (M_X4_readStatement NN tp ev lw) (M_X6_statement NN r) ∧ ((M_X6_statement NN r).map Prod.fst = some 1 → ty c z (ts c z p) = 1) := by
  have hz := b.1
  have hn := ok.1
  obtain ⟨tp1, w1, hC⟩ := C_read b hT hp ha
  have hs := (ts_le c hp).2
  generalize ts c z p = s at *
  have bad : ∀ {cl : Option (Int32 × TP × EV × LW)}, cl = some (0, tp1, ev, lw) → RS4 c z s a r cl (some (0, RM_s_fault r (RM_from r))) := fun e => Or.inr ⟨tp1, ev, lw, _, e, rfl, s, hs, hC.1, hC.2.1, (RM_fault_s_fault _ _).trans hR.2.1, Pt.ofS (sg_fault' _ _)⟩
  have wr : (M_X6_wrong NN r).bind (fun r167 => (if ¬ (r167.1 = 0 ∨ r167.1 = 1) then none else some (r167.1, r167.2))) = some (0, RM_s_fault r (RM_from r)) := by
    unfold M_X6_wrong
    rw [Option.bind_some]
    exact if_neg (not_not_intro (Or.inl rfl))
  unfold M_X4_readStatement
  rw [w1, Option.bind_some, C_isWord b (by omega) hs hC, Option.bind_some, C_isWord b (by omega) hs hC, Option.bind_some, C_isWord b (by omega) hs hC, C_isWord b (by omega) hs hC, C_isWord b (by omega) hs hC]
  unfold M_X6_statement
  rw [R_isWord b (by omega) hs hR, Option.bind_some, h2.1]
  have j22 : M_X6_statement_j22 NN r = if wd c z s 2 = true then rM2 r else if wd c z s 3 = true then ((M_X6_tableTold NN r).bind fun r95 => (if ¬ (r95.1 = 0 ∨ r95.1 = 1) then none else some (r95.1, r95.2))) else if wd c z s 4 = true then rM4 r else if wd c z s 5 = true then ((M_X6_moveTold NN r).bind fun r160 => (if ¬ (r160.1 = 0 ∨ r160.1 = 1) then none else some (r160.1, r160.2))) else some (0, RM_s_fault r (RM_from r)) := by
    unfold M_X6_statement_j22
    rw [R_isWord b (by omega) hs hR, Option.bind_some, R_isWord b (by omega) hs hR, Option.bind_some, R_isWord b (by omega) hs hR, Option.bind_some, R_isWord b (by omega) hs hR, Option.bind_some, wr]
    cases wd c z s 2
    · rw [if_pos (show oB false = 0 by decide), if_neg (show ¬ false = true by decide)]
      cases wd c z s 3
      · rw [if_pos (show oB false = 0 by decide), if_neg (show ¬ false = true by decide)]
        cases wd c z s 4
        · rw [if_pos (show oB false = 0 by decide), if_neg (show ¬ false = true by decide)]
          cases wd c z s 5
          · rw [if_pos (show oB false = 0 by decide), if_neg (show ¬ false = true by decide)]
          · rw [if_neg (show ¬ oB true = 0 by decide), if_pos rfl]
        · rw [if_neg (show ¬ oB true = 0 by decide), if_pos rfl]
          rfl
      · rw [if_neg (show ¬ oB true = 0 by decide), if_pos rfl]
    · rw [if_neg (show ¬ oB true = 0 by decide), if_pos rfl]
      rfl
  rw [j22]
  sorry
end ALL
