theorem of_sub {p q : Int32} {r k : Nat} (e : p - q = nI r) (hq : q = nI k) : p = nI (r + k) := by
  rw [← nI_add, ← e, ← hq, Int32.sub_add_cancel]
theorem nI_subs {r k : Nat} {q : Int32} (hq : q = nI k) : nI (r + k) - q = nI r := by
  rw [hq, ← nI_add, Int32.add_sub_cancel]
theorem ne_b {a : AE} {b b' : Nat} (ok : OkA a) (hb : b < aN a) (hb' : b' < aN a) (e : nI b = nI b') : b = b' := by
  have := ok.1
  exact (nI_eq (by omega) (by omega)).mp e
theorem E_noringb {N : Nat} {ev : EV} {a : AE} {b : Nat} {q : Int32} (h : EvA ev a) (ok : OkA a) (hb : b < aN a) (hq : ¬ vI (aZ a b) q) : M_X0_hasRing N ev (nI b) q = some 0 :=
  E_noring h ok fun ⟨b', hb', e, hs⟩ => hq (by rw [ne_b ok hb hb' e]; exact hs)
theorem E_nosetb {N : Nat} {ev : EV} {a : AE} {b : Nat} {q : Int32} (h : EvA ev a) (ok : OkA a) (hb : b < aN a) (hq : ¬ vI (2 ^ aZ a b) q) : M_X0_hasSet N ev (nI b) q.toInt64 = some 0 :=
  E_nosetI h ok fun ⟨b', hb', e, hs⟩ => hq (by rw [ne_b ok hb hb' e]; exact hs)
theorem R_nosetb {N : Nat} {rm : RM} {a : AE} {b : Nat} {q : Int32} (h : RmA rm a) (ok : OkA a) (hb : b < aN a) (hq : ¬ vI (2 ^ aZ a b) q) : M_X6_isSet N rm (nI b) q.toInt64 = some 0 := by
  have h2 := p10 (ok.2 b hb).2.2.1
  exact R_noset h ok hb fun hs => hq ((vL_of (by omega)).mp hs)
theorem pS_barOf : S_barOf INV := by
  intro ro nw kp dr sh tp lw se rm K T hI p1 p2
  obtain ⟨a, h1, h2, h3, h4, h5, h6, h7, h8⟩ := id hI
  have j1 : M_X5_barOf_j152 NN nw p1 p2 ro = some (-2, xRf ro 0) := by
    unfold M_X5_barOf_j152
    rw [xRf_ok.1]
    rfl
  have okk {v : Int32} (e1 : M_X5_barOf NN ro nw p1 p2 = some (v, ro)) (e2 : M_X6_barOf NN rm p1 p2 = some (v, rm)) : ∃ o1, M_X5_barOf NN ro nw p1 p2 = some o1 ∧ ∃ o2, M_X6_barOf NN rm p1 p2 = some o2 ∧ o1.1 = o2.1 ∧ INV o1.2 nw kp dr sh tp lw se o2.2 K T := ⟨_, e1, _, e2, rfl, hI⟩
  by_cases hb : vB a p1
  · obtain ⟨b, hb, rfl⟩ := hb
    have hz := (h3.2 b hb).2.2.1
    have h4' := h3.1
    have hg := h2.2.1 b (by omega)
    by_cases hr : vI (aZ a b) (p2 - 10)
    · obtain ⟨r, hr, e⟩ := hr
      have e := of_sub (k := 10) e rfl
      subst e
      refine okk (v := nI (aM a b r)) ?_ ?_
      · unfold M_X5_barOf M_X5_barOf_j118
        rw [E_bar h1 h3 hb, Option.bind_some, if_pos (by decide), if_neg (show ¬ nI (r + 10) = (0 : Int32) from fun e => by have := (nI_eq (b := 0) (by omega) (by omega)).mp e; omega), if_neg (show ¬ nI (r + 10) = (1 : Int32) from fun e => by have := (nI_eq (b := 1) (by omega) (by omega)).mp e; omega), if_neg (show ¬ nI (r + 10) = (2 : Int32) from fun e => by have := (nI_eq (b := 2) (by omega) (by omega)).mp e; omega), if_neg (show ¬ nI (r + 10) = (3 : Int32) from fun e => by have := (nI_eq (b := 3) (by omega) (by omega)).mp e; omega), if_pos (show nI (r + 10) < (20 : Int32) from nI_lt (b := 20) (by omega) (by omega)), if_neg (show ¬ nI (r + 10) < (10 : Int32) from nI_nlt (b := 10) (by omega) (by omega)), nI_subs (k := 10) (q := 10) rfl, E_ring h1 h3 hb hr, Option.bind_some, if_neg (by decide), E_must h1 h3 hb hr]
        rfl
      · unfold M_X6_barOf
        rw [R_bar h2 h3 hb, Option.bind_some, if_pos (by decide), nI_subs (k := 10) (q := 10) rfl, R_ring h2 h3 hb hr, Option.bind_some, if_neg (by decide), if_neg (E_in h3 hb), if_neg (nI_in (by omega) (by omega)), E_cl h3 hb, nI_clamp (by omega), (hg.2.2.2.2 r (by omega)).1]
    · by_cases hr2 : vI (aZ a b) (p2 - 20)
      · obtain ⟨r, hr2, e⟩ := hr2
        have e := of_sub (k := 20) e rfl
        subst e
        refine okk (v := nI (aX a b r)) ?_ ?_
        · unfold M_X5_barOf
          rw [E_bar h1 h3 hb, Option.bind_some, if_pos (by decide), if_neg (show ¬ nI (r + 20) = (0 : Int32) from fun e => by have := (nI_eq (b := 0) (by omega) (by omega)).mp e; omega), if_neg (show ¬ nI (r + 20) = (1 : Int32) from fun e => by have := (nI_eq (b := 1) (by omega) (by omega)).mp e; omega), if_neg (show ¬ nI (r + 20) = (2 : Int32) from fun e => by have := (nI_eq (b := 2) (by omega) (by omega)).mp e; omega), if_neg (show ¬ nI (r + 20) = (3 : Int32) from fun e => by have := (nI_eq (b := 3) (by omega) (by omega)).mp e; omega), if_neg (show ¬ nI (r + 20) < (20 : Int32) from nI_nlt (b := 20) (by omega) (by omega)), nI_subs (k := 20) (q := 20) rfl, E_ring h1 h3 hb hr2, Option.bind_some, if_neg (by decide), E_not h1 h3 hb hr2]
          rfl
        · unfold M_X6_barOf
          rw [R_bar h2 h3 hb, Option.bind_some, if_pos (by decide), R_noring h2 h3 hb hr, Option.bind_some, if_pos rfl, nI_subs (k := 20) (q := 20) rfl, R_ring h2 h3 hb hr2, Option.bind_some, if_neg (by decide), if_neg (E_in h3 hb), if_neg (nI_in (by omega) (by omega)), E_cl h3 hb, nI_clamp (by omega), (hg.2.2.2.2 r (by omega)).2]
      · have c1 : M_X5_barOf_j118 NN nw (nI b) p2 ro = some (-2, xRf ro 0) := by
          unfold M_X5_barOf_j118
          rw [j1, E_noringb h1 h3 hb hr]
          split <;> rfl
        have c2 : M_X5_barOf NN ro nw (nI b) p2 = if p2 = 0 then some (nI (aK a b), ro) else if p2 = 1 then some (nI (aZ a b), ro) else if p2 = 2 then some (nI (aO a b), ro) else if p2 = 3 then some (nI (aT a b), ro) else some (-2, xRf ro 0) := by
          unfold M_X5_barOf
          rw [E_bar h1 h3 hb, Option.bind_some, if_pos (by decide), E_kind h1 h3 hb, E_size h1 h3 hb, E_on h1 h3 hb, E_stuck h1 h3 hb, c1, E_noringb h1 h3 hb hr2]
          simp only [Option.bind_some, if_true, ite_self]
        have c3 : M_X6_barOf NN rm (nI b) p2 = if p2 = 0 then some (nI (aK a b), rm) else if p2 = 1 then some (nI (aZ a b), rm) else if p2 = 2 then some (nI (aO a b), rm) else if p2 = 3 then some (nI (aT a b), rm) else some (-2, mRf rm 0) := by
          unfold M_X6_barOf
          rw [R_bar h2 h3 hb, Option.bind_some, if_pos (by decide), R_noring h2 h3 hb hr, Option.bind_some, if_pos rfl, R_noring h2 h3 hb hr2, Option.bind_some, if_pos rfl, mRf_ok.1]
          simp only [if_neg (E_in h3 hb)]
          simp only [E_cl h3 hb, hg.1, hg.2.1, hg.2.2.1, hg.2.2.2.1, Option.bind_some]
        by_cases g0 : p2 = 0
        · rw [if_pos g0] at c2 c3
          exact okk c2 c3
        · by_cases g1 : p2 = 1
          · rw [if_neg g0, if_pos g1] at c2 c3
            exact okk c2 c3
          · by_cases g2 : p2 = 2
            · rw [if_neg g0, if_neg g1, if_pos g2] at c2 c3
              exact okk c2 c3
            · by_cases g3 : p2 = 3
              · rw [if_neg g0, if_neg g1, if_neg g2, if_pos g3] at c2 c3
                exact okk c2 c3
              · rw [if_neg g0, if_neg g1, if_neg g2, if_neg g3] at c2 c3
                exact ⟨_, c2, _, c3, rfl, hI.rf 0⟩
  · refine ⟨(-2, xRf ro 0), ?_, (-2, mRf rm 0), ?_, rfl, hI.rf 0⟩
    · unfold M_X5_barOf
      rw [E_nobar h1 h3 hb, Option.bind_some, if_neg (by decide), xRf_ok.1]
      rfl
    · unfold M_X6_barOf
      rw [R_nobar h2 h3 hb, Option.bind_some, if_neg (by decide), mRf_ok.1]
      rfl
