theorem OkA.sM {a : AE} {b r m x : Nat} (h : OkA a) (hv : b < aN a → m < 2 ^ aZ a b ∧ x < 2 ^ aZ a b) : OkA (sM a b r m x) := by
  refine ⟨h.1, fun i hi => ?_⟩
  obtain ⟨h1, h2, h3, h4, h5, h6⟩ := h.2 i hi
  refine ⟨h1, h2, h3, h4, h5, fun j hj => ?_⟩
  show (if i = b ∧ j = r then m else aM a i j) < _ ∧ (if i = b ∧ j = r then x else aX a i j) < _
  by_cases e : i = b ∧ j = r
  · rw [if_pos e, if_pos e]
    obtain ⟨rfl, -⟩ := e
    exact hv hi
  · rw [if_neg e, if_neg e]
    exact h6 j hj
theorem upd10 {f : Nat → Int32} {g : Nat → Nat → Nat} {b r v i j : Nat} (hj : j < 10) (hr : r < 10) (h : f (i * 10 + j) = nI (g i j)) : upd f (b * 10 + r) (nI v) (i * 10 + j) = nI (if i = b ∧ j = r then v else g i j) := by
  unfold upd
  by_cases e : i = b ∧ j = r
  · obtain ⟨rfl, rfl⟩ := e
    rw [if_pos rfl, if_pos ⟨rfl, rfl⟩]
  · rw [if_neg e, if_neg (fun z => e (by omega)), h]
theorem EvA.sM {ev : EV} {a : AE} {b r m x : Nat} (h : EvA ev a) (hr : r < 10) : EvA (EV_s_nots (EV_s_musts ev (upd (EV_musts ev) (b * 10 + r) (nI m))) (upd (EV_nots ev) (b * 10 + r) (nI x))) (sM a b r m x) :=
  ⟨h.1, fun i hi => ⟨(h.2.1 i hi).1, (h.2.1 i hi).2.1, (h.2.1 i hi).2.2.1, (h.2.1 i hi).2.2.2.1, fun j hj => ⟨upd10 hj hr ((h.2.1 i hi).2.2.2.2 j hj).1, upd10 hj hr ((h.2.1 i hi).2.2.2.2 j hj).2⟩⟩, h.2.2⟩
theorem up2 {f : Nat → Nat → Int32} {g : Nat → Nat → Nat} {b r v i j : Nat} (h : f i j = nI (g i j)) : va_up f b (upd (f b) r (nI v)) i j = nI (if i = b ∧ j = r then v else g i j) := by
  unfold va_up
  by_cases e : i = b
  · subst e
    rw [if_pos rfl]
    unfold upd
    by_cases e2 : j = r
    · rw [if_pos e2, if_pos ⟨rfl, e2⟩]
    · rw [if_neg e2, if_neg (fun z => e2 z.2), h]
  · rw [if_neg e, if_neg (fun z => e z.1), h]
theorem RmA.sM {rm : RM} {a : AE} {b r m x : Nat} (h : RmA rm a) : RmA (RM_s_not (RM_s_must rm (va_up (RM_must rm) b (upd (RM_must rm b) r (nI m)))) (va_up (RM_not rm) b (upd (RM_not rm b) r (nI x)))) (sM a b r m x) :=
  ⟨h.1, fun i hi => ⟨(h.2.1 i hi).1, (h.2.1 i hi).2.1, (h.2.1 i hi).2.2.1, (h.2.1 i hi).2.2.2.1, fun j hj => ⟨up2 ((h.2.1 i hi).2.2.2.2 j hj).1, up2 ((h.2.1 i hi).2.2.2.2 j hj).2⟩⟩, h.2.2⟩
theorem E_tell {N : Nat} {ev : EV} {a : AE} {b r : Nat} {m x : Int32} (h : EvA ev a) (ok : OkA a) (hb : b < aN a) (hr : r < aZ a b) : M_X0_tell N ev (nI b) (nI r) m x = some (EV_s_nots (EV_s_musts ev (upd (EV_musts ev) (b * 10 + r) m)) (upd (EV_nots ev) (b * 10 + r) x)) := by
  have h4 := ok.1
  have hz := (ok.2 b hb).2.2.1
  unfold M_X0_tell
  rw [E_ring h ok hb hr, Option.bind_some, if_neg (by decide), at10 (by omega) (by omega), if_neg (nI_in (by omega) (by omega)), if_neg (nI_in (by omega) (by omega)), nI_clamp (by omega)]
  rfl
theorem pS_table : S_table INV := by
  intro ro nw kp dr sh tp lw se rm K T hI p1 p2 p3 p4
  obtain ⟨a, h1, h2, h3, h4, h5, h6, h7, h8⟩ := id hI
  have j1 : M_X5_table_j39 NN p1 p2 p3 p4 (ro, nw) = some (-2, xRf ro 0, nw) := by
    unfold M_X5_table_j39
    rw [xRf_ok.1]
    rfl
  have j2 : M_X6_table_j38 NN p1 p2 p3 p4 rm = some (-2, mRf rm 0) := by
    unfold M_X6_table_j38
    rw [mRf_ok.1]
    rfl
  have bad (e1 : M_X5_table NN ro nw p1 p2 p3 p4 = some (-2, xRf ro 0, nw)) (e2 : M_X6_table NN rm p1 p2 p3 p4 = some (-2, mRf rm 0)) : ∃ o1, M_X5_table NN ro nw p1 p2 p3 p4 = some o1 ∧ ∃ o2, M_X6_table NN rm p1 p2 p3 p4 = some o2 ∧ o1.1 = o2.1 ∧ INV o1.2.1 o1.2.2 kp dr sh tp lw se o2.2 K T := ⟨_, e1, _, e2, rfl, hI.rf 0⟩
  by_cases hb : vB a p1
  · obtain ⟨b, hb, rfl⟩ := hb
    have hz := (h3.2 b hb).2.2.1
    have hp := p10 hz
    by_cases hr : vI (aZ a b) p2
    · obtain ⟨r, hr, rfl⟩ := hr
      by_cases hm : vI (2 ^ aZ a b) p3
      · obtain ⟨m, hm, rfl⟩ := hm
        by_cases hx : vI (2 ^ aZ a b) p4
        · obtain ⟨x, hx, rfl⟩ := hx
          have c1 : M_X5_table NN ro nw (nI b) (nI r) (nI m) (nI x) = if nI (aK a b) = (5 : Int32) then some (1, ro, EV_s_nots (EV_s_musts nw (upd (EV_musts nw) (b * 10 + r) (nI m))) (upd (EV_nots nw) (b * 10 + r) (nI x))) else some (-5, xRf ro 3, nw) := by
            unfold M_X5_table
            rw [E_ring h1 h3 hb hr, Option.bind_some, if_neg (by decide), E_setI h1 h3 hb hm, Option.bind_some, if_neg (by decide), E_setI h1 h3 hb hx, Option.bind_some, if_pos (by decide), E_kind h1 h3 hb, Option.bind_some, E_tell h1 h3 hb hr, xRf_ok.2.2.2.1]
            rfl
          have c2 : M_X6_table NN rm (nI b) (nI r) (nI m) (nI x) = if nI (aK a b) = (5 : Int32) then some (1, RM_s_not (RM_s_must rm (va_up (RM_must rm) b (upd (RM_must rm b) r (nI m)))) (va_up (RM_not rm) b (upd (RM_not rm b) r (nI x)))) else some (-5, mRf rm 3) := by
            unfold M_X6_table
            rw [R_bar h2 h3 hb, Option.bind_some, if_neg (by decide), R_ring h2 h3 hb hr, Option.bind_some, if_neg (by decide), R_setI h2 h3 hb hm, Option.bind_some, if_neg (by decide), R_setI h2 h3 hb hx, Option.bind_some, if_pos (by decide), if_neg (E_in h3 hb), if_neg (E_in h3 hb), if_neg (E_in h3 hb), if_neg (nI_in (by omega) (by omega)), if_neg (nI_in (by omega) (by omega)), E_cl h3 hb, (h2.2.1 b (by have := h3.1; omega)).1, mRf_ok.2.2.2.1, nI_clamp (n := r) (by omega)]
            rfl
          by_cases hk : nI (aK a b) = (5 : Int32)
          · rw [if_pos hk] at c1 c2
            exact ⟨_, c1, _, c2, rfl, sM a b r m x, h1.sM (by omega), h2.sM, h3.sM fun _ => ⟨hm, hx⟩, h4, h5, h6, h7, h8⟩
          · rw [if_neg hk] at c1 c2
            exact ⟨_, c1, _, c2, rfl, hI.rf 3⟩
        · refine bad ?_ ?_
          · unfold M_X5_table
            rw [E_ring h1 h3 hb hr, Option.bind_some, if_neg (by decide), E_setI h1 h3 hb hm, Option.bind_some, if_neg (by decide), E_nosetI h1 h3 (fun ⟨b', hb', e, hs⟩ => hx (by rw [(nI_eq (by have := h3.1; omega) (by have := h3.1; omega)).mp e]; exact hs)), Option.bind_some, if_neg (by decide), j1]
          · unfold M_X6_table
            rw [R_bar h2 h3 hb, Option.bind_some, if_neg (by decide), R_ring h2 h3 hb hr, Option.bind_some, if_neg (by decide), R_setI h2 h3 hb hm, Option.bind_some, if_neg (by decide), R_noset h2 h3 hb (fun g => hx ((vL_of (by omega)).mp g)), Option.bind_some, if_neg (by decide), j2]
      · refine bad ?_ ?_
        · unfold M_X5_table
          rw [E_ring h1 h3 hb hr, Option.bind_some, if_neg (by decide), E_nosetI h1 h3 (fun ⟨b', hb', e, hs⟩ => hm (by rw [(nI_eq (by have := h3.1; omega) (by have := h3.1; omega)).mp e]; exact hs)), Option.bind_some, if_pos rfl, j1]
        · unfold M_X6_table
          rw [R_bar h2 h3 hb, Option.bind_some, if_neg (by decide), R_ring h2 h3 hb hr, Option.bind_some, if_neg (by decide), R_noset h2 h3 hb (fun g => hm ((vL_of (by omega)).mp g)), Option.bind_some, if_pos rfl, j2]
    · refine bad ?_ ?_
      · unfold M_X5_table
        rw [E_noring h1 h3 (fun ⟨b', hb', e, hs⟩ => hr (by rw [(nI_eq (by have := h3.1; omega) (by have := h3.1; omega)).mp e]; exact hs)), Option.bind_some, if_pos rfl, j1]
      · unfold M_X6_table
        rw [R_bar h2 h3 hb, Option.bind_some, if_neg (by decide), R_noring h2 h3 hb hr, Option.bind_some, if_pos rfl, j2]
  · refine bad ?_ ?_
    · unfold M_X5_table
      rw [E_noring h1 h3 (fun ⟨b', hb', e, _⟩ => hb ⟨b', hb', e⟩), Option.bind_some, if_pos rfl, j1]
    · unfold M_X6_table
      rw [R_nobar h2 h3 hb, Option.bind_some, if_pos rfl, j2]
