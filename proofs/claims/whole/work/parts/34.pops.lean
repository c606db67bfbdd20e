theorem pS_stick : S_stick INV := by
  intro ro nw kp dr sh tp lw se rm K T hI p1 p2
  obtain ⟨a, h1, h2, h3, h4, h5, h6, h7, h8⟩ := id hI
  rcases p_set_cases a p1 p2 with ⟨b, s, hb, rfl, hs, rfl⟩ | hno
  · have e1 : M_X5_stick NN ro nw (nI b) (nI s) = some (nI (aT a b), ro, EV_s_stucks nw (upd (EV_stucks nw) b (nI s))) := by
      unfold M_X5_stick M_X0_fasten
      rw [E_setI h1 h3 hb hs, Option.bind_some, if_pos (by decide), E_stuck h1 h3 hb, Option.bind_some, E_bar h1 h3 hb, Option.bind_some, if_neg (by decide), if_neg (E_in h3 hb), E_cl h3 hb]
      rfl
    have e2 : M_X6_stick NN rm (nI b) (nI s) = some (nI (aT a b), RM_s_stuck rm (upd (RM_stuck rm) b (nI s))) := by
      unfold M_X6_stick
      rw [R_bar h2 h3 hb, Option.bind_some, if_neg (by decide), R_setI h2 h3 hb hs, Option.bind_some, if_pos (by decide), if_neg (E_in h3 hb), if_neg (E_in h3 hb), E_cl h3 hb, (h2.2.1 b (by have := h3.1; omega)).2.2.2.1]
    exact ⟨_, e1, _, e2, rfl, sT a b s, h1.sT, h2.sT, h3.sT fun _ => hs, h4, h5, h6, h7, h8⟩
  · have e1 : M_X5_stick NN ro nw p1 p2 = some (-2, xRf ro 0, nw) := by
      unfold M_X5_stick
      rw [E_nosetI h1 h3 hno, Option.bind_some, if_neg (by decide), xRf_ok.1]
      rfl
    have e2 : M_X6_stick NN rm p1 p2 = some (-2, mRf rm 0) := by
      unfold M_X6_stick M_X6_stick_j18
      rcases R_setnot (N := NN) h2 h3 hno with e | ⟨e, e'⟩
      · rw [e, Option.bind_some, if_pos rfl, mRf_ok.1]
        rfl
      · rw [e, Option.bind_some, if_neg (by decide), e', Option.bind_some, if_neg (by decide), mRf_ok.1]
        rfl
    exact ⟨_, e1, _, e2, rfl, hI.rf 0⟩
def sU (a : AE) (r : Nat) (v : Int32) : AE := (a.1, a.2.1, a.2.2.1, a.2.2.2.1, a.2.2.2.2.1, a.2.2.2.2.2.1, a.2.2.2.2.2.2.1, upd (aU a) r v, a.2.2.2.2.2.2.2.2)
def sW (a : AE) (v : Int32) : AE := (a.1, a.2.1, a.2.2.1, a.2.2.2.1, a.2.2.2.2.1, a.2.2.2.2.2.1, a.2.2.2.2.2.2.1, a.2.2.2.2.2.2.2.1, a.2.2.2.2.2.2.2.2.1, v)
def sV (a : AE) (v : Int32) : AE := (a.1, a.2.1, a.2.2.1, a.2.2.2.1, a.2.2.2.2.1, a.2.2.2.2.2.1, a.2.2.2.2.2.2.1, a.2.2.2.2.2.2.2.1, v, a.2.2.2.2.2.2.2.2.2)
def sM (a : AE) (b r m x : Nat) : AE := (a.1, a.2.1, a.2.2.1, a.2.2.2.1, a.2.2.2.2.1, (fun i j => if i = b ∧ j = r then m else aM a i j), (fun i j => if i = b ∧ j = r then x else aX a i j), a.2.2.2.2.2.2.2)
theorem upd_at {f g : Nat → Int32} {r i : Nat} {v : Int32} (h : f i = g i) : upd f r v i = upd g r v i := by
  unfold upd
  by_cases e : i = r
  · rw [if_pos e, if_pos e]
  · rw [if_neg e, if_neg e, h]
theorem pS_seed : S_seed INV := by
  intro ro nw kp dr sh tp lw se rm K T hI p1
  obtain ⟨a, h1, h2, h3, h4, h5, h6, h7, h8⟩ := id hI
  exact ⟨_, rfl, _, rfl, h1.2.2.2.2.trans h2.2.2.2.2.symm, sW a p1, ⟨h1.1, h1.2.1, h1.2.2.1, h1.2.2.2.1, rfl⟩, ⟨h2.1, h2.2.1, h2.2.2.1, h2.2.2.2.1, rfl⟩, h3, h4, h5, h6, h7, h8⟩
theorem lt_toInt {x y : Int32} : x < y ↔ x.toInt < y.toInt := Int32.lt_iff_toInt_lt
theorem le_toInt {x y : Int32} : x ≤ y ↔ x.toInt ≤ y.toInt := Int32.le_iff_toInt_le
theorem E_min {N : Nat} {ev : EV} {a : AE} {r : Nat} (h : EvA ev a) (hr : r < 10) : M_X0_minutesOf N ev (nI r) = some (aU a r) := by
  unfold M_X0_minutesOf
  rw [if_neg (nI_pos (by omega)), if_neg (show ¬ ((10 : Int32) ≤ nI r) from nI_ge (b := 10) (by omega) (by omega)), if_neg (nI_in (by omega) (by omega)), nI_clamp (by omega), h.2.2.1 r hr]
theorem pS_minutes : S_minutes INV := by
  intro ro nw kp dr sh tp lw se rm K T hI p1 p2
  obtain ⟨a, h1, h2, h3, h4, h5, h6, h7, h8⟩ := id hI
  by_cases hv : vI 10 p1 ∧ vI 100 p2
  · obtain ⟨⟨r, hr, rfl⟩, v, hv, rfl⟩ := hv
    have e1 : M_X5_minutes NN ro nw (nI r) (nI v) = some (aU a r, ro, EV_s_ringMinutes nw (upd (EV_ringMinutes nw) r (nI v))) := by
      unfold M_X5_minutes M_X0_setMinutes
      rw [if_neg (nI_pos (by omega)), if_neg (show ¬ ((10 : Int32) ≤ nI r) from nI_ge (b := 10) (by omega) (by omega)), if_neg (nI_pos (by omega)), if_pos (show nI v ≤ (99 : Int32) from nI_le (b := 99) (by omega) (by omega)), E_min h1 hr, Option.bind_some, if_neg (nI_pos (by omega)), if_neg (show ¬ ((10 : Int32) ≤ nI r) from nI_ge (b := 10) (by omega) (by omega)), if_neg (nI_in (by omega) (by omega)), nI_clamp (by omega)]
      rfl
    have e2 : M_X6_minutes NN rm (nI r) (nI v) = some (aU a r, RM_s_minutes rm (upd (RM_minutes rm) r (nI v))) := by
      unfold M_X6_minutes
      rw [R_q1 (k := 10) ⟨r, hr, rfl⟩ rfl (by omega), Option.bind_some, if_neg (by decide), R_q1 (k := 100) ⟨v, hv, rfl⟩ rfl (by omega), Option.bind_some, if_pos (by decide), if_neg (nI_in (by omega) (by omega)), if_neg (nI_in (by omega) (by omega)), nI_clamp (by omega), h2.2.2.1 r hr]
    exact ⟨_, e1, _, e2, rfl, sU a r (nI v), ⟨h1.1, h1.2.1, fun i hi => upd_at (h1.2.2.1 i hi), h1.2.2.2⟩, ⟨h2.1, h2.2.1, fun i hi => upd_at (h2.2.2.1 i hi), h2.2.2.2⟩, h3, h4, h5, h6, h7, h8⟩
  · have e1 : M_X5_minutes NN ro nw p1 p2 = some (-2, xRf ro 0, nw) := by
      have ej : M_X5_minutes_j20 NN p1 p2 (ro, nw) = some (-2, xRf ro 0, nw) := by
        unfold M_X5_minutes_j20
        rw [xRf_ok.1]
        rfl
      rw [vI_int (by omega), vI_int (by omega)] at hv
      unfold M_X5_minutes
      rw [ej]
      simp only [lt_toInt, le_toInt, show (0 : Int32).toInt = 0 from rfl, show (10 : Int32).toInt = 10 from rfl, show (99 : Int32).toInt = 99 from rfl]
      split
      · rfl
      · split
        · rfl
        · split
          · rfl
          · split
            · omega
            · rfl
    have e2 : M_X6_minutes NN rm p1 p2 = some (-2, mRf rm 0) := by
      have ej : M_X6_minutes_j24 NN p1 p2 rm = some (-2, mRf rm 0) := by
        unfold M_X6_minutes_j24
        rw [mRf_ok.1]
        rfl
      unfold M_X6_minutes
      rw [ej]
      by_cases g : vI 10 p1
      · rw [R_q1 (k := 10) g rfl (by omega), Option.bind_some, if_neg (by decide), R_q0 (k := 100) (fun g2 => hv ⟨g, g2⟩) rfl (by omega)]
        rfl
      · rw [R_q0 (k := 10) g rfl (by omega)]
        rfl
    exact ⟨_, e1, _, e2, rfl, hI.rf 0⟩
