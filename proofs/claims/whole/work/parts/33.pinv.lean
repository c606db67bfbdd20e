def ShA (sh : SH) (rm : RM) (nb : Nat) : Prop := ∀ s, s < 8 → (RM_shelf rm s = 0 ∧ SH_held sh s = -1) ∨ (RM_shelf rm s = 1 ∧ ∃ k z, k ≤ 4 ∧ z ≤ 40 ∧ SH_held sh s = nI k ∧ RM_rowSort rm s = nI k ∧ SH_lengths sh s = nI z ∧ RM_rowSize rm s = nI z ∧ ∀ i, i < z → SH_cells sh (s * 40 + i) = RM_rows rm s i) ∨ (RM_shelf rm s = 2 ∧ ∃ b, b < nb ∧ SH_held sh s = nI (10 + b) ∧ RM_shown rm s = nI b)
def TpA (tp : TP) (rm : RM) : Prop := ∃ z, z ≤ 250 ∧ TP_size tp = nI z ∧ RM_tapeSize rm = nI z ∧ ∀ i, i < z → ∃ c, c < 256 ∧ TP_bytes tp i = nI c ∧ RM_tape rm i = nI c
def KpA (ro : RO) (kp : EV) (K : Option RM) : Prop := (RO_imageStands ro = 0 ∧ K = none) ∨ (RO_imageStands ro = 1 ∧ ∃ r a, K = some r ∧ EvA kp a ∧ RmA r a ∧ OkA a)
def PlA (rm : RM) : Prop := RM_pl rm = 0 ∨ RM_pl rm = 1024
def INV (ro : RO) (nw kp _dr : EV) (sh : SH) (tp : TP) (_lw : LW) (_se : SE) (rm : RM) (K _T : Option RM) : Prop :=
  ∃ a, EvA nw a ∧ RmA rm a ∧ OkA a ∧ ShA sh rm (aN a) ∧ TpA tp rm ∧ RfA ro rm ∧ KpA ro kp K ∧ PlA rm
theorem INV.rf {ro : RO} {nw kp dr dr' : EV} {sh : SH} {tp : TP} {lw lw' : LW} {se se' : SE} {rm : RM} {K T T' : Option RM} (k : Nat) (h : INV ro nw kp dr sh tp lw se rm K T) : INV (xRf ro k) nw kp dr' sh tp lw' se' (mRf rm k) K T' := by
  obtain ⟨a, h1, h2, h3, h4, h5, h6, h7, h8⟩ := h
  exact ⟨a, h1, h2, h3, h4, h5, RfA_rf h6, h7, h8⟩
theorem INV.any {ro : RO} {nw kp dr dr' : EV} {sh : SH} {tp : TP} {lw lw' : LW} {se se' : SE} {rm : RM} {K T T' : Option RM} (h : INV ro nw kp dr sh tp lw se rm K T) : INV ro nw kp dr' sh tp lw' se' rm K T' := h
def sO (a : AE) (b v : Nat) : AE := (a.1, a.2.1, a.2.2.1, fun i => if i = b then v else aO a i, a.2.2.2.2)
def sT (a : AE) (b v : Nat) : AE := (a.1, a.2.1, a.2.2.1, a.2.2.2.1, fun i => if i = b then v else aT a i, a.2.2.2.2.2)
theorem OkA.sO {a : AE} {b v : Nat} (h : OkA a) (hv : b < aN a → v < 2 ^ aZ a b) : OkA (sO a b v) := by
  refine ⟨h.1, fun i hi => ?_⟩
  obtain ⟨h1, h2, h3, h4, h5⟩ := h.2 i hi
  refine ⟨h1, h2, h3, ?_, h5⟩
  show (if i = b then v else aO a i) < _
  by_cases e : i = b
  · rw [if_pos e]
    subst e
    exact hv hi
  · rw [if_neg e]
    exact h4
theorem OkA.sT {a : AE} {b v : Nat} (h : OkA a) (hv : b < aN a → v < 2 ^ aZ a b) : OkA (sT a b v) := by
  refine ⟨h.1, fun i hi => ?_⟩
  obtain ⟨h1, h2, h3, h4, h5, h6⟩ := h.2 i hi
  refine ⟨h1, h2, h3, h4, ?_, h6⟩
  show (if i = b then v else aT a i) < _
  by_cases e : i = b
  · rw [if_pos e]
    subst e
    exact hv hi
  · rw [if_neg e]
    exact h5
theorem upd_nI {f : Nat → Int32} {g : Nat → Nat} {b v i : Nat} (h : f i = nI (g i)) : upd f b (nI v) i = nI (if i = b then v else g i) := by
  unfold upd
  by_cases e : i = b
  · rw [if_pos e, if_pos e]
  · rw [if_neg e, if_neg e, h]
theorem EvA.sO {ev : EV} {a : AE} {b v : Nat} (h : EvA ev a) : EvA (EV_s_ons ev (upd (EV_ons ev) b (nI v))) (sO a b v) :=
  ⟨h.1, fun i hi => ⟨(h.2.1 i hi).1, (h.2.1 i hi).2.1, upd_nI (h.2.1 i hi).2.2.1, (h.2.1 i hi).2.2.2⟩, h.2.2⟩
theorem RmA.sO {rm : RM} {a : AE} {b v : Nat} (h : RmA rm a) : RmA (RM_s_on rm (upd (RM_on rm) b (nI v))) (sO a b v) :=
  ⟨h.1, fun i hi => ⟨(h.2.1 i hi).1, (h.2.1 i hi).2.1, upd_nI (h.2.1 i hi).2.2.1, (h.2.1 i hi).2.2.2⟩, h.2.2⟩
theorem EvA.sT {ev : EV} {a : AE} {b v : Nat} (h : EvA ev a) : EvA (EV_s_stucks ev (upd (EV_stucks ev) b (nI v))) (sT a b v) :=
  ⟨h.1, fun i hi => ⟨(h.2.1 i hi).1, (h.2.1 i hi).2.1, (h.2.1 i hi).2.2.1, upd_nI (h.2.1 i hi).2.2.2.1, (h.2.1 i hi).2.2.2.2⟩, h.2.2⟩
theorem RmA.sT {rm : RM} {a : AE} {b v : Nat} (h : RmA rm a) : RmA (RM_s_stuck rm (upd (RM_stuck rm) b (nI v))) (sT a b v) :=
  ⟨h.1, fun i hi => ⟨(h.2.1 i hi).1, (h.2.1 i hi).2.1, (h.2.1 i hi).2.2.1, upd_nI (h.2.1 i hi).2.2.2.1, (h.2.1 i hi).2.2.2.2⟩, h.2.2⟩
theorem p_set_cases (a : AE) (p1 p2 : Int32) : (∃ b s, b < aN a ∧ p1 = nI b ∧ s < 2 ^ aZ a b ∧ p2 = nI s) ∨ ¬ ∃ b, b < aN a ∧ p1 = nI b ∧ vI (2 ^ aZ a b) p2 := by
  by_cases h : ∃ b, b < aN a ∧ p1 = nI b ∧ vI (2 ^ aZ a b) p2
  · obtain ⟨b, h1, h2, s, h3, h4⟩ := h
    exact Or.inl ⟨b, s, h1, h2, h3, h4⟩
  · exact Or.inr h
theorem E_setI {N : Nat} {ev : EV} {a : AE} {b s : Nat} (h : EvA ev a) (ok : OkA a) (hb : b < aN a) (hs : s < 2 ^ aZ a b) : M_X0_hasSet N ev (nI b) (nI s).toInt64 = some 1 := by
  have h2 := p10 (ok.2 b hb).2.2.1
  exact E_set h ok hb ((vL_of (by omega)).mpr ⟨s, hs, rfl⟩)
theorem E_nosetI {N : Nat} {ev : EV} {a : AE} {p q : Int32} (h : EvA ev a) (ok : OkA a) (hv : ¬ ∃ b, b < aN a ∧ p = nI b ∧ vI (2 ^ aZ a b) q) : M_X0_hasSet N ev p q.toInt64 = some 0 := by
  refine E_noset h ok fun ⟨b, hb, e, hs⟩ => hv ⟨b, hb, e, ?_⟩
  have h2 := p10 (ok.2 b hb).2.2.1
  exact (vL_of (by omega)).mp hs
theorem R_setI {N : Nat} {rm : RM} {a : AE} {b s : Nat} (h : RmA rm a) (ok : OkA a) (hb : b < aN a) (hs : s < 2 ^ aZ a b) : M_X6_isSet N rm (nI b) (nI s).toInt64 = some 1 := by
  have h2 := p10 (ok.2 b hb).2.2.1
  exact R_set h ok hb ((vL_of (by omega)).mpr ⟨s, hs, rfl⟩)
/-- the two ways the reference finds no set -/
theorem R_setnot {N : Nat} {rm : RM} {a : AE} {p q : Int32} (h : RmA rm a) (ok : OkA a) (hv : ¬ ∃ b, b < aN a ∧ p = nI b ∧ vI (2 ^ aZ a b) q) : M_X6_isBar N rm p = some 0 ∨ (M_X6_isBar N rm p = some 1 ∧ M_X6_isSet N rm p q.toInt64 = some 0) := by
  by_cases hb : vB a p
  · obtain ⟨b, hb, rfl⟩ := hb
    have h2 := p10 (ok.2 b hb).2.2.1
    exact Or.inr ⟨R_bar h ok hb, R_noset h ok hb fun hs => hv ⟨b, hb, rfl, (vL_of (by omega)).mp hs⟩⟩
  · exact Or.inl (R_nobar h ok hb)
theorem pS_put : S_put INV := by
  intro ro nw kp dr sh tp lw se rm K T hI p1 p2
  obtain ⟨a, h1, h2, h3, h4, h5, h6, h7, h8⟩ := id hI
  rcases p_set_cases a p1 p2 with ⟨b, s, hb, rfl, hs, rfl⟩ | hno
  · have e1 : M_X5_put NN ro nw (nI b) (nI s) = some (nI (aO a b), ro, EV_s_ons nw (upd (EV_ons nw) b (nI s))) := by
      unfold M_X5_put M_X0_turnOn
      rw [E_setI h1 h3 hb hs, Option.bind_some, if_pos (by decide), E_on h1 h3 hb, Option.bind_some, E_bar h1 h3 hb, Option.bind_some, if_neg (by decide), if_neg (E_in h3 hb), E_cl h3 hb]
      rfl
    have e2 : M_X6_put NN rm (nI b) (nI s) = some (nI (aO a b), RM_s_on rm (upd (RM_on rm) b (nI s))) := by
      unfold M_X6_put
      rw [R_bar h2 h3 hb, Option.bind_some, if_neg (by decide), R_setI h2 h3 hb hs, Option.bind_some, if_pos (by decide), if_neg (E_in h3 hb), if_neg (E_in h3 hb), E_cl h3 hb, (h2.2.1 b (by have := h3.1; omega)).2.2.1]
    exact ⟨_, e1, _, e2, rfl, sO a b s, h1.sO, h2.sO, h3.sO fun _ => hs, h4, h5, h6, h7, h8⟩
  · have e1 : M_X5_put NN ro nw p1 p2 = some (-2, xRf ro 0, nw) := by
      unfold M_X5_put
      rw [E_nosetI h1 h3 hno, Option.bind_some, if_neg (by decide), xRf_ok.1]
      rfl
    have e2 : M_X6_put NN rm p1 p2 = some (-2, mRf rm 0) := by
      unfold M_X6_put M_X6_put_j18
      rcases R_setnot (N := NN) h2 h3 hno with e | ⟨e, e'⟩
      · rw [e, Option.bind_some, if_pos rfl, mRf_ok.1]
        rfl
      · rw [e, Option.bind_some, if_neg (by decide), e', Option.bind_some, if_neg (by decide), mRf_ok.1]
        rfl
    exact ⟨_, e1, _, e2, rfl, hI.rf 0⟩
