/-! the reference's mayAt, the class's take: one law -/
def aL (a : AE) (b : Nat) : PL := (aK a b, aZ a b, aT a b, aM a b, aX a b)
theorem aL_ok {a : AE} (ok : OkA a) {b : Nat} (hb : b < aN a) : OkQ (aL a b) := ⟨(ok.2 b hb).1, (ok.2 b hb).2.1, (ok.2 b hb).2.2.1, (ok.2 b hb).2.2.2.2.1⟩
theorem M_mask {N m : Nat} (hm : m ≤ 20) : M_X6_mask N (nI m) = some (nI (mk m)) := by
  unfold M_X6_mask mk
  by_cases e : m = 20
  · subst e; rfl
  · rw [if_neg e, if_pos (by rw [q_eq_20 (by omega)]; exact e), sh_1 (by omega)]
theorem C_rings {N m : Nat} (hm : m < 10 ∨ m = 20) : M_X5_ringsOf N (nI m) = some (nI (mk m)) := by
  unfold M_X5_ringsOf mk
  by_cases e : m = 20
  · subst e; rfl
  · rw [if_neg e, if_pos (by rw [q_eq_20 (by omega)]; exact e), if_neg (nI_pos (by omega)), if_neg (by rw [q_ge_10 (by omega)]; omega), sh_1 (by omega)]
theorem C_bit {N : Nat} (x : Int32) {m : Nat} (hm : m < 32) : M_X5_hasBit N x (nI m) = some (oB (bt x m)) := by
  unfold M_X5_hasBit
  rw [if_neg (nI_pos (by omega)), if_neg (by rw [q_ge_32 (by omega)]; omega)]
  cases h : bt x m
  · rw [if_pos ((bit_0 x hm).mpr h)]; rfl
  · rw [if_neg (fun g => by rw [bit_0 x hm, h] at g; cases g)]; rfl
theorem R_chained {N s m : Nat} (hm : m < 31) : M_X6_isChained N (nI s) (nI m) = some (oB (ch s m)) := by
  unfold M_X6_isChained ch
  by_cases e : m = 0
  · subst e; rfl
  · have h1 : 1 ≤ m := by omega
    have l1 : s % 2 ^ m < 2 ^ 31 := Nat.lt_of_lt_of_le (Nat.mod_lt _ (Nat.two_pow_pos m)) (Nat.pow_le_pow_right (by omega) (by omega))
    have l2 : 2 ^ (m - 1) < 2 ^ 31 := Nat.pow_lt_pow_right (by omega) (by omega)
    rw [if_neg (by rw [q_eq_0 (by omega)]; exact e), sh_1 hm, nI_s1 Nat.one_le_two_pow, fa_mask, nI_s1 h1, sh_1 (by omega)]
    by_cases g : s % 2 ^ m = 2 ^ (m - 1)
    · rw [if_neg (not_not_intro ((nI_eq l1 l2).mpr g)), b_eq g, Bool.or_true]; rfl
    · rw [if_pos (fun z => g ((nI_eq l1 l2).mp z)), b_ne g, b_ne e]; rfl
theorem R_by {k z s m : Nat} {t : Nat} {M X : Nat → Nat} (hz : z ≤ 10) (hs : s < 2 ^ z) (hm : m < z) (hk : k = 1 ∨ k = 2 ∨ k = 3 ∨ k = 4) : M_X6_mayBy NN (nI k) (nI s) (nI z) (nI m) = some (oB (bk (k, z, t, M, X) s m)) := by
  unfold M_X6_mayBy
  rw [R_chained (by omega), Option.bind_some, L_turn z (by omega) s hs, Option.bind_some, nI_s1 (by omega), pk_sub (by omega), R_chained (by omega), Option.bind_some]
  have e : ch (tu z s) (z - 1 - m) = af z s m := rfl
  rw [e]
  have nn : ∀ c, ¬ ¬ (oB c = 0 ∨ oB c = 1) := fun c => by rw [oB_01]; exact not_not_intro trivial
  rcases hk with rfl | rfl | rfl | rfl
  · rw [if_pos (by decide), if_pos (by decide), if_neg (nn _), show bk (1, z, t, M, X) s m = ch s m from by unfold bk; simp]
  · rw [if_pos (by decide), if_pos (by decide), if_neg (nn _), show bk (2, z, t, M, X) s m = ch s m from by unfold bk; simp]
  · rw [if_pos (by decide), if_neg (by decide), show bk (3, z, t, M, X) s m = (ch s m || af z s m) from by unfold bk; simp]
    cases ch s m <;> cases af z s m <;> rfl
  · rw [if_neg (by decide), if_neg (nn _), show bk (4, z, t, M, X) s m = af z s m from by unfold bk; simp]
section MAY
variable {N : Nat} {rm : RM} {ev : EV} {a : AE} {b : Nat}
theorem R_ringd (h : RmA rm a) (ok : OkA a) (hb : b < aN a) {m : Nat} (hm : m < 2 ^ 31) : M_X6_isRing N rm (nI b) (nI m) = some (oB (decide (m < aZ a b))) := by
  have hz := (ok.2 b hb).2.2.1
  by_cases l : m < aZ a b
  · rw [R_ring h ok hb l, decide_eq_true l]; rfl
  · rw [R_noring h ok hb (fun ⟨r, hr, e⟩ => l (by rw [(nI_eq hm (by omega)).mp e]; exact hr)), decide_eq_false l]; rfl
theorem R_move (h : RmA rm a) (ok : OkA a) (hb : b < aN a) {m : Nat} (hm : m < 2 ^ 31) : M_X6_isMove N rm (nI b) (nI m) = some (oB (mvb (aL a b) m)) := by
  have hz := (ok.2 b hb).2.2.1
  have hk := (ok.2 b hb).1
  have h4 := ok.1
  have g := h.2.1 b (by omega)
  have e0 : mvb (aL a b) m = (decide (m < aZ a b) || (m == 20 && aK a b == 2 && decide (2 ≤ aZ a b))) := rfl
  unfold M_X6_isMove
  simp only [E_cl ok hb, if_neg (E_ix ok hb), g.1, g.2.1]
  rw [R_ringd h ok hb hm, Option.bind_some, e0]
  by_cases l : m < aZ a b
  · rw [decide_eq_true l]; rfl
  · rw [decide_eq_false l, if_neg (by decide), Bool.false_or]
    by_cases e : m = 20
    · rw [if_neg (by rw [q_eq_20 hm]; exact not_not_intro e), b_eq e, Bool.true_and]
      by_cases e2 : aK a b = 2
      · rw [if_neg (by rw [q_eq_2 (by omega)]; exact not_not_intro e2), b_eq e2, Bool.true_and]
        by_cases e3 : aZ a b < 2
        · rw [if_pos (by rw [q_lt_2 (by omega)]; exact e3), decide_eq_false (by omega)]; rfl
        · rw [if_neg (by rw [q_lt_2 (by omega)]; exact e3), decide_eq_true (by omega)]; rfl
      · rw [if_pos (by rw [q_eq_2 (by omega)]; exact e2), b_ne e2]; rfl
    · rw [if_pos (by rw [q_eq_20 hm]; exact e), b_ne e]; rfl
theorem R_may (h : RmA rm a) (ok : OkA a) (hb : b < aN a) {s m : Nat} (hs : s < 2 ^ aZ a b) (hm : m < 2 ^ 31) : M_X6_mayAt NN rm (nI b) (nI s) (nI m) = some (oB (lgl (aL a b) s m)) := by
  obtain ⟨hk, hz1, hz, -, ht, -⟩ := ok.2 b hb
  have h4 := ok.1
  have g := h.2.1 b (by omega)
  have m3 : ∀ n, nI n &&& (3 : Int32) = nI (n % 4) := fun n => fa_mask n 2
  have m3' : ∀ n, (3 : Int32) &&& nI n = nI (n % 4) := fun n => by rw [Int32.and_comm]; exact m3 n
  have l4 : ∀ n, n % 4 < 2 ^ 31 := fun n => by omega
  unfold M_X6_mayAt
  simp only [E_cl ok hb, if_neg (E_ix ok hb), g.1, g.2.1, g.2.2.2.1]
  rw [R_move h ok hb hm, Option.bind_some]
  cases v : mvb (aL a b) m
  · rw [show lgl (aL a b) s m = false from by
      cases e : lgl (aL a b) s m
      · rfl
      · rw [mvb_of e] at v; cases v]
    rfl
  · have hm20 := mvb_20 (q := aL a b) hz v
    rw [if_neg (by decide), M_mask hm20.1, Option.bind_some]
    by_cases e : m = 20
    · subst e
      have v2 : aK a b = 2 ∧ 2 ≤ aZ a b := by
        unfold mvb aL at v
        simp only [Bool.or_eq_true, Bool.and_eq_true, decide_eq_true_eq, beq_iff_eq] at v
        rcases v with v | v
        · omega
        · exact ⟨v.1.2, v.2⟩
      have e1 : lgl (aL a b) s 20 = (aT a b % 4 == 0 && (s % 4 == 0 || s % 4 == 3)) := by
        unfold lgl bo aL
        rw [if_pos rfl]
        simp only [b_eq v2.1, decide_eq_true v2.2, Bool.true_and]
      rw [mk_20, show nI 3 = (3 : Int32) from rfl, m3', m3, e1]
      by_cases g3 : aT a b % 4 = 0
      · rw [if_pos ((q_eq_0 (l4 _)).mpr g3), if_neg (by decide), b_eq g3, Bool.true_and]
        by_cases g4 : s % 4 = 0
        · rw [if_pos ((q_eq_0 (l4 _)).mpr g4), b_eq g4]; rfl
        · rw [if_neg (fun z => g4 ((q_eq_0 (l4 _)).mp z)), b_ne g4, Bool.false_or]
          by_cases g5 : s % 4 = 3
          · rw [if_neg (not_not_intro ((q_eq_3 (l4 _)).mpr g5)), b_eq g5]; rfl
          · rw [if_pos (fun z => g5 ((q_eq_3 (l4 _)).mp z)), b_ne g5]; rfl
      · rw [if_neg (fun z => g3 ((q_eq_0 (l4 _)).mp z)), b_ne g3]; rfl
    · have l : m < aZ a b := by
        unfold mvb aL at v
        simp only [Bool.or_eq_true, Bool.and_eq_true, decide_eq_true_eq, beq_iff_eq] at v
        omega
      have g2 := g.2.2.2.2 m (by omega)
      have e1 : lgl (aL a b) s m = (!(aT a b).testBit m && bk (aL a b) s m) := by
        unfold lgl
        rw [if_neg e, show decide (m < (aL a b).2.1) = true from decide_eq_true l, Bool.true_and]
        rfl
      simp only [nI_clamp hm, if_neg (ix (show m < 10 by omega) (by omega)), g2.1, g2.2]
      rw [mk_r e, Int32.and_comm, e1]
      cases tt : (aT a b).testBit m
      · rw [if_pos ((fa_bit (by omega)).mpr tt), if_pos (by rw [q_eq_20 (by omega)]; exact e), Bool.not_false, Bool.true_and]
        by_cases k0 : aK a b = 0
        · rw [if_neg (by rw [q_eq_0 (by omega)]; exact not_not_intro k0), show bk (aL a b) s m = true from by unfold bk aL; rw [if_pos k0]]
          rfl
        · rw [if_pos (by rw [q_eq_0 (by omega)]; exact k0)]
          by_cases k5 : aK a b = 5
          · rw [if_neg (by rw [q_eq_5 (by omega)]; exact not_not_intro k5), show bk (aL a b) s m = td (aM a b) (aX a b) s m from by unfold bk aL; rw [if_neg k0, if_pos k5]]
            unfold td
            by_cases u : nI (aM a b m) &&& (nI s ^^^ -1) = 0
            · by_cases u2 : nI (aX a b m) &&& nI s = 0
              · rw [if_neg (not_not_intro u), if_neg (not_not_intro u2), u, u2]; rfl
              · rw [if_neg (not_not_intro u), if_pos u2, beq_eq_false_iff_ne.mpr u2, Bool.and_false]; rfl
            · rw [if_pos u, beq_eq_false_iff_ne.mpr u, Bool.false_and]; rfl
          · rw [if_pos (by rw [q_eq_5 (by omega)]; exact k5), R_by (t := aT a b) (M := aM a b) (X := aX a b) hz hs l (by omega), Option.bind_some, if_neg (by rw [oB_01]; exact not_not_intro trivial)]
            rfl
      · rw [if_neg (by rw [fa_bit (by omega), tt]; decide)]
        rfl
theorem C_take (h : EvA ev a) (ok : OkA a) (hb : b < aN a) (lw : LW) : ∃ lw', M_X1_take N lw ev (nI b) = some lw' ∧ LwQ lw' (aL a b) := by
  obtain ⟨hk, hz1, hz, -, ht, -⟩ := ok.2 b hb
  have h4 := ok.1
  have g := h.2.1 b (by omega)
  have e10 : nI b * (10 : Int32) = nI (b * 10) := pk_mul b 10
  have cc : ¬ (nI (b * 10) < 0 ∨ 40 < b * 10 + 10 ∨ 10 < 0 + 10) := by
    rw [q_lt_0 (by omega)]
    omega
  unfold M_X1_take M_X1_takePlain
  simp only [E_cl ok hb, if_neg (E_ix ok hb), e10, nI_clamp (show b * 10 < 2 ^ 31 by omega), c_0, c_10, o_l00, o_l100, false_or, if_neg cc]
  rw [E_bar h ok hb, Option.bind_some, if_neg (by decide), Option.bind_some]
  refine ⟨_, rfl, g.1, g.2.1, g.2.2.2.1, fun _ r hr => ⟨?_, ?_⟩⟩
  · show va_cpy (EV_musts ev) _ (b * 10) 0 10 r = _
    rw [pk_cpy_in (by omega) (by omega), Nat.sub_zero]
    exact (g.2.2.2.2 r hr).1
  · show va_cpy (EV_nots ev) _ (b * 10) 0 10 r = _
    rw [pk_cpy_in (by omega) (by omega), Nat.sub_zero]
    exact (g.2.2.2.2 r hr).2
theorem E_ringd (h : EvA ev a) (ok : OkA a) (hb : b < aN a) {m : Nat} (hm : m < 2 ^ 31) : M_X0_hasRing N ev (nI b) (nI m) = some (oB (decide (m < aZ a b))) := by
  have hz := (ok.2 b hb).2.2.1
  by_cases l : m < aZ a b
  · rw [E_ring h ok hb l, decide_eq_true l]; rfl
  · rw [E_noringb h ok hb (fun ⟨r, hr, e⟩ => l (by rw [(nI_eq hm (by omega)).mp e]; exact hr)), decide_eq_false l]; rfl
theorem E_move (h : EvA ev a) (ok : OkA a) (hb : b < aN a) {m : Nat} (hm : m < 2 ^ 31) : M_X0_hasMove N ev (nI b) (nI m) = some (oB (mvb (aL a b) m)) := by
  have hz := (ok.2 b hb).2.2.1
  have hk := (ok.2 b hb).1
  have e0 : mvb (aL a b) m = (decide (m < aZ a b) || (m == 20 && aK a b == 2 && decide (2 ≤ aZ a b))) := rfl
  unfold M_X0_hasMove
  rw [E_ringd h ok hb hm, E_kind h ok hb, E_size h ok hb, Option.bind_some, Option.bind_some, Option.bind_some, e0]
  by_cases e : m = 20
  · rw [if_neg (by rw [q_eq_20 hm]; exact not_not_intro e), decide_eq_false (show ¬ m < aZ a b by omega), Bool.false_or, b_eq e, Bool.true_and]
    by_cases e2 : aK a b = 2
    · rw [if_neg (by rw [q_eq_2 (by omega)]; exact not_not_intro e2), b_eq e2, Bool.true_and]
      by_cases e3 : aZ a b < 2
      · rw [if_pos (by rw [q_lt_2 (by omega)]; exact e3), decide_eq_false (by omega)]; rfl
      · rw [if_neg (by rw [q_lt_2 (by omega)]; exact e3), decide_eq_true (by omega)]; rfl
    · rw [if_pos (by rw [q_eq_2 (by omega)]; exact e2), b_ne e2]; rfl
  · rw [if_pos (by rw [q_eq_20 hm]; exact e), b_ne e, if_neg (by rw [oB_01]; exact not_not_intro trivial), Bool.false_and, Bool.false_and, Bool.or_false]
theorem C_legalNow {ro : RO} (h : EvA ev a) (ok : OkA a) (hb : b < aN a) (lw : LW) : ∃ lw', M_X5_legalNow NN ro ev lw (nI b) = some (nI (lg (aL a b) (aO a b)), lw') := by
  obtain ⟨lw', h1, h2⟩ := C_take (N := NN) h ok hb lw
  refine ⟨lw', ?_⟩
  unfold M_X5_legalNow
  rw [h1, Option.bind_some, E_on h ok hb, Option.bind_some, L_legal h2 (aL_ok ok hb) (ok.2 b hb).2.2.2.1]
  rfl
end MAY
