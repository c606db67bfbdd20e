/-! may, moves, move; counts of bits; place, setOf, luck; status -/
theorem E_moveN {N : Nat} {ev : EV} {a : AE} {p q : Int32} (h : EvA ev a) (ok : OkA a) (hp : ¬ vB a p ∨ q.toInt < 0) : M_X0_hasMove N ev p q = some 0 := by
  unfold M_X0_hasMove
  by_cases e : q = 20
  · subst e
    have hb : ¬ vB a p := by
      rcases hp with hp | hp
      · exact hp
      · rw [t_20] at hp; omega
    rw [if_neg (not_not_intro rfl), E_nokind h ok hb]
    rfl
  · rw [if_pos e, E_noring h ok, Option.bind_some, i_o0]
    · rfl
    · rintro ⟨b, hb, rfl, hs⟩
      rcases hp with hp | hp
      · exact hp ⟨b, hb, rfl⟩
      · have hz := (ok.2 b hb).2.2.1
        rw [vI_int (by omega)] at hs
        omega
theorem R_moveN {N : Nat} {rm : RM} {a : AE} {b : Nat} {q : Int32} (h : RmA rm a) (ok : OkA a) (hb : b < aN a) (hq : q.toInt < 0) : M_X6_isMove N rm (nI b) q = some 0 := by
  have hz := (ok.2 b hb).2.2.1
  unfold M_X6_isMove
  rw [R_noring h ok hb (fun hs => by rw [vI_int (by omega)] at hs; omega), Option.bind_some, if_neg (not_not_intro rfl), if_pos (fun e => by rw [e, t_20] at hq; omega)]
theorem C_hasBit {N : Nat} {q : PL} {s m : Nat} (hm : m ≤ 20) : M_X5_hasBit N (nI (lg q s)) (nI m) = some (oB (lgl q s m)) := by
  rw [C_bit _ (by omega), bt_nI, decide_eq_true (by omega), Bool.true_and, lg_bit hm]
theorem pS_may : S_may INV := by
  intro ro nw kp dr sh tp lw se rm K T hI p1 p2
  obtain ⟨a, h1, h2, h3, h4, h5, h6, h7, h8⟩ := id hI
  have hn := h3.1
  have bad (e1 : M_X0_hasMove NN nw p1 p2 = some 0) (e2 : M_X6_isBar NN rm p1 = some 0 ∨ (M_X6_isBar NN rm p1 = some 1 ∧ M_X6_isMove NN rm p1 p2 = some 0)) : ∃ o1, M_X5_may NN ro nw lw p1 p2 = some o1 ∧ ∃ o2, M_X6_may NN rm p1 p2 = some o2 ∧ o1.1 = o2.1 ∧ INV o1.2.1 nw kp dr sh tp o1.2.2 se o2.2 K T := by
    refine ⟨(-2, xRf ro 0, lw), ?_, (-2, mRf rm 0), ?_, rfl, hI.rf 0⟩
    · unfold M_X5_may
      rw [e1, Option.bind_some, if_neg (by decide), xRf_ok.1]
      rfl
    · have ej : M_X6_may_j17 NN p1 p2 rm = some (-2, mRf rm 0) := by
        unfold M_X6_may_j17
        rw [mRf_ok.1]
        rfl
      unfold M_X6_may
      rw [ej]
      rcases e2 with e2 | ⟨e2, e3⟩
      · rw [e2]; rfl
      · rw [e2, Option.bind_some, if_neg (by decide), e3]; rfl
  by_cases hb : vB a p1
  · by_cases hq : 0 ≤ p2.toInt
    · obtain ⟨b, hb, rfl⟩ := hb
      obtain ⟨m, hm, rfl⟩ := of_int hq
      have ho := (h3.2 b hb).2.2.2.1
      cases v : mvb (aL a b) m
      · exact bad (by rw [E_move h1 h3 hb hm, v]; rfl) (Or.inr ⟨R_bar h2 h3 hb, by rw [R_move h2 h3 hb hm, v]; rfl⟩)
      · have hm20 := (mvb_20 (q := aL a b) (h3.2 b hb).2.2.1 v).1
        obtain ⟨lw', c1⟩ := C_legalNow (ro := ro) h1 h3 hb lw
        have hb4 : b < 4 := by omega
        unfold M_X5_may M_X6_may
        rw [E_move h1 h3 hb hm, v, Option.bind_some, if_pos (by decide), c1, Option.bind_some, C_hasBit hm20, Option.bind_some, R_bar h2 h3 hb, Option.bind_some, if_neg (by decide), R_move h2 h3 hb hm, v, Option.bind_some, if_pos (by decide), if_neg (E_in h3 hb), E_cl h3 hb, (h2.2.1 b hb4).2.2.1, R_may h2 h3 hb ho hm, Option.bind_some]
        cases lgl (aL a b) (aO a b) m
        · exact ⟨_, rfl, _, rfl, rfl, hI⟩
        · exact ⟨_, rfl, _, rfl, rfl, hI⟩
    · obtain ⟨b, hb, rfl⟩ := hb
      exact bad (E_moveN h1 h3 (Or.inr (by omega))) (Or.inr ⟨R_bar h2 h3 hb, R_moveN h2 h3 hb (by omega)⟩)
  · exact bad (E_moveN h1 h3 (Or.inl hb)) (Or.inl (R_nobar h2 h3 hb))
theorem pS_moves : S_moves INV := by
  intro ro nw kp dr sh tp lw se rm K T hI p1
  obtain ⟨a, h1, h2, h3, h4, h5, h6, h7, h8⟩ := id hI
  have hn := h3.1
  by_cases hb : vB a p1
  · obtain ⟨b, hb, rfl⟩ := hb
    have ho := (h3.2 b hb).2.2.2.1
    obtain ⟨lw', c1⟩ := C_legalNow (ro := ro) h1 h3 hb lw
    refine ⟨(nI (lg (aL a b) (aO a b)), ro, lw'), ?_, (nI (lg (aL a b) (aO a b)), rm), ?_, rfl, hI⟩
    · unfold M_X5_moves
      rw [E_bar h1 h3 hb, Option.bind_some, if_pos (by decide), c1]
      rfl
    · unfold M_X6_moves
      rw [R_bar h2 h3 hb, Option.bind_some, if_pos (by decide)]
      refine lp_for (fun i => (rm, nI (bs (lgl (aL a b) (aO a b)) i), nI i)) 21 (fun i hi rec => ?_) (fun rec => ?_) (by decide)
      · show M_X6_moves_l19 NN (nI b) rec (rm, nI (bs (lgl (aL a b) (aO a b)) i), nI i) = _
        unfold M_X6_moves_l19 M_X6_moves_j48
        simp only []
        rw [if_neg (by rw [q_gt_20 (by omega)]; omega), if_neg (E_in h3 hb), E_cl h3 hb, (h2.2.1 b (by omega)).2.2.1, R_may h2 h3 hb ho (by omega), Option.bind_some, bs, nI_1]
        cases lgl (aL a b) (aO a b) i
        · rw [if_pos (by decide), if_neg (by decide), Nat.or_zero, show (0 : Int32) = nI 0 from rfl, fa_or, Nat.or_zero]
        · rw [if_neg (by decide), if_pos rfl, sh_1 (by omega), fa_or]
      · rfl
  · refine ⟨(-2, xRf ro 0, lw), ?_, (-2, mRf rm 0), ?_, rfl, hI.rf 0⟩
    · unfold M_X5_moves
      rw [E_nobar h1 h3 hb, Option.bind_some, if_neg (by decide), xRf_ok.1]
      rfl
    · unfold M_X6_moves
      rw [R_nobar h2 h3 hb, Option.bind_some, if_neg (by decide), mRf_ok.1]
      rfl
def aMv (a : AE) (b m : Nat) : AE := sV (sO a b (aO a b ^^^ mk m)) (aV a + 1)
theorem aMv_ok {a : AE} {b m : Nat} (ok : OkA a) (hb : b < aN a) (hm : mvb (aL a b) m = true) : OkA (aMv a b m) := by
  have := ok.sO (b := b) (v := aO a b ^^^ mk m) fun hb => mvb_mk (q := aL a b) (ok.2 b hb).2.2.1 hm (ok.2 b hb).2.2.2.1
  exact this
theorem C_make {N : Nat} {ev : EV} {a : AE} {b m : Nat} (h : EvA ev a) (ok : OkA a) (hb : b < aN a) (hm : m < 10 ∨ m = 20) : ∃ ev', M_X0_makeMove N ev (nI b) (nI m) = some ev' ∧ EvA ev' (aMv a b m) := by
  have hn := ok.1
  unfold M_X0_makeMove
  rw [E_bar h ok hb, Option.bind_some, if_neg (by decide), if_neg (E_in ok hb), C_rings hm, Option.bind_some, if_neg (E_in ok hb), E_cl ok hb, (h.2.1 b (by omega)).2.2.1, fb_xorI]
  have g := h.sO (b := b) (v := aO a b ^^^ mk m)
  refine ⟨_, rfl, g.1, g.2.1, g.2.2.1, ?_, g.2.2.2.2⟩
  show EV_moved ev + 1 = aV a + 1
  rw [h.2.2.2.1]
theorem R_make {N : Nat} {rm : RM} {a : AE} {b m : Nat} (h : RmA rm a) (ok : OkA a) (hb : b < aN a) (hm : m ≤ 20) : ∃ rm', M_X6_makes N rm (nI b) (nI m) = some rm' ∧ RmA rm' (aMv a b m) ∧ NE rm rm' := by
  have hn := ok.1
  unfold M_X6_makes
  rw [if_neg (E_in ok hb), M_mask hm, Option.bind_some, if_neg (E_in ok hb), E_cl ok hb, (h.2.1 b (by omega)).2.2.1, fb_xorI]
  have g := h.sO (b := b) (v := aO a b ^^^ mk m)
  refine ⟨_, rfl, ⟨g.1, g.2.1, g.2.2.1, ?_, g.2.2.2.2⟩, rfl⟩
  show RM_movedAll rm + 1 = aV a + 1
  rw [h.2.2.2.1]
theorem pS_move : S_move INV := by
  intro ro nw kp dr sh tp lw se rm K T hI p1 p2
  obtain ⟨a, h1, h2, h3, h4, h5, h6, h7, h8⟩ := id hI
  have hn := h3.1
  have bad (e1 : M_X0_hasMove NN nw p1 p2 = some 0) (e2 : M_X6_isBar NN rm p1 = some 0 ∨ (M_X6_isBar NN rm p1 = some 1 ∧ M_X6_isMove NN rm p1 p2 = some 0)) : ∃ o1, M_X5_move NN ro nw lw p1 p2 = some o1 ∧ ∃ o2, M_X6_move NN rm p1 p2 = some o2 ∧ o1.1 = o2.1 ∧ INV o1.2.1 o1.2.2.1 kp dr sh tp o1.2.2.2 se o2.2 K T := by
    refine ⟨(-2, xRf ro 0, nw, lw), ?_, (-2, mRf rm 0), ?_, rfl, hI.rf 0⟩
    · unfold M_X5_move
      rw [e1, Option.bind_some, if_neg (by decide), xRf_ok.1]
      rfl
    · have ej : M_X6_move_j17 NN p1 p2 rm = some (-2, mRf rm 0) := by
        unfold M_X6_move_j17
        rw [mRf_ok.1]
        rfl
      unfold M_X6_move
      rw [ej]
      rcases e2 with e2 | ⟨e2, e3⟩
      · rw [e2]; rfl
      · rw [e2, Option.bind_some, if_neg (by decide), e3]; rfl
  by_cases hb : vB a p1
  · by_cases hq : 0 ≤ p2.toInt
    · obtain ⟨b, hb, rfl⟩ := hb
      obtain ⟨m, hm, rfl⟩ := of_int hq
      have ho := (h3.2 b hb).2.2.2.1
      cases v : mvb (aL a b) m
      · exact bad (by rw [E_move h1 h3 hb hm, v]; rfl) (Or.inr ⟨R_bar h2 h3 hb, by rw [R_move h2 h3 hb hm, v]; rfl⟩)
      · have hm20 := mvb_20 (q := aL a b) (h3.2 b hb).2.2.1 v
        obtain ⟨lw', c1⟩ := C_legalNow (ro := ro) h1 h3 hb lw
        have hb4 : b < 4 := by omega
        have ok' : OkA (aMv a b m) := aMv_ok h3 hb v
        unfold M_X5_move M_X6_move
        rw [E_move h1 h3 hb hm, v, Option.bind_some, if_pos (by decide), c1, Option.bind_some, C_hasBit hm20.1, Option.bind_some, R_bar h2 h3 hb, Option.bind_some, if_neg (by decide), R_move h2 h3 hb hm, v, Option.bind_some, if_pos (by decide), if_neg (E_in h3 hb), E_cl h3 hb, (h2.2.1 b hb4).2.2.1, R_may h2 h3 hb ho hm, Option.bind_some]
        cases lgl (aL a b) (aO a b) m
        · rw [if_neg (by decide), if_neg (by decide), xRf_ok.2.2.2.1, mRf_ok.2.2.2.1]
          exact ⟨_, rfl, _, rfl, rfl, hI.rf 3⟩
        · obtain ⟨nw', d1, d2⟩ := C_make (N := NN) h1 h3 hb hm20.2
          obtain ⟨rm', r1, r2, r3⟩ := R_make (N := NN) h2 h3 hb hm20.1
          rw [if_pos (by decide), if_pos (by decide), d1, Option.bind_some, E_on d2 ok' hb, r1, Option.bind_some, Option.bind_some, if_neg (E_in h3 hb), (r2.2.1 b hb4).2.2.1]
          exact ⟨_, rfl, _, rfl, rfl, aMv a b m, d2, r2, ok', h4.ne r3 (Nat.le_refl _), h5.ne r3, h6.ne r3, h7, h8.ne r3⟩
    · obtain ⟨b, hb, rfl⟩ := hb
      exact bad (E_moveN h1 h3 (Or.inr (by omega))) (Or.inr ⟨R_bar h2 h3 hb, R_moveN h2 h3 hb (by omega)⟩)
  · exact bad (E_moveN h1 h3 (Or.inl hb)) (Or.inl (R_nobar h2 h3 hb))
/-! gray -/
def gx : Nat → Nat → Nat
  | 0, _ => 0
  | n + 1, v => gx n v ^^^ (v >>> n)
theorem gx_shift (n k v : Nat) : gx n v >>> k = gx n (v >>> k) := by
  induction n with
  | zero => exact Nat.zero_shiftRight k
  | succ n ih => rw [gx, gx, Nat.shiftRight_xor_distrib, ih, ← Nat.shiftRight_add, ← Nat.shiftRight_add, Nat.add_comm]
theorem gx_add (m v : Nat) : ∀ n, gx (m + n) v = gx m v ^^^ gx n (v >>> m)
  | 0 => (Nat.xor_zero _).symm
  | n + 1 => by
    show gx (m + n) v ^^^ (v >>> (m + n)) = gx m v ^^^ (gx n (v >>> m) ^^^ ((v >>> m) >>> n))
    rw [gx_add m v n, Nat.xor_assoc, Nat.shiftRight_add]
theorem gx_dbl (n v : Nat) : gx n v ^^^ (gx n v >>> n) = gx (n + n) v := by rw [gx_add, gx_shift]
theorem gx_z (n : Nat) : gx n 0 = 0 := by
  induction n with
  | zero => rfl
  | succ n ih => rw [gx, ih, Nat.zero_shiftRight]; rfl
theorem gx_end {k v : Nat} (h : v >>> k = 0) {n : Nat} (hn : k ≤ n) : gx n v = gx k v := by
  rw [show n = k + (n - k) by omega, gx_add, h, gx_z, Nat.xor_zero]
theorem gx_lt {n v k : Nat} (h : v < 2 ^ k) : gx n v < 2 ^ k := by
  induction n with
  | zero => exact Nat.two_pow_pos k
  | succ n ih => exact Nat.xor_lt_two_pow ih (Nat.lt_of_le_of_lt (Nat.shiftRight_le v n) h)
theorem lN_ush {n k : Nat} (hn : n < 2 ^ 62) (hk : k < 64) : jlushr (lN n) (nI k) = lN (n >>> k) := by
  unfold jlushr
  have h : ∀ k, k < 64 → ((nI k).toInt64.toUInt64 &&& Int64.toUInt64 63).toNat % 64 = k := by decide +kernel
  rw [pf_ushr (h k hk) hn, Nat.shiftRight_eq_div_pow]
theorem lN_shr1 {n : Nat} (hn : n < 2 ^ 62) : jlshr (lN n) 1 = lN (n >>> 1) := by
  unfold jlshr
  rw [pf_shr (d := 1) (by decide +kernel) hn, Nat.shiftRight_eq_div_pow]
theorem lN_shr60 {n : Nat} (hn : n < 2 ^ 62) : jlshr (lN n) 60 = lN (n >>> 60) := by
  unfold jlshr
  rw [pf_shr (d := 60) (by decide +kernel) hn, Nat.shiftRight_eq_div_pow]
theorem C_gray {v : Nat} (h : v < 2 ^ 60) : M_X5_grayPlace NN (lN v) = some (lN (gx 64 v)) := by
  unfold M_X5_grayPlace
  have st : ∀ k, k < 64 → ∀ rec : (Int64 × Int32) → Option Int64, M_X5_grayPlace_l5 NN (lN v) rec (lN (gx k v), nI k) = rec (lN (gx (k + k) v), nI (k * 2)) := by
    intro k hk rec
    have hg : gx k v < 2 ^ 60 := gx_lt h
    unfold M_X5_grayPlace_l5
    simp only []
    rw [if_neg (by rw [q_ge_64 (by omega)]; omega), lN_ush (by omega) hk, fb_xorL, gx_dbl, show (2 : Int32) = nI 2 from rfl, pk_mul]
  have e0 : ((lN v, 1) : Int64 × Int32) = (lN (gx 1 v), nI 1) := by
    show ((lN v, 1) : Int64 × Int32) = (lN (0 ^^^ (v >>> 0)), nI 1)
    rw [Nat.zero_xor, Nat.shiftRight_zero]
    rfl
  have := lp_for (body := M_X5_grayPlace_l5 NN (lN v)) (r := some (lN (gx 64 v))) (N := NN) (fun i => (lN (gx (2 ^ i) v), nI (2 ^ i))) 6 (fun i hi rec => by
    have hp : 2 ^ i < 64 := by
      have : 2 ^ i < 2 ^ 6 := Nat.pow_lt_pow_right (by omega) hi
      omega
    show M_X5_grayPlace_l5 NN (lN v) rec (lN (gx (2 ^ i) v), nI (2 ^ i)) = rec (lN (gx (2 ^ (i + 1)) v), nI (2 ^ (i + 1)))
    rw [st _ hp, show 2 ^ (i + 1) = 2 ^ i * 2 from Nat.pow_succ .., ← Nat.two_mul, Nat.mul_comm 2 (2 ^ i)]) (fun rec => rfl) (by decide)
  rw [e0]
  exact this
theorem lN_z {n : Nat} (h : n < 2 ^ 63) : lg_cmp (lN n) 0 = 0 ↔ n = 0 := by
  rw [lg_cmp_eq, show (0 : Int64) = lN 0 from rfl, fb_lN_inj h (by omega)]
theorem R_gray {v : Nat} (h : v < 2 ^ 60) : M_X6_placeOf NN (lN v) = some (lN (gx 64 v)) := by
  unfold M_X6_placeOf
  obtain ⟨r, rfl, h3⟩ := lp_inv (body := M_X6_placeOf_l5 NN (lN v)) (N := NN) (P := fun i Z => Z = (lN (gx i v), lN (v >>> i)) ∧ i ≤ 60) (Qr := fun r => r = lN (gx 64 v)) 60
    (fun i Z hi hP => by
      obtain ⟨rfl, -⟩ := hP
      have hv : v >>> i < 2 ^ 60 := Nat.lt_of_le_of_lt (Nat.shiftRight_le v i) h
      by_cases e : v >>> i = 0
      · refine Or.inr ⟨_, rfl, fun rec => ?_⟩
        unfold M_X6_placeOf_l5
        simp only []
        rw [if_pos ((lN_z (by omega)).mpr e), gx_end e (n := 64) (by omega)]
      · refine Or.inl ⟨_, ⟨rfl, by omega⟩, fun rec => ?_⟩
        unfold M_X6_placeOf_l5
        simp only []
        rw [if_neg (fun z => e ((lN_z (by omega)).mp z)), fb_xorL, lN_shr1 (by omega), ← Nat.shiftRight_add]
        rfl)
    (fun Z hP => by
      obtain ⟨rfl, -⟩ := hP
      have e : v >>> 60 = 0 := by rw [Nat.shiftRight_eq_div_pow]; exact Nat.div_eq_of_lt h
      refine ⟨_, rfl, fun rec => ?_⟩
      unfold M_X6_placeOf_l5
      simp only []
      rw [e, if_pos (by decide), gx_end e (n := 64) (by omega)])
    (by decide) (z := (0, lN v)) ⟨rfl, by omega⟩
  exact h3
theorem of_intL {p : Int64} {n : Nat} (h : 0 ≤ p.toInt) (h2 : p.toInt < n) (hn : n ≤ 2 ^ 63) : ∃ v, v < n ∧ p = lN v := by
  refine ⟨p.toInt.toNat, by omega, ?_⟩
  apply Int64.toInt_inj.mp
  rw [pk_lT (by omega)]
  omega
theorem ge60 {p : Int64} (h : 0 ≤ p.toInt) : lg_cmp (jlshr p 60) 0 = 0 ↔ p.toInt < 1152921504606846976 := by
  have hp := p.toInt_lt
  rw [lg_cmp_eq]
  unfold jlshr
  have e : (p >>> ((60 : Int32).toInt64 &&& 63)).toInt = p.toInt >>> 60 := by
    have : (((60 : Int32).toInt64 &&& 63).toBitVec.smod 64).toNat = 60 := by decide +kernel
    rw [← this]
    exact BitVec.toInt_sshiftRight ..
  rw [← Int64.toInt_inj, e, show (0 : Int64).toInt = 0 from rfl, Int.shiftRight_eq_div_pow]
  omega
theorem pS_place : S_place INV := by
  intro ro nw kp dr sh tp lw se rm K T hI p1
  have ej : M_X5_place_j14 NN p1 ro = some ((-2 : Int32).toInt64, xRf ro 0) := by
    unfold M_X5_place_j14
    rw [xRf_ok.1]
    rfl
  have ej2 : M_X6_place_j22 NN p1 rm = some ((-2 : Int32).toInt64, mRf rm 0) := by
    unfold M_X6_place_j22
    rw [mRf_ok.1]
    rfl
  unfold M_X5_place M_X6_place
  rw [ej, ej2]
  by_cases h0 : p1.toInt < 0
  · rw [if_pos (by rw [cmp_lt]; exact h0), if_pos (by rw [cmp_lt]; exact h0)]
    exact ⟨_, rfl, _, rfl, rfl, hI.rf 0⟩
  · rw [if_neg (by rw [cmp_lt]; exact h0), if_neg (by rw [cmp_lt]; exact h0)]
    by_cases h1 : p1.toInt < 1152921504606846976
    · rw [if_pos (by rw [cmp_lt]; exact h1), if_neg (not_not_intro ((ge60 (by omega)).mpr h1))]
      obtain ⟨v, hv, rfl⟩ := of_intL (n := 2 ^ 60) (by omega) (by omega) (by omega)
      rw [C_gray hv, R_gray hv]
      exact ⟨_, rfl, _, rfl, rfl, hI⟩
    · rw [if_neg (by rw [cmp_lt]; exact h1), if_pos (fun z => h1 ((ge60 (by omega)).mp z))]
      exact ⟨_, rfl, _, rfl, rfl, hI.rf 0⟩
theorem pS_setOf : S_setOf INV := by
  intro ro nw kp dr sh tp lw se rm K T hI p1
  have ej : M_X5_setOf_j14 NN p1 ro = some ((-2 : Int32).toInt64, xRf ro 0) := by
    unfold M_X5_setOf_j14
    rw [xRf_ok.1]
    rfl
  have ej2 : M_X6_setOf_j23 NN p1 rm = some ((-2 : Int32).toInt64, mRf rm 0) := by
    unfold M_X6_setOf_j23
    rw [mRf_ok.1]
    rfl
  unfold M_X5_setOf M_X6_setOf
  rw [ej, ej2]
  by_cases h0 : p1.toInt < 0
  · rw [if_pos (by rw [cmp_lt]; exact h0), if_pos (by rw [cmp_lt]; exact h0)]
    exact ⟨_, rfl, _, rfl, rfl, hI.rf 0⟩
  · rw [if_neg (by rw [cmp_lt]; exact h0), if_neg (by rw [cmp_lt]; exact h0)]
    by_cases h1 : p1.toInt < 1152921504606846976
    · rw [if_pos (by rw [cmp_lt]; exact h1), if_neg (not_not_intro ((ge60 (by omega)).mpr h1))]
      exact ⟨_, rfl, _, rfl, rfl, hI⟩
    · rw [if_neg (by rw [cmp_lt]; exact h1), if_pos (fun z => h1 ((ge60 (by omega)).mp z))]
      exact ⟨_, rfl, _, rfl, rfl, hI.rf 0⟩
theorem pS_luck : S_luck INV := by
  intro ro nw kp dr sh tp lw se rm K T hI p1
  obtain ⟨a, h1, h2, h3, h4, h5, h6, h7, h8⟩ := id hI
  have hn := h3.1
  have ej : M_X5_luck_j41 NN nw p1 ro = some (-5, xRf ro 3) := by
    unfold M_X5_luck_j41
    rw [xRf_ok.2.2.2.1]
    rfl
  have ej2 : M_X6_luck_j34 NN p1 rm = some (-5, mRf rm 3) := by
    unfold M_X6_luck_j34
    rw [mRf_ok.2.2.2.1]
    rfl
  unfold M_X5_luck M_X6_luck
  rw [ej, ej2]
  by_cases hb : vB a p1
  · obtain ⟨b, hb, rfl⟩ := hb
    obtain ⟨g1, g2, g3, g4, -⟩ := h2.2.1 b (by omega)
    obtain ⟨o1, o2, o3, o4, o5, -⟩ := h3.2 b hb
    have hp := p10 o3
    rw [E_bar h1 h3 hb, Option.bind_some, if_pos (by decide), E_kind h1 h3 hb, Option.bind_some, R_bar h2 h3 hb, Option.bind_some, if_pos (by decide), if_neg (E_in h3 hb), E_cl h3 hb, g1]
    by_cases e : nI (aK a b) = (1 : Int32)
    · rw [if_neg (not_not_intro e), if_neg (not_not_intro e), E_stuck h1 h3 hb, Option.bind_some, if_neg (E_in h3 hb), g4]
      by_cases e2 : nI (aT a b) = (0 : Int32)
      · rw [if_pos e2, if_pos e2, E_on h1 h3 hb, Option.bind_some, E_size h1 h3 hb, if_neg (E_in h3 hb), g3, nI_l (by omega), C_gray (by omega), R_gray (by omega), R_all h2 h3 hb, sh_1 (by omega)]
        exact ⟨_, rfl, _, rfl, rfl, hI⟩
      · rw [if_neg e2, if_neg e2]
        exact ⟨_, rfl, _, rfl, rfl, hI.rf 3⟩
    · rw [if_pos e, if_pos e]
      exact ⟨_, rfl, _, rfl, rfl, hI.rf 3⟩
  · rw [E_nobar h1 h3 hb, R_nobar h2 h3 hb, Option.bind_some, Option.bind_some, if_neg (by decide), if_neg (by decide), xRf_ok.1, mRf_ok.1]
    exact ⟨_, rfl, _, rfl, rfl, hI.rf 0⟩
def pc (s : Nat) : Nat := fb_ct (fun i => s.testBit i) 10
set_option maxRecDepth 10000 in
theorem B_cnt : ∀ s, s < 1024 → ∀ N, M_J6_bitCount_0f7a4 N (nI s) = some (nI (pc s)) := by
  have h : ∀ s, s < 1024 → M_J6_bitCount_0f7a4 0 (nI s) = some (nI (pc s)) := by decide +kernel
  exact fun s hs N => h s hs
set_option maxRecDepth 10000 in
theorem B_bits : ∀ s, s < 1024 → M_X6_bits NN (nI s) = some (nI (pc s)) := by decide +kernel
set_option maxRecDepth 10000 in
theorem B_cntL : ∀ s, s < 1024 → ∀ c, c < 2 → M_J6_bitCount_0f7a4 0 (nI (s + 1048576 * c)) = some (nI (pc s + c)) := by decide +kernel
def su (f : Nat → Int32) : Nat → Int32
  | 0 => 0
  | n + 1 => su f n + f n
theorem pS_status : S_status INV := by
  intro ro nw kp dr sh tp lw se rm K T hI p1
  obtain ⟨a, h1, h2, h3, h4, ⟨z, t1, t2, t3, t4⟩, h6, h7, h8⟩ := id hI
  have hn := h3.1
  have lo : ∀ b, b < aN a → aO a b < 1024 ∧ aT a b < 1024 := fun b hb => by
    obtain ⟨o1, o2, o3, o4, o5, -⟩ := h3.2 b hb
    have := p10 o3
    omega
  have c1 : M_X0_ringsOn NN nw = some (nI (fb_sm (fun b => pc (aO a b)) (aN a))) := by
    unfold M_X0_ringsOn
    refine lp_for (fun i => (nI (fb_sm (fun b => pc (aO a b)) i), nI i)) (aN a) (fun i hi rec => ?_) (fun rec => ?_) (by show aN a < 5000; omega)
    · show M_X0_ringsOn_l4 NN nw rec (nI (fb_sm (fun b => pc (aO a b)) i), nI i) = _
      unfold M_X0_ringsOn_l4
      simp only []
      rw [h1.1, if_neg (by rw [nI_leI (by omega) (by omega)]; omega), E_on h1 h3 hi, Option.bind_some, B_cnt _ (lo i hi).1, Option.bind_some, nI_add, nI_1, fb_sm_succ]
    · show M_X0_ringsOn_l4 NN nw rec (nI (fb_sm (fun b => pc (aO a b)) (aN a)), nI (aN a)) = _
      unfold M_X0_ringsOn_l4
      simp only []
      rw [h1.1, if_pos (by rw [nI_leI (by omega) (by omega)]; exact Nat.le_refl _)]
  have r1 : lp (M_X6_status_l55 NN rm p1) NN (0, 0) = some (nI (fb_sm (fun b => pc (aO a b)) (aN a))) := by
    refine lp_for (fun i => (nI (fb_sm (fun b => pc (aO a b)) i), nI i)) (aN a) (fun i hi rec => ?_) (fun rec => ?_) (by show aN a < 5000; omega)
    · show M_X6_status_l55 NN rm p1 rec (nI (fb_sm (fun b => pc (aO a b)) i), nI i) = _
      unfold M_X6_status_l55
      simp only []
      rw [h2.1, if_neg (by rw [nI_leI (by omega) (by omega)]; omega), if_neg (E_in h3 hi), E_cl h3 hi, (h2.2.1 i (by omega)).2.2.1, B_bits _ (lo i hi).1, Option.bind_some, nI_add, nI_1, fb_sm_succ]
    · show M_X6_status_l55 NN rm p1 rec (nI (fb_sm (fun b => pc (aO a b)) (aN a)), nI (aN a)) = _
      unfold M_X6_status_l55
      simp only []
      rw [h2.1, if_pos (by rw [nI_leI (by omega) (by omega)]; exact Nat.le_refl _)]
  have c2 : M_X0_ringsStuck NN nw = some (nI (fb_sm (fun b => pc (aT a b)) (aN a))) := by
    unfold M_X0_ringsStuck
    refine lp_for (fun i => (nI (fb_sm (fun b => pc (aT a b)) i), nI i)) (aN a) (fun i hi rec => ?_) (fun rec => ?_) (by show aN a < 5000; omega)
    · show M_X0_ringsStuck_l4 NN nw rec (nI (fb_sm (fun b => pc (aT a b)) i), nI i) = _
      unfold M_X0_ringsStuck_l4
      simp only []
      rw [h1.1, if_neg (by rw [nI_leI (by omega) (by omega)]; omega), E_stuck h1 h3 hi, Option.bind_some, B_cnt _ (lo i hi).2, Option.bind_some, nI_add, nI_1, fb_sm_succ]
    · show M_X0_ringsStuck_l4 NN nw rec (nI (fb_sm (fun b => pc (aT a b)) (aN a)), nI (aN a)) = _
      unfold M_X0_ringsStuck_l4
      simp only []
      rw [h1.1, if_pos (by rw [nI_leI (by omega) (by omega)]; exact Nat.le_refl _)]
  have r2 : lp (M_X6_status_l85 NN rm p1) NN (0, 0) = some (nI (fb_sm (fun b => pc (aT a b)) (aN a))) := by
    refine lp_for (fun i => (nI (fb_sm (fun b => pc (aT a b)) i), nI i)) (aN a) (fun i hi rec => ?_) (fun rec => ?_) (by show aN a < 5000; omega)
    · show M_X6_status_l85 NN rm p1 rec (nI (fb_sm (fun b => pc (aT a b)) i), nI i) = _
      unfold M_X6_status_l85
      simp only []
      rw [h2.1, if_neg (by rw [nI_leI (by omega) (by omega)]; omega), if_neg (E_in h3 hi), E_cl h3 hi, (h2.2.1 i (by omega)).2.2.2.1, B_bits _ (lo i hi).2, Option.bind_some, nI_add, nI_1, fb_sm_succ]
    · show M_X6_status_l85 NN rm p1 rec (nI (fb_sm (fun b => pc (aT a b)) (aN a)), nI (aN a)) = _
      unfold M_X6_status_l85
      simp only []
      rw [h2.1, if_pos (by rw [nI_leI (by omega) (by omega)]; exact Nat.le_refl _)]
  have c3 : M_X0_allMinutes NN nw = some (su (aU a) 10) := by
    unfold M_X0_allMinutes
    refine lp_for (fun i => (su (aU a) i, nI i)) 10 (fun i hi rec => ?_) (fun rec => rfl) (by decide)
    show M_X0_allMinutes_l4 NN nw rec (su (aU a) i, nI i) = _
    unfold M_X0_allMinutes_l4
    simp only []
    rw [if_neg (by rw [q_ge_10 (by omega)]; omega), if_neg (nI_in (by omega) (by omega)), nI_clamp (by omega), h1.2.2.1 i hi, nI_1]
    rfl
  have r3 : lp (M_X6_status_l120 NN rm p1) NN (0, 0) = some (su (aU a) 10) := by
    refine lp_for (fun i => (su (aU a) i, nI i)) 10 (fun i hi rec => ?_) (fun rec => rfl) (by decide)
    show M_X6_status_l120 NN rm p1 rec (su (aU a) i, nI i) = _
    unfold M_X6_status_l120
    simp only []
    rw [if_neg (by rw [q_ge_10 (by omega)]; omega), if_neg (nI_in (by omega) (by omega)), nI_clamp (by omega), h2.2.2.1 i hi, nI_1]
    rfl
  have fr : ∀ i, i < 8 → M_X3_isFree NN sh (nI i) = some (oB (decide (RM_shelf rm i = 0))) := fun i hi => by
    rcases sh_cases h4 hi with g | ⟨k, z, g⟩ | ⟨b, g⟩
    · rw [S_freeF hi g, g.1]; rfl
    · rw [S_freeR hi g, g.1]; rfl
    · rw [S_freeB hi g hn, g.1]; rfl
  have c4 : M_X3_countHeld NN sh = some (nI (fb_ct (fun i => !decide (RM_shelf rm i = 0)) 8)) := by
    unfold M_X3_countHeld
    refine lp_for (fun i => (nI (fb_ct (fun i => !decide (RM_shelf rm i = 0)) i), nI i)) 8 (fun i hi rec => ?_) (fun rec => rfl) (by decide)
    show M_X3_countHeld_l4 NN sh rec (nI (fb_ct (fun i => !decide (RM_shelf rm i = 0)) i), nI i) = _
    unfold M_X3_countHeld_l4 M_X3_countHeld_j21
    simp only []
    rw [if_neg (by rw [q_ge_8 (by omega)]; omega), fr i hi, Option.bind_some, fb_ct_succ, nI_1, nI_1]
    cases decide (RM_shelf rm i = 0)
    · rfl
    · rfl
  have r4 : lp (M_X6_status_l155 NN rm p1) NN (0, 0) = some (nI (fb_ct (fun i => !decide (RM_shelf rm i = 0)) 8)) := by
    refine lp_for (fun i => (nI (fb_ct (fun i => !decide (RM_shelf rm i = 0)) i), nI i)) 8 (fun i hi rec => ?_) (fun rec => rfl) (by decide)
    show M_X6_status_l155 NN rm p1 rec (nI (fb_ct (fun i => !decide (RM_shelf rm i = 0)) i), nI i) = _
    unfold M_X6_status_l155 M_X6_status_j176
    simp only []
    rw [if_neg (by rw [q_ge_8 (by omega)]; omega), if_neg (S_in hi), S_cl hi, fb_ct_succ, nI_1]
    by_cases e : RM_shelf rm i = 0
    · rw [if_pos e, decide_eq_true e]
      show rec (nI _ + nI 0, _) = _
      rw [nI_add]
      rfl
    · rw [if_neg e, decide_eq_false e]
      show rec (nI _ + nI 1, _) = _
      rw [nI_add]
      rfl
  unfold M_X5_status M_X6_status
  rw [c1, r1, c2, r2, c3, r3, c4, r4, h1.1, h2.1, h1.2.2.2.1, h2.2.2.2.1, t2, t3, h1.2.2.2.2, h2.2.2.2.2]
  by_cases g0 : p1 = 0
  · rw [if_pos g0, if_pos g0]; exact ⟨_, rfl, _, rfl, rfl, hI⟩
  · by_cases g1 : p1 = 1
    · rw [if_neg g0, if_neg g0, if_pos g1, if_pos g1]; exact ⟨_, rfl, _, rfl, rfl, hI⟩
    · by_cases g2 : p1 = 2
      · rw [if_neg g0, if_neg g0, if_neg g1, if_neg g1, if_pos g2, if_pos g2]; exact ⟨_, rfl, _, rfl, rfl, hI⟩
      · by_cases g3 : p1 = 3
        · rw [if_neg g0, if_neg g0, if_neg g1, if_neg g1, if_neg g2, if_neg g2, if_pos g3, if_pos g3]; exact ⟨_, rfl, _, rfl, rfl, hI⟩
        · by_cases g4 : p1 = 4
          · rw [if_neg g0, if_neg g0, if_neg g1, if_neg g1, if_neg g2, if_neg g2, if_neg g3, if_neg g3, if_pos g4, if_pos g4]; exact ⟨_, rfl, _, rfl, rfl, hI⟩
          · by_cases g5 : p1 = 5
            · rw [if_neg g0, if_neg g0, if_neg g1, if_neg g1, if_neg g2, if_neg g2, if_neg g3, if_neg g3, if_neg g4, if_neg g4, if_pos g5, if_pos g5]; exact ⟨_, rfl, _, rfl, rfl, hI⟩
            · by_cases g6 : p1 = 6
              · rw [if_neg g0, if_neg g0, if_neg g1, if_neg g1, if_neg g2, if_neg g2, if_neg g3, if_neg g3, if_neg g4, if_neg g4, if_neg g5, if_neg g5, if_pos g6, if_pos g6]; exact ⟨_, rfl, _, rfl, rfl, hI⟩
              · by_cases g7 : p1 = 7
                · rw [if_neg g0, if_neg g0, if_neg g1, if_neg g1, if_neg g2, if_neg g2, if_neg g3, if_neg g3, if_neg g4, if_neg g4, if_neg g5, if_neg g5, if_neg g6, if_neg g6, if_pos g7, if_pos g7]; exact ⟨_, rfl, _, rfl, rfl, hI⟩
                · rw [if_neg g0, if_neg g0, if_neg g1, if_neg g1, if_neg g2, if_neg g2, if_neg g3, if_neg g3, if_neg g4, if_neg g4, if_neg g5, if_neg g5, if_neg g6, if_neg g6, if_neg g7, if_neg g7]
                  by_cases g : 12 ≤ p1.toInt ∧ p1.toInt ≤ 16
                  · obtain ⟨n, hn2, rfl⟩ := of_int (p := p1) (by omega)
                    rw [nI_toInt hn2] at g
                    obtain ⟨k, rfl⟩ : ∃ k, n = k + 12 := ⟨n - 12, by omega⟩
                    rw [R_k1 (by rw [nI_toInt hn2]; exact g.1) (by rw [nI_toInt hn2]; exact g.2), Option.bind_some, if_neg (by decide), if_neg (by rw [q_lt_12 hn2]; omega), show (12 : Int32) = nI 12 from rfl, pk_sub (by omega), show (10 : Int32) = nI 10 from rfl, pk_sub (by omega), Nat.add_sub_cancel, show k + 12 - 10 = k + 2 by omega, if_neg (by rw [nI_leI (by omega) (by omega)]; omega), if_neg (nI_in (by omega) (by omega)), if_neg (nI_in (by omega) (by omega)), nI_clamp (by omega), nI_clamp (by omega), h6 k (by omega)]
                    exact ⟨_, rfl, _, rfl, rfl, hI⟩
                  · rw [R_k0 (l := 12) (z := 16) g]
                    by_cases l : p1 < 12
                    · rw [if_pos l]; exact ⟨_, rfl, _, rfl, rfl, hI⟩
                    · rw [if_neg l, if_pos]
                      · exact ⟨_, rfl, _, rfl, rfl, hI⟩
                      · rw [lt_toInt, t_12] at l
                        rw [le_toInt, subI (by omega) (by rw [t_12]; omega), t_12, nI_toInt (by omega)]
                        omega
