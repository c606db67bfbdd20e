/-! bell, goes -/
def rb (q : PL) (B : BB) (u r k : Nat) : Nat := if (mk (nm q B (wk q B u k))).testBit r then 1 else 0
def tb (q : PL) (B : BB) (u r k : Nat) : Nat := fb_sm (rb q B u r) k
theorem rb_le (q : PL) (B : BB) (u r k : Nat) : rb q B u r k ≤ 1 := by
  unfold rb
  split <;> omega
theorem pS_bell : S_bell INV := by
  intro ro nw kp dr sh tp lw se rm K T hI p1 p2 p3
  obtain ⟨a, h1, h2, h3, h4, h5, h6, h7, h8⟩ := id hI
  have hn := h3.1
  have ej : M_X5_bell_j17 NN nw p1 p2 p3 (ro, lw, se) = some (-2, xRf ro 0, lw, se) := by
    unfold M_X5_bell_j17
    rw [xRf_ok.1]
    rfl
  have ej2 : M_X6_bell_j22 NN p1 p2 p3 rm = some (-2, mRf rm 0) := by
    unfold M_X6_bell_j22
    rw [mRf_ok.1]
    rfl
  unfold M_X5_bell M_X6_bell
  rw [ej, ej2]
  by_cases hb : vB a p1
  · obtain ⟨b, hb, rfl⟩ := hb
    rw [R_bar h2 h3 hb, Option.bind_some, if_neg n10]
    have hz := (h3.2 b hb).2.2.1
    by_cases hr : vI (aZ a b) p2
    · obtain ⟨r, hr, rfl⟩ := hr
      rw [E_ring h1 h3 hb hr, Option.bind_some, if_neg n10, R_ring h2 h3 hb hr, Option.bind_some, if_neg n10]
      by_cases l1 : (1 : Int32) ≤ p3
      · rw [if_pos l1, if_pos l1]
        have hp : 2 ^ aZ a b ≤ 1024 := p10 hz
        have hp0 : 0 < 2 ^ aZ a b := Nat.two_pow_pos _
        have ho := (h3.2 b hb).2.2.2.1
        obtain ⟨lw', se', c1, c2, c3⟩ := C_lead (ro := ro) h1 h3 hb lw se ho hp0
        obtain ⟨rm', r1, r2, r3⟩ := R_back h2 h3 hb hp0
        obtain ⟨cc, bj⟩ := sp_BJr h3 hb hp0
        generalize hB : sp1 (rev (lgl (aL a b))) 0 = B at *
        have hf := BJ_bound bj (aO a b)
        have c1' : M_X5_leadTo NN ro nw lw se (nI b) (nI (aO a b)) 0 = some (fI (B.1 (aO a b)), lw', se') := c1
        have r3' : M_X6_findFar NN rm (nI b) 0 0 = some rm' := r3
        rw [E_on h1 h3 hb, Option.bind_some, c1', Option.bind_some, r3', Option.bind_some, if_neg (E_in h3 hb), if_neg (E_in h3 hb), E_cl h3 hb, ((h2.sg r1).2.1 b (by omega)).2.2.1, if_neg (nI_in (by omega) (by omega)), nI_clamp (by omega), r2.1 _ ho]
        simp only []
        by_cases e0 : B.1 (aO a b) = 0
        · rw [if_neg (by rw [e0]; exact not_not_intro rfl), e0]
          refine ⟨(-1, ro, lw', se'), ?_, _, rfl, rfl, hI.sg r1⟩
          rfl
        · rw [if_pos (by rw [fI_m (by omega)]; exact e0)]
          have eF : fI (B.1 (aO a b)) = nI (B.1 (aO a b) - 1) := by
            unfold fI
            rw [if_neg e0]
          rw [eF]
          have tbl : ∀ k, k ≤ 1025 → tb (aL a b) B (aO a b) r k ≤ 1025 := fun k hk => by
            have := fb_sm_le' (f := rb (aL a b) B (aO a b) r) (c := 1) (fun k => rb_le _ _ _ _ k) k
            unfold tb
            omega
          have cst : ∀ k, k < B.1 (aO a b) - 1 → ∀ rec, M_X5_bell_l53 NN nw (nI b) (nI r) p3 rec (ro, lw', se', nI (wk (aL a b) B (aO a b) k), nI (B.1 (aO a b) - 1), nI (tb (aL a b) B (aO a b) r k), tt a (aL a b) B (aO a b) k, nI k) = if nI (tb (aL a b) B (aO a b) r (k + 1)) = p3 then some (tt a (aL a b) B (aO a b) (k + 1), ro, lw', se') else rec (ro, lw', se', nI (wk (aL a b) B (aO a b) (k + 1)), nI (B.1 (aO a b) - 1), nI (tb (aL a b) B (aO a b) r (k + 1)), tt a (aL a b) B (aO a b) (k + 1), nI (k + 1)) := by
            intro k hk rec
            have g := wk_ok (q := aL a b) hz bj ho k (by omega)
            have g2 : 2 ≤ B.1 (wk (aL a b) B (aO a b) k) := by omega
            have hmn := nm_20 (q := aL a b) hz bj g2
            have eb : (nI (mk (nm (aL a b) B (wk (aL a b) B (aO a b) k))) >>> (nI r &&& 31)) &&& 1 = nI (rb (aL a b) B (aO a b) r k) := by
              rw [bit_v _ (by omega), bt_nI, decide_eq_true (by omega), Bool.true_and]
              rfl
            have et : tb (aL a b) B (aO a b) r (k + 1) = tb (aL a b) B (aO a b) r k + rb (aL a b) B (aO a b) r k := rfl
            unfold M_X5_bell_l53
            simp only []
            rw [if_neg (by rw [nI_leI (by omega) (by omega)]; omega), C_next c2 hz c3 bj hp g.2 g2, Option.bind_some, C_rings hmn, Option.bind_some, Option.bind_some, C_mi h1 hmn, Option.bind_some, eb, fb_xorI, nI_add, nI_1, ← et]
            by_cases l : nI (tb (aL a b) B (aO a b) r (k + 1)) = p3
            · rw [if_neg (not_not_intro l), if_pos l]
              rfl
            · rw [if_pos l, if_neg l]
              rfl
          have rst : ∀ k, k < B.1 (aO a b) - 1 → ∀ rec, M_X6_bell_l67 NN (nI b) (nI r) p3 rec (rm', tt a (aL a b) B (aO a b) k, nI (tb (aL a b) B (aO a b) r k), nI (wk (aL a b) B (aO a b) k)) = if nI (tb (aL a b) B (aO a b) r (k + 1)) = p3 then some (tt a (aL a b) B (aO a b) (k + 1), rm') else rec (rm', tt a (aL a b) B (aO a b) (k + 1), nI (tb (aL a b) B (aO a b) r (k + 1)), nI (wk (aL a b) B (aO a b) (k + 1))) := by
            intro k hk rec
            have g := wk_ok (q := aL a b) hz bj ho k (by omega)
            have g2 : 2 ≤ B.1 (wk (aL a b) B (aO a b) k) := by omega
            have gz : wk (aL a b) B (aO a b) k < 2 ^ aZ a b := g.2
            have hmn := nm_20 (q := aL a b) hz bj g2
            have ne : ¬ nI (wk (aL a b) B (aO a b) k) = 0 := fun z => by
              have z := (q_eq_0 (by omega)).mp z
              have := (bj.2.2.2.2.2.1 _).mpr z
              omega
            have eh : M_X6_has NN (nI (mk (nm (aL a b) B (wk (aL a b) B (aO a b) k)))) (nI r) = some (oB ((mk (nm (aL a b) B (wk (aL a b) B (aO a b) k))).testBit r)) := by
              unfold M_X6_has
              have e := bit_0 (nI (mk (nm (aL a b) B (wk (aL a b) B (aO a b) k)))) (show r < 32 by omega)
              rw [bt_nI, decide_eq_true (show r < 32 by omega), Bool.true_and] at e
              cases g : (mk (nm (aL a b) B (wk (aL a b) B (aO a b) k))).testBit r
              · rw [if_pos (e.mpr g)]; rfl
              · rw [if_neg (fun z => by rw [e, g] at z; cases z)]; rfl
            have et : tb (aL a b) B (aO a b) r (k + 1) = tb (aL a b) B (aO a b) r k + rb (aL a b) B (aO a b) r k := rfl
            have eb : rb (aL a b) B (aO a b) r k = if (mk (nm (aL a b) B (wk (aL a b) B (aO a b) k))).testBit r = true then 1 else 0 := rfl
            unfold M_X6_bell_l67 M_X6_bell_j111
            simp only []
            rw [if_neg ne, R_next (h2.sg r1) h3 hb r2 bj hp gz g2, Option.bind_some, R_mi (h2.sg r1) hmn, Option.bind_some, M_mask (by omega), Option.bind_some, eh, Option.bind_some, Option.bind_some, fb_xorI, et, eb]
            cases (mk (nm (aL a b) B (wk (aL a b) B (aO a b) k))).testBit r
            · rw [if_pos (show oB false = 0 by decide), if_neg (show ¬ false = true by decide), Int32.add_zero]
              by_cases l : nI (tb (aL a b) B (aO a b) r k) = p3
              · rw [if_neg (not_not_intro l)]
                exact (if_pos l).symm
              · rw [if_pos l]
                exact (if_neg l).symm
            · rw [if_neg (show ¬ oB true = 0 by decide), if_pos rfl, nI_1]
              by_cases l : nI (tb (aL a b) B (aO a b) r k + 1) = p3
              · rw [if_neg (not_not_intro l)]
                exact (if_pos l).symm
              · rw [if_pos l, Option.bind_some, fb_xorI]
                exact (if_neg l).symm
          have res : ∃ v, lp (M_X5_bell_l53 NN nw (nI b) (nI r) p3) NN (ro, lw', se', nI (aO a b), nI (B.1 (aO a b) - 1), 0, 0, 0) = some (v, ro, lw', se') ∧ lp (M_X6_bell_l67 NN (nI b) (nI r) p3) NN (rm', 0, 0, nI (aO a b)) = some (v, rm') := by
            by_cases ex : ∃ k, k < B.1 (aO a b) - 1 ∧ nI (tb (aL a b) B (aO a b) r (k + 1)) = p3
            · obtain ⟨k, hk, e, he⟩ := fb_first (p := fun k => nI (tb (aL a b) B (aO a b) r (k + 1)) = p3) ex
              refine ⟨tt a (aL a b) B (aO a b) (k + 1), ?_, ?_⟩
              · exact lp_for (fun k => (ro, lw', se', nI (wk (aL a b) B (aO a b) k), nI (B.1 (aO a b) - 1), nI (tb (aL a b) B (aO a b) r k), tt a (aL a b) B (aO a b) k, nI k)) k (fun j hj rec => (cst j (by omega) rec).trans (if_neg (he j hj))) (fun rec => (cst k hk rec).trans (if_pos e)) (by show k < 5000; omega)
              · exact lp_for (fun k => (rm', tt a (aL a b) B (aO a b) k, nI (tb (aL a b) B (aO a b) r k), nI (wk (aL a b) B (aO a b) k))) k (fun j hj rec => (rst j (by omega) rec).trans (if_neg (he j hj))) (fun rec => (rst k hk rec).trans (if_pos e)) (by show k < 5000; omega)
            · have he : ∀ k, k < B.1 (aO a b) - 1 → ¬ nI (tb (aL a b) B (aO a b) r (k + 1)) = p3 := fun k hk e => ex ⟨k, hk, e⟩
              refine ⟨-1, ?_, ?_⟩
              · refine lp_for (fun k => (ro, lw', se', nI (wk (aL a b) B (aO a b) k), nI (B.1 (aO a b) - 1), nI (tb (aL a b) B (aO a b) r k), tt a (aL a b) B (aO a b) k, nI k)) (B.1 (aO a b) - 1) (fun j hj rec => (cst j (by omega) rec).trans (if_neg (he j hj))) (fun rec => ?_) (by show _ < 5000; omega)
                show M_X5_bell_l53 NN nw (nI b) (nI r) p3 rec (ro, lw', se', nI (wk (aL a b) B (aO a b) (B.1 (aO a b) - 1)), nI (B.1 (aO a b) - 1), nI (tb (aL a b) B (aO a b) r (B.1 (aO a b) - 1)), tt a (aL a b) B (aO a b) (B.1 (aO a b) - 1), nI (B.1 (aO a b) - 1)) = _
                unfold M_X5_bell_l53
                simp only []
                rw [if_pos (by exact Int32.le_refl _)]
              · refine lp_for (fun k => (rm', tt a (aL a b) B (aO a b) k, nI (tb (aL a b) B (aO a b) r k), nI (wk (aL a b) B (aO a b) k))) (B.1 (aO a b) - 1) (fun j hj rec => (rst j (by omega) rec).trans (if_neg (he j hj))) (fun rec => ?_) (by show _ < 5000; omega)
                have g := wk_ok (q := aL a b) hz bj ho (B.1 (aO a b) - 1) (by omega)
                have ev := (bj.2.2.2.2.2.1 (wk (aL a b) B (aO a b) (B.1 (aO a b) - 1))).mp (by omega)
                show M_X6_bell_l67 NN (nI b) (nI r) p3 rec (rm', tt a (aL a b) B (aO a b) (B.1 (aO a b) - 1), nI (tb (aL a b) B (aO a b) r (B.1 (aO a b) - 1)), nI (wk (aL a b) B (aO a b) (B.1 (aO a b) - 1))) = _
                unfold M_X6_bell_l67
                simp only []
                rw [ev, if_pos (show nI 0 = 0 from rfl)]
          obtain ⟨v, v1, v2⟩ := res
          rw [v1, v2]
          exact ⟨_, rfl, _, rfl, rfl, hI.sg r1⟩
      · rw [if_neg l1, if_neg l1]
        exact ⟨_, rfl, _, rfl, rfl, hI.rf 0⟩
    · rw [E_noringb h1 h3 hb hr, R_noring h2 h3 hb hr]
      exact ⟨_, rfl, _, rfl, rfl, hI.rf 0⟩
  · rw [E_noring h1 h3 (fun ⟨b, hb', e, _⟩ => hb ⟨b, hb', e⟩), R_nobar h2 h3 hb]
    exact ⟨_, rfl, _, rfl, rfl, hI.rf 0⟩
/-- the evening behind so many moves of the way -/
def av (a : AE) (b : Nat) (q : PL) (B : BB) : Nat → AE
  | 0 => a
  | k + 1 => aMv (av a b q B k) b (nm q B (aO (av a b q B k) b))
theorem aMv_L (a : AE) (b m : Nat) : aL (aMv a b m) b = aL a b := rfl
theorem av_ok {a : AE} {b : Nat} (ok : OkA a) (hb : b < aN a) {n v i c : Nat} {B : BB} (bj : BJ (rev (lgl (aL a b))) (2 ^ aZ a b) v i c B) : ∀ k, k < B.1 (aO a b) → OkA (av a b (aL a b) B k) ∧ aN (av a b (aL a b) B k) = aN a ∧ aL (av a b (aL a b) B k) b = aL a b ∧ aO (av a b (aL a b) B k) b = wk (aL a b) B (aO a b) k
  | 0, _ => ⟨ok, rfl, rfl, rfl⟩
  | k + 1, hk => by
    obtain ⟨g1, g2, g3, g4⟩ := av_ok ok hb (n := n) bj k (by omega)
    have hz := (ok.2 b hb).2.2.1
    have g := wk_ok (q := aL a b) hz bj (ok.2 b hb).2.2.2.1 k (by omega)
    obtain ⟨k1, k2, k3, k4⟩ := nm_ok bj (show 2 ≤ B.1 (wk (aL a b) B (aO a b) k) by omega)
    refine ⟨?_, g2, g3, ?_⟩
    · refine aMv_ok g1 (by rw [g2]; exact hb) ?_
      rw [g3, g4]
      exact mvb_of k2
    · show (if b = b then aO (av a b (aL a b) B k) b ^^^ mk (nm (aL a b) B (aO (av a b (aL a b) B k) b)) else _) = wk (aL a b) B (aO a b) k ^^^ mk (nm (aL a b) B (wk (aL a b) B (aO a b) k))
      rw [if_pos rfl, g4]
theorem RmB.ne {rm rm' : RM} {q : PL} {B : BB} (h : RmB rm q B) (k : NE rm rm') : RmB rm' q B := by
  obtain ⟨e1, e2, e3, e4, e5, e6, e7, e8, e9, e10, e11, e12, e13, e14, e15, e16, e17, e18, e19, -⟩ := k.all
  unfold RmB
  rw [e17, e18, e19]
  exact h
theorem pS_goes : S_goes INV := by
  intro ro nw kp dr sh tp lw se rm K T hI p1 p2 p3
  obtain ⟨a, h1, h2, h3, h4, h5, h6, h7, h8⟩ := id hI
  have hn := h3.1
  have ej : M_X5_goes_j24 NN p1 p2 p3 (ro, nw, lw, se) = some (-2, xRf ro 0, nw, lw, se) := by
    unfold M_X5_goes_j24
    rw [xRf_ok.1]
    rfl
  have ej2 : M_X6_goes_j30 NN p1 p2 p3 rm = some (-2, mRf rm 0) := by
    unfold M_X6_goes_j30
    rw [mRf_ok.1]
    rfl
  unfold M_X5_goes M_X6_goes
  rw [ej, ej2]
  rcases p_set_cases a p1 p2 with ⟨b, s, hb, rfl, hs, rfl⟩ | hno
  · rw [E_setI h1 h3 hb hs, Option.bind_some, if_neg n10, R_bar h2 h3 hb, Option.bind_some, if_neg n10, R_setI h2 h3 hb hs, Option.bind_some, if_neg n10]
    by_cases hv : 1 ≤ p3.toInt ∧ p3.toInt ≤ 60
    · obtain ⟨n, hn2, rfl⟩ := of_int (p := p3) (by omega)
      rw [nI_toInt hn2] at hv
      have hz := (h3.2 b hb).2.2.1
      have hp : 2 ^ aZ a b ≤ 1024 := p10 hz
      have ho := (h3.2 b hb).2.2.2.1
      obtain ⟨lw', se', c1, c2, c3⟩ := C_lead (ro := ro) h1 h3 hb lw se ho hs
      obtain ⟨rm', r1, r2, r3⟩ := R_back h2 h3 hb hs
      obtain ⟨cc, bj⟩ := sp_BJr h3 hb hs
      generalize hB : sp1 (rev (lgl (aL a b))) s = B at *
      have hf := BJ_bound bj (aO a b)
      rw [if_neg (by rw [q_lt_1 hn2]; omega), if_pos (by rw [q_le_60 hn2]; omega), E_on h1 h3 hb, Option.bind_some, c1, Option.bind_some, R_k1 (by rw [nI_toInt hn2]; exact hv.1) (by rw [nI_toInt hn2]; exact hv.2), Option.bind_some, if_pos n10, r3, Option.bind_some, if_neg (E_in h3 hb), E_cl h3 hb, ((h2.sg r1).2.1 b (by omega)).2.2.1, if_neg (nI_in (by omega) (by omega)), nI_clamp (by omega), r2.1 _ ho]
      simp only []
      by_cases e0 : B.1 (aO a b) = 0
      · rw [if_neg (by rw [e0]; exact not_not_intro rfl), if_neg (by rw [e0]; exact not_not_intro rfl), xRf_ok.2.2.2.1, mRf_ok.2.2.2.1]
        exact ⟨_, rfl, _, rfl, rfl, hI.sr 3 r1⟩
      · have eF : fI (B.1 (aO a b)) = nI (B.1 (aO a b) - 1) := by
          unfold fI
          rw [if_neg e0]
        have ejm : jmin (nI n) (fI (B.1 (aO a b))) = nI (min n (B.1 (aO a b) - 1)) := by
          rw [eF]
          unfold jmin
          by_cases l : B.1 (aO a b) - 1 < n
          · rw [if_pos (by rw [nI_ltI (by omega) (by omega)]; exact l), Nat.min_eq_right (by omega)]
          · rw [if_neg (by rw [nI_ltI (by omega) (by omega)]; exact l), Nat.min_eq_left (by omega)]
        rw [if_pos (by rw [fI_m (by omega)]; exact e0), if_pos (by rw [fI_m (by omega)]; exact e0), ejm]
        generalize hK : min n (B.1 (aO a b) - 1) = Kk
        have hKl : Kk ≤ n ∧ Kk ≤ B.1 (aO a b) - 1 ∧ (Kk = n ∨ Kk = B.1 (aO a b) - 1) := by omega
        have aok := fun k hk => av_ok (n := 0) h3 hb bj k hk
        have mvk : ∀ k, k < Kk → (nm (aL a b) B (aO (av a b (aL a b) B k) b) < 10 ∨ nm (aL a b) B (aO (av a b (aL a b) B k) b) = 20) ∧ 2 ≤ B.1 (aO (av a b (aL a b) B k) b) ∧ aO (av a b (aL a b) B k) b < 2 ^ aZ a b := fun k hk => by
          have g := wk_ok (q := aL a b) hz bj ho k (by omega)
          rw [(aok k (by omega)).2.2.2]
          exact ⟨nm_20 (q := aL a b) hz bj (by omega), by omega, g.2⟩
        obtain ⟨o1, ⟨nw', q1, q2⟩, q3⟩ := lp_inv (body := M_X5_goes_l71 NN (nI b) (nI s) (nI n)) (N := NN) (P := fun k Z => ∃ ev, Z = (ro, ev, lw', se', nI Kk, nI k) ∧ EvA ev (av a b (aL a b) B k)) (Qr := fun o => ∃ ev, o = (nI Kk, ro, ev, lw', se') ∧ EvA ev (av a b (aL a b) B Kk)) Kk
          (fun k Z hk hP => by
            obtain ⟨ev, rfl, hev⟩ := hP
            obtain ⟨g1, g2, g3, g4⟩ := aok k (by omega)
            obtain ⟨m1, m2, m3⟩ := mvk k hk
            obtain ⟨ev', d1, d2⟩ := C_make (N := NN) hev g1 (show b < aN (av a b (aL a b) B k) by rw [g2]; exact hb) m1
            refine Or.inl ⟨_, ⟨ev', rfl, d2⟩, fun rec => ?_⟩
            unfold M_X5_goes_l71
            simp only []
            rw [if_neg (by rw [nI_leI (by omega) (by omega)]; omega), E_on hev g1 (by rw [g2]; exact hb), Option.bind_some, C_next c2 hz c3 bj hp m3 m2, Option.bind_some, d1, Option.bind_some, nI_1])
          (fun Z hP => by
            obtain ⟨ev, rfl, hev⟩ := hP
            refine ⟨_, ⟨ev, rfl, hev⟩, fun rec => ?_⟩
            unfold M_X5_goes_l71
            simp only []
            rw [if_pos (by exact Int32.le_refl _)])
          (by show Kk < 5000; omega) (z := (ro, nw, lw', se', nI Kk, 0)) ⟨nw, rfl, h1⟩
        subst q1
        obtain ⟨o2, ⟨rm2, s1, s2, s3⟩, s4⟩ := lp_inv (body := M_X6_goes_l69 NN (nI b) (nI s) (nI n)) (N := NN) (P := fun k Z => ∃ r, Z = (r, nI k) ∧ RmA r (av a b (aL a b) B k) ∧ NE rm' r) (Qr := fun o => ∃ r, o = (nI Kk, r) ∧ RmA r (av a b (aL a b) B Kk) ∧ NE rm' r) Kk
          (fun k Z hk hP => by
            obtain ⟨r, rfl, hr1, hr2⟩ := hP
            obtain ⟨g1, g2, g3, g4⟩ := aok k (by omega)
            obtain ⟨m1, m2, m3⟩ := mvk k hk
            have hbk : b < aN (av a b (aL a b) B k) := by rw [g2]; exact hb
            obtain ⟨r', d1, d2, d3⟩ := R_make (N := NN) hr1 g1 hbk (m := nm (aL a b) B (aO (av a b (aL a b) B k) b)) (by omega)
            have hnx : M_X6_nextMove NN r (nI b) (nI (aO (av a b (aL a b) B k) b)) = some (nI (nm (aL a b) B (aO (av a b (aL a b) B k) b))) := by
              have := R_next (n := 2 ^ aZ a b) (v := s) (i := B.2.2) (c := cc) hr1 g1 hbk (B := B) (by rw [g3]; exact r2.ne hr2) (by rw [g3]; exact bj) hp (u := aO (av a b (aL a b) B k) b) (g1.2 b hbk).2.2.2.1 m2
              rw [g3] at this
              exact this
            have ne : ¬ nI (aO (av a b (aL a b) B k) b) = nI s := fun z => by
              have z := (nI_eq (by omega) (by omega)).mp z
              have := (bj.2.2.2.2.2.1 _).mpr z
              omega
            refine Or.inl ⟨_, ⟨r', rfl, d2, hr2.trans d3⟩, fun rec => ?_⟩
            unfold M_X6_goes_l69
            simp only []
            rw [if_neg (by rw [nI_leI (by omega) (by omega)]; omega), if_neg (E_in g1 hbk), if_neg (E_in g1 hbk), E_cl g1 hbk, (hr1.2.1 b (by omega)).2.2.1, if_neg ne, hnx, Option.bind_some, d1, Option.bind_some, nI_1])
          (fun Z hP => by
            obtain ⟨r, rfl, hr1, hr2⟩ := hP
            refine ⟨_, ⟨r, rfl, hr1, hr2⟩, fun rec => ?_⟩
            obtain ⟨g1, g2, g3, g4⟩ := aok Kk (by omega)
            have hbk : b < aN (av a b (aL a b) B Kk) := by rw [g2]; exact hb
            unfold M_X6_goes_l69
            simp only []
            by_cases l : Kk = n
            · rw [if_pos (by rw [nI_leI (by omega) (by omega)]; omega)]
            · have g := wk_ok (q := aL a b) hz bj ho Kk (by omega)
              have ev := (bj.2.2.2.2.2.1 (wk (aL a b) B (aO a b) Kk)).mp (by omega)
              rw [if_neg (by rw [nI_leI (by omega) (by omega)]; omega), if_neg (E_in g1 hbk), if_neg (E_in g1 hbk), E_cl g1 hbk, (hr1.2.1 b (by omega)).2.2.1, if_pos (by rw [g4, ev])])
          (by show Kk < 5000; omega) (z := (rm', 0)) ⟨rm', rfl, h2.sg r1, rfl⟩
        subst s1
        obtain ⟨g1, g2, g3, g4⟩ := aok Kk (by omega)
        rw [q3, s4]
        refine ⟨_, rfl, _, rfl, rfl, av a b (aL a b) B Kk, q2, s2, g1, ?_, ((h5.sg r1).ne s3), ((h6.sg r1).ne s3), h7, ?_⟩
        · rw [g2]
          exact (h4.sg r1).ne s3 (Nat.le_refl _)
        · exact PlA.ne (by unfold PlA; rw [r1.all.2.2.2.2.2.2.2.2.2.2.2.2.2.2.2.2.2.2]; exact h8) s3
    · rw [R_k0 (l := 1) (z := 60) hv]
      refine ⟨(-2, xRf ro 0, nw, lw, se), ?_, (-2, mRf rm 0), rfl, rfl, hI.rf 0⟩
      by_cases l : p3 < 1
      · rw [if_pos l]
      · rw [if_neg l, if_neg]
        rw [lt_toInt, t_1] at l
        rw [le_toInt, t_60]
        omega
  · rw [E_nosetI h1 h3 hno]
    refine ⟨(-2, xRf ro 0, nw, lw, se), rfl, (-2, mRf rm 0), ?_, rfl, hI.rf 0⟩
    rcases R_setnot (N := NN) h2 h3 hno with e | ⟨e, e'⟩
    · rw [e]; rfl
    · rw [e, Option.bind_some, if_neg n10, e']; rfl
