/-! the tape: numbers and words -/
section NUM
variable {c : Nat → Nat} {z : Nat}
theorem te_le (c : Nat → Nat) {z s : Nat} (h : s ≤ z) : s ≤ te c z s ∧ te c z s ≤ z := by
  unfold te
  by_cases e : s = z
  · rw [if_pos e]
    omega
  · rw [if_neg e]
    have h1 := sk_le isL c h
    have h2 := sk_le isD c h
    split
    · exact h1
    · split
      · exact h2
      · split <;> omega
theorem ts_le (c : Nat → Nat) {z p : Nat} (h : p ≤ z) : p ≤ ts c z p ∧ ts c z p ≤ z := sk_le _ c h
theorem ty_2 {s : Nat} (h : ty c z s = 2) : s ≠ z ∧ isD (c s) = true ∧ te c z s = sk isD c z s := by
  by_cases e : s = z
  · subst e
    rw [(ty_z c s).1] at h
    cases h
  · cases g : isL (c s)
    · cases g2 : isD (c s)
      · by_cases g3 : c s = 59
        · rw [(ty_S e g3).1] at h
          cases h
        · rw [(ty_O e g g2 g3).1] at h
          cases h
      · exact ⟨e, rfl, (ty_D e g g2).2⟩
    · rw [(ty_L e g).1] at h
      cases h
theorem ty_1 {s : Nat} (h : ty c z s = 1) : s ≠ z ∧ isL (c s) = true ∧ te c z s = sk isL c z s := by
  by_cases e : s = z
  · subst e
    rw [(ty_z c s).1] at h
    cases h
  · cases g : isL (c s)
    · cases g2 : isD (c s)
      · by_cases g3 : c s = 59
        · rw [(ty_S e g3).1] at h
          cases h
        · rw [(ty_O e g g2 g3).1] at h
          cases h
      · rw [(ty_D e g g2).1] at h
        cases h
    · exact ⟨e, rfl, (ty_L e g).2⟩
theorem ty_le (c : Nat → Nat) (z s : Nat) : ty c z s ≤ 4 := by
  unfold ty
  split
  · omega
  · split
    · omega
    · split
      · omega
      · split <;> omega
theorem vI_N {s : Nat} (n : Nat) (h : ∀ k, k < n → isD (c (s + k)) = true) : vI' c s n = nI (vN c s n) ∧ vN c s n < 10 ^ n := by
  induction n with
  | zero => exact ⟨rfl, show 0 < 1 by decide⟩
  | succ n ih =>
    obtain ⟨g1, g2⟩ := ih fun k hk => h k (by omega)
    have hd := h n (by omega)
    unfold isD at hd
    simp only [Bool.and_eq_true, decide_eq_true_eq] at hd
    refine ⟨?_, ?_⟩
    · show vI' c s n * 10 + nI (c (s + n)) - 48 = nI (vN c s n * 10 + c (s + n) - 48)
      rw [g1, show (10 : Int32) = nI 10 from rfl, pk_mul, nI_add, show (48 : Int32) = nI 48 from rfl, pk_sub (by omega)]
    · show vN c s n * 10 + c (s + n) - 48 < 10 ^ (n + 1)
      rw [Nat.pow_succ]
      omega
def num (c : Nat → Nat) (z q : Nat) : Nat := vN c q (te c z q - q)
def okn (c : Nat → Nat) (z q : Nat) : Bool := ty c z q == 2 && decide (te c z q - q ≤ 4)
theorem num_ok {q : Nat} (hq : q ≤ z) (h : okn c z q = true) : ty c z q = 2 ∧ te c z q - q ≤ 4 ∧ vI' c q (te c z q - q) = nI (num c z q) ∧ num c z q < 10000 := by
  unfold okn at h
  simp only [Bool.and_eq_true, decide_eq_true_eq, beq_iff_eq] at h
  obtain ⟨h1, h2⟩ := h
  obtain ⟨e1, e2, e3⟩ := ty_2 h1
  have hk : ∀ k, k < te c z q - q → isD (c (q + k)) = true := fun k hk => sk_in (P := isD) (c := c) (z := z) (p := q) (by omega) (by rw [← e3]; omega)
  obtain ⟨g1, g2⟩ := vI_N _ hk
  refine ⟨h1, h2, g1, ?_⟩
  have : 10 ^ (te c z q - q) ≤ 10 ^ 4 := Nat.pow_le_pow_right (by omega) h2
  unfold num
  omega
theorem C_num (b : Bt c z) {tp : TP} {s : Nat} (hs : s ≤ z) (h : CT tp c z s) : ∃ tp', M_X4_readNumber NN tp = some (oB (okn c z (ts c z (te c z s))), tp') ∧ CT tp' c z (ts c z (te c z s)) ∧ (okn c z (ts c z (te c z s)) = true → TP_value tp' = nI (num c z (ts c z (te c z s)))) := by
  have hz := b.1
  have hte := te_le c hs
  have hts := ts_le c hte.2
  obtain ⟨tp', w1, w2⟩ := C_read b h.1 hte.2 h.2.2.2.1
  have hte2 := te_le c hts.2
  have hty := ty_le c z (ts c z (te c z s))
  unfold M_X4_readNumber
  rw [w1, Option.bind_some, w2.2.1, w2.2.2.1, w2.2.2.2.1, pk_sub hte2.1]
  generalize ts c z (te c z s) = q at *
  by_cases e : ty c z q = 2
  · rw [if_neg (show ¬ ¬ nI (ty c z q) = (2 : Int32) from not_not_intro (by rw [e]; rfl))]
    by_cases l : te c z q - q ≤ 4
    · have ho : okn c z q = true := by
        unfold okn
        rw [e, decide_eq_true l]
        rfl
      rw [if_neg (show ¬ (4 : Int32) < nI (te c z q - q) from fun w => by rw [show (4 : Int32) = nI 4 from rfl, nI_ltI (by omega) (by omega)] at w; omega), ho]
      exact ⟨tp', rfl, w2, fun _ => (w2.2.2.2.2 e).trans (num_ok hts.2 ho).2.2.1⟩
    · have ho : okn c z q = false := by
        unfold okn
        rw [decide_eq_false l, Bool.and_false]
      rw [if_pos (show (4 : Int32) < nI (te c z q - q) from by rw [show (4 : Int32) = nI 4 from rfl, nI_ltI (by omega) (by omega)]; omega), ho]
      exact ⟨tp', rfl, w2, fun w => by cases w⟩
  · have ho : okn c z q = false := by
      unfold okn
      rw [b_ne e, Bool.false_and]
    rw [if_pos (show ¬ nI (ty c z q) = (2 : Int32) from fun w => e ((nI_eq (b := 2) (by omega) (by omega)).mp w)), ho]
    exact ⟨tp', rfl, w2, fun w => by cases w⟩
theorem sg_told' (r : RM) (v : Nat → Int32) : Sg r (RM_s_told r v) := sg_told r v
theorem sg_fault' (r : RM) (v : Int32) : Sg r (RM_s_fault r v) := sg_fault r v
theorem R_wrong' {r : RM} {q : Nat} (h : RT r c z q) : ∃ r', M_X6_wrong NN r = some (0, r') ∧ Sg r r' ∧ RM_fault r' = nI q := ⟨_, rfl, sg_fault' _ _, (RM_fault_s_fault _ _).trans h.2.1⟩
theorem R_num (b : Bt c z) {r : RM} {q : Nat} (hq : q ≤ z) (h : RT r c z q) {j : Nat} (hj : j < 4) {lo hi : Int32} (hhi : hi.toInt < 100000) (g : okn c z q = true ∧ lo.toInt ≤ num c z q ∧ (num c z q : Int) ≤ hi.toInt) : ∃ r', M_X6_number NN r (nI j) lo hi = some (1, r') ∧ RT r' c z (ts c z (te c z q)) ∧ Sg r r' ∧ RM_statements r' = RM_statements r ∧ RM_told r' = upd (RM_told r) j (nI (num c z q)) := by
  have hz := b.1
  obtain ⟨g1, g2, g3⟩ := g
  obtain ⟨n1, n2, n3, n4⟩ := num_ok hq g1
  have ef : RM_figures r = nI (num c z q) := by
    rw [h.2.2.2.2 n1, if_pos n2, n3]
  have hte := te_le c hq
  have k0 : Sg r (RM_s_told r (upd (RM_told r) j (nI (num c z q)))) := sg_told' _ _
  have a0 : RM_at (RM_s_told r (upd (RM_told r) j (nI (num c z q)))) = nI (te c z q) := (RM_at_s_told _ _).trans (h.2.2.2.1 (by omega))
  have t0 : RM_told (RM_s_told r (upd (RM_told r) j (nI (num c z q)))) = upd (RM_told r) j (nI (num c z q)) := RM_told_s_told _ _
  have s0 : RM_statements (RM_s_told r (upd (RM_told r) j (nI (num c z q)))) = RM_statements r := RM_statements_s_told _ _
  unfold M_X6_number
  rw [h.2.2.1, n1, if_neg (show ¬ ¬ nI 2 = (2 : Int32) from not_not_intro rfl), ef]
  have ein : M_X6_in NN (nI (num c z q)).toInt64 lo.toInt64 hi.toInt64 = some 1 := R_in1 (by rw [Int32.toInt_toInt64, Int32.toInt_toInt64, nI_toInt (by omega)]; exact g2) (by rw [Int32.toInt_toInt64, Int32.toInt_toInt64, nI_toInt (by omega)]; exact g3)
  rw [ein, Option.bind_some, if_pos n10, if_neg (nI_in (by omega) (by omega)), nI_clamp (by omega)]
  generalize RM_s_told r (upd (RM_told r) j (nI (num c z q))) = t at k0 a0 t0 s0
  obtain ⟨r', w1, w2, w3⟩ := R_look b (h.1.sg k0) hte.2 a0
  rw [w1, Option.bind_some]
  exact ⟨r', rfl, w3, k0.trans w2.1, w2.2.2.trans s0, w2.2.1.trans t0⟩
theorem R_bad (b : Bt c z) {r : RM} {q : Nat} (hq : q ≤ z) (h : RT r c z q) {j : Int32} {lo hi : Int32} (hhi : hi.toInt < 100000) (g : ¬ (okn c z q = true ∧ lo.toInt ≤ num c z q ∧ (num c z q : Int) ≤ hi.toInt)) : ∃ r', M_X6_number NN r j lo hi = some (0, r') ∧ Sg r r' ∧ RM_fault r' = nI q := by
  have hz := b.1
  obtain ⟨r', w1, w2, w3⟩ := R_wrong' h
  have ej : M_X6_number_j23 NN j lo hi r = some (0, r') := by
    unfold M_X6_number_j23
    rw [w1, Option.bind_some]
    exact if_neg (not_not_intro (Or.inl rfl))
  refine ⟨r', ?_, w2, w3⟩
  unfold M_X6_number
  rw [ej]
  have hty := ty_le c z q
  by_cases e : ty c z q = 2
  · have ein : M_X6_in NN (RM_figures r).toInt64 lo.toInt64 hi.toInt64 = some 0 := by
      refine R_in0 ?_
      rw [Int32.toInt_toInt64, Int32.toInt_toInt64, Int32.toInt_toInt64, h.2.2.2.2 e]
      intro w
      by_cases l : te c z q - q ≤ 4
      · have ho : okn c z q = true := by
          unfold okn
          rw [e, decide_eq_true l]
          rfl
        obtain ⟨n1, n2, n3, n4⟩ := num_ok hq ho
        rw [if_pos l, n3, nI_toInt (by omega)] at w
        exact g ⟨ho, w⟩
      · rw [if_neg l, show (100000 : Int32).toInt = 100000 from by decide +kernel] at w
        omega
    rw [ein, Option.bind_some, if_neg n00]
    split <;> rfl
  · rw [if_pos (show ¬ RM_token r = (2 : Int32) by rw [h.2.2.1]; exact fun w => e ((nI_eq (b := 2) (by omega) (by omega)).mp w))]
/-! words -/
def wl (i : Nat) : Nat := kLen.getD i 0
theorem wl_7 : ∀ i, i < 6 → wl i ≤ 7 ∧ 1 ≤ wl i := by decide
def wf (c : Nat → Nat) (s i : Nat) : Nat := fa_first (fun k => !decide (nI (c (s + k)) = kCh i k)) (wl i)
def wd (c : Nat → Nat) (z s i : Nat) : Bool := ty c z s == 1 && (te c z s - s == wl i) && (wf c s i == wl i)
theorem w_str (b : Bt c z) {s i : Nat} (hi : i < 6) (h : te c z s - s = wl i) (hs : s ≤ z) {body : (Int32 → Option Int32) → Int32 → Option Int32} (h1 : ∀ k rec, k < wl i → body rec (nI k) = if nI (c (s + k)) = kCh i k then rec (nI k + 1) else some 0) (h2 : ∀ rec, body rec (nI (wl i)) = some 1) : lp body NN 0 = some (oB (wf c s i == wl i)) := by
  have hz := b.1
  have hw := wl_7 i hi
  have wle := fa_first_le (fun k => !decide (nI (c (s + k)) = kCh i k)) (wl i)
  have wno := fa_first_no (fun k => !decide (nI (c (s + k)) = kCh i k)) (wl i)
  have wyes := fa_first_yes (fun k => !decide (nI (c (s + k)) = kCh i k)) (wl i)
  unfold wf
  generalize fa_first (fun k => !decide (nI (c (s + k)) = kCh i k)) (wl i) = W at *
  refine lp_for (fun k => nI k) W (fun k hk rec => ?_) (fun rec => ?_) (by show _ < 5000; omega)
  · have hh := wno k hk
    simp only [Bool.not_eq_false', decide_eq_true_eq] at hh
    rw [h1 k rec (by omega), if_pos hh, nI_1]
  · by_cases e : W = wl i
    · rw [e, h2, b_eq rfl]
      rfl
    · have hh := wyes (by omega)
      simp only [Bool.not_eq_true', decide_eq_false_iff_not] at hh
      rw [h1 W rec (by omega), if_neg hh, b_ne e]
      rfl
theorem C_isWord (b : Bt c z) {tp : TP} {s i : Nat} (hi : i < 6) (hs : s ≤ z) (h : CT tp c z s) : M_X4_isWord NN tp i = some (oB (wd c z s i)) := by
  have hz := b.1
  have hw := wl_7 i hi
  have hte := te_le c hs
  have hty := ty_le c z s
  have ew : kLen.getD i 0 = wl i := rfl
  unfold M_X4_isWord wd
  rw [h.2.2.1, h.2.2.2.1, h.2.1, pk_sub hte.1]
  by_cases e : ty c z s = 1
  · rw [e, if_neg (show ¬ ¬ nI 1 = (1 : Int32) from not_not_intro rfl)]
    by_cases l : te c z s - s = wl i
    · rw [ew, if_pos (show nI (te c z s - s) = nI (wl i) from congrArg nI l), b_eq l]
      refine (w_str b hi l hs (fun k rec hk => ?_) (fun rec => ?_)).trans ?_
      · unfold M_X4_isWord_l28
        rw [ew, if_neg (show ¬ nI (wl i) ≤ nI k from by rw [nI_leI (by omega) (by omega)]; omega), h.2.1, nI_add, C_byte b h.1 (by omega), Option.bind_some, if_neg (show ¬ (nI k < 0 ∨ wl i ≤ (nI k).toNatClampNeg) from nI_in hk (by omega)), nI_clamp (by omega)]
      · unfold M_X4_isWord_l28
        rw [ew, if_pos (show nI (wl i) ≤ nI (wl i) from Int32.le_refl _)]
      · rfl
    · rw [ew, if_neg (show ¬ nI (te c z s - s) = nI (wl i) from fun w => l ((nI_eq (by omega) (by omega)).mp w)), b_ne l, Bool.and_false, Bool.false_and]
      rfl
  · rw [if_pos (show ¬ nI (ty c z s) = (1 : Int32) from fun w => e ((nI_eq (b := 1) (by omega) (by omega)).mp w)), b_ne e, Bool.false_and, Bool.false_and]
    rfl
theorem R_isWord (b : Bt c z) {r : RM} {s i : Nat} (hi : i < 6) (hs : s ≤ z) (h : RT r c z s) : M_X6_isWord NN r i = some (oB (wd c z s i)) := by
  have hz := b.1
  have hw := wl_7 i hi
  have hte := te_le c hs
  have hty := ty_le c z s
  have ew : kLen.getD i 0 = wl i := rfl
  unfold M_X6_isWord wd
  rw [h.2.2.1, h.2.1]
  by_cases e : ty c z s = 1
  · rw [h.2.2.2.1 (by omega), pk_sub hte.1, e, if_neg (show ¬ ¬ nI 1 = (1 : Int32) from not_not_intro rfl)]
    by_cases l : te c z s - s = wl i
    · rw [ew, if_pos (show nI (te c z s - s) = nI (wl i) from congrArg nI l), b_eq l]
      refine (w_str b hi l hs (fun k rec hk => ?_) (fun rec => ?_)).trans ?_
      · unfold M_X6_isWord_l28
        rw [ew, if_neg (show ¬ nI (wl i) ≤ nI k from by rw [nI_leI (by omega) (by omega)]; omega), h.2.1, nI_add, if_neg (nI_in (by omega) (by omega)), if_neg (show ¬ (nI k < 0 ∨ wl i ≤ (nI k).toNatClampNeg) from nI_in hk (by omega)), nI_clamp (by omega), nI_clamp (by omega), h.1.2 (s + k) (by omega)]
      · unfold M_X6_isWord_l28
        rw [ew, if_pos (show nI (wl i) ≤ nI (wl i) from Int32.le_refl _)]
      · rfl
    · rw [ew, if_neg (show ¬ nI (te c z s - s) = nI (wl i) from fun w => l ((nI_eq (by omega) (by omega)).mp w)), b_ne l, Bool.and_false, Bool.false_and]
      rfl
  · rw [if_pos (show ¬ nI (ty c z s) = (1 : Int32) from fun w => e ((nI_eq (b := 1) (by omega) (by omega)).mp w)), b_ne e, Bool.false_and, Bool.false_and]
    rfl
theorem wd_one {s i j : Nat} (hi : i < 6) (hj : j < 6) (h : wd c z s i = true) (hne : wl i ≠ wl j) : wd c z s j = false := by
  unfold wd at h ⊢
  simp only [Bool.and_eq_true, beq_iff_eq] at h
  rw [b_ne (show te c z s - s ≠ wl j by omega), Bool.and_false, Bool.false_and]
theorem wd_ty {s i : Nat} (h : wd c z s i = true) : ty c z s = 1 := by
  unfold wd at h
  simp only [Bool.and_eq_true, beq_iff_eq] at h
  exact h.1.1
end NUM
