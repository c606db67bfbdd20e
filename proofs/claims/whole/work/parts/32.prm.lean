section PRM
variable {N : Nat} {rm : RM} {a : AE} {b : Nat} {p q : Int32}
theorem R_in1 {x y z : Int64} (h1 : y.toInt ≤ x.toInt) (h2 : x.toInt ≤ z.toInt) : M_X6_in N x y z = some 1 := by
  unfold M_X6_in
  rw [if_neg (by rw [cmp_lt]; omega), if_neg (by rw [cmp_gt]; omega)]
theorem R_in0 {x y z : Int64} (h : ¬ (y.toInt ≤ x.toInt ∧ x.toInt ≤ z.toInt)) : M_X6_in N x y z = some 0 := by
  unfold M_X6_in
  by_cases h1 : x.toInt < y.toInt
  · rw [if_pos (by rw [cmp_lt]; exact h1)]
  · rw [if_neg (by rw [cmp_lt]; exact h1), if_pos (by rw [cmp_gt]; omega)]
theorem sub1_toInt {k : Nat} (hk : k < 2 ^ 31) : ((nI k - 1).toInt64).toInt = (k : Int) - 1 := by
  rw [Int32.toInt_toInt64, Int32.toInt_sub, nI_toInt hk, show (1 : Int32).toInt = 1 from rfl]
  simp only [Int.bmod]
  omega
theorem vI_int {n : Nat} {p : Int32} (hn : n < 2 ^ 31) : vI n p ↔ 0 ≤ p.toInt ∧ p.toInt < n := by
  rw [vI_iff hn, Int32.lt_iff_toInt_lt, Int32.lt_iff_toInt_lt, nI_toInt hn, show (0 : Int32).toInt = 0 from rfl]
  omega
theorem R_i1 {k : Nat} (hk : k < 2 ^ 31) (h : vI k p) : M_X6_in N p.toInt64 (0 : Int64) ((nI k - 1).toInt64) = some 1 := by
  rw [vI_int hk] at h
  exact R_in1 (by rw [Int32.toInt_toInt64]; exact h.1) (by rw [sub1_toInt hk, Int32.toInt_toInt64]; omega)
theorem R_i0 {k : Nat} (hk : k < 2 ^ 31) (h : ¬ vI k p) : M_X6_in N p.toInt64 (0 : Int64) ((nI k - 1).toInt64) = some 0 := by
  rw [vI_int hk] at h
  refine R_in0 fun h2 => h ?_
  rw [sub1_toInt hk, Int32.toInt_toInt64] at h2
  exact ⟨h2.1, by omega⟩
theorem R_k1 {l z : Int64} (h1 : l.toInt ≤ p.toInt) (h2 : p.toInt ≤ z.toInt) : M_X6_in N p.toInt64 l z = some 1 := R_in1 (by rw [Int32.toInt_toInt64]; exact h1) (by rw [Int32.toInt_toInt64]; exact h2)
theorem R_k0 {l z : Int64} (h : ¬ (l.toInt ≤ p.toInt ∧ p.toInt ≤ z.toInt)) : M_X6_in N p.toInt64 l z = some 0 := R_in0 (by rw [Int32.toInt_toInt64]; exact h)
theorem R_q1 {k : Nat} {z : Int64} (h : vI k p) (hz : z.toInt + 1 = k) (hk : k < 2 ^ 31) : M_X6_in N p.toInt64 (0 : Int64) z = some 1 := by
  rw [vI_int hk] at h
  exact R_in1 (by rw [Int32.toInt_toInt64]; exact h.1) (by rw [Int32.toInt_toInt64]; omega)
theorem R_q0 {k : Nat} {z : Int64} (h : ¬ vI k p) (hz : z.toInt + 1 = k) (hk : k < 2 ^ 31) : M_X6_in N p.toInt64 (0 : Int64) z = some 0 := by
  rw [vI_int hk] at h
  refine R_in0 fun h2 => h ?_
  rw [Int32.toInt_toInt64] at h2
  exact ⟨h2.1, by omega⟩
theorem vB_I : vB a p ↔ vI (aN a) p := Iff.rfl
theorem R_bar (h : RmA rm a) (ok : OkA a) (hb : b < aN a) : M_X6_isBar N rm (nI b) = some 1 := by
  have h4 := ok.1
  unfold M_X6_isBar
  rw [h.1, R_i1 (by omega) ⟨b, hb, rfl⟩]
  rfl
theorem R_nobar (h : RmA rm a) (ok : OkA a) (hb : ¬ vB a p) : M_X6_isBar N rm p = some 0 := by
  have h4 := ok.1
  unfold M_X6_isBar
  rw [h.1, R_i0 (by omega) hb]
  rfl
theorem R_all (h : RmA rm a) (ok : OkA a) (hb : b < aN a) : M_X6_all N rm (nI b) = some (nI (2 ^ aZ a b) - 1) := by
  have h4 := ok.1
  unfold M_X6_all
  rw [if_neg (E_in ok hb), E_cl ok hb, (h.2.1 b (by omega)).2.1, shl_N (ok.2 b hb).2.2.1]
theorem R_set (h : RmA rm a) (ok : OkA a) (hb : b < aN a) {v : Int64} (hv : vL (2 ^ aZ a b) v) : M_X6_isSet N rm (nI b) v = some 1 := by
  have h2 := p10 (ok.2 b hb).2.2.1
  unfold M_X6_isSet
  rw [vL_iff (by omega)] at hv
  rw [R_all h ok hb, Option.bind_some, R_in1 (x := v) (y := 0) (show (0 : Int64).toInt ≤ v.toInt from hv.1) (by rw [sub1_toInt (by omega)]; omega)]
  rfl
theorem R_noset (h : RmA rm a) (ok : OkA a) (hb : b < aN a) {v : Int64} (hv : ¬ vL (2 ^ aZ a b) v) : M_X6_isSet N rm (nI b) v = some 0 := by
  have h2 := p10 (ok.2 b hb).2.2.1
  unfold M_X6_isSet
  rw [vL_iff (by omega)] at hv
  rw [R_all h ok hb, Option.bind_some, R_in0]
  · rfl
  · intro h3
    rw [sub1_toInt (by omega)] at h3
    exact hv ⟨h3.1, by omega⟩
theorem R_ring (h : RmA rm a) (ok : OkA a) (hb : b < aN a) {r : Nat} (hr : r < aZ a b) : M_X6_isRing N rm (nI b) (nI r) = some 1 := by
  have h4 := ok.1
  have hz := (ok.2 b hb).2.2.1
  unfold M_X6_isRing
  rw [if_neg (E_in ok hb), E_cl ok hb, (h.2.1 b (by omega)).2.1, R_i1 (by omega) ⟨r, hr, rfl⟩]
  rfl
theorem R_noring (h : RmA rm a) (ok : OkA a) (hb : b < aN a) (hr : ¬ vI (aZ a b) q) : M_X6_isRing N rm (nI b) q = some 0 := by
  have h4 := ok.1
  have hz := (ok.2 b hb).2.2.1
  unfold M_X6_isRing
  rw [if_neg (E_in ok hb), E_cl ok hb, (h.2.1 b (by omega)).2.1, R_i0 (by omega) hr]
  rfl
end PRM
/-- the two refusals, and their counters -/
def RfA (ro : RO) (rm : RM) : Prop := ∀ k, k < 5 → RO_refusals ro k = RM_refused rm (k + 2)
def xRf (ro : RO) (k : Nat) : RO := RO_s_refusals ro (upd (RO_refusals ro) k (RO_refusals ro k + 1))
def mRf (rm : RM) (k : Nat) : RM := RM_s_refused rm (upd (RM_refused rm) (k + 2) (RM_refused rm (k + 2) + 1))
theorem xRf_ok {N : Nat} {ro : RO} : M_X5_refuse N ro (-2) = some (-2, xRf ro 0) ∧ M_X5_refuse N ro (-3) = some (-3, xRf ro 1) ∧ M_X5_refuse N ro (-4) = some (-4, xRf ro 2) ∧ M_X5_refuse N ro (-5) = some (-5, xRf ro 3) ∧ M_X5_refuse N ro (-6) = some (-6, xRf ro 4) := by
  unfold M_X5_refuse
  exact ⟨rfl, rfl, rfl, rfl, rfl⟩
theorem mRf_ok {N : Nat} {rm : RM} : M_X6_refuse N rm (-2) = some (-2, mRf rm 0) ∧ M_X6_refuse N rm (-3) = some (-3, mRf rm 1) ∧ M_X6_refuse N rm (-4) = some (-4, mRf rm 2) ∧ M_X6_refuse N rm (-5) = some (-5, mRf rm 3) ∧ M_X6_refuse N rm (-6) = some (-6, mRf rm 4) := by
  unfold M_X6_refuse
  exact ⟨rfl, rfl, rfl, rfl, rfl⟩
theorem RfA_rf {ro : RO} {rm : RM} {k : Nat} (h : RfA ro rm) : RfA (xRf ro k) (mRf rm k) := by
  intro j hj
  show upd (RO_refusals ro) k (RO_refusals ro k + 1) j = upd (RM_refused rm) (k + 2) (RM_refused rm (k + 2) + 1) (j + 2)
  unfold upd
  by_cases e : j = k
  · subst e
    simp [h j hj]
  · simp [e, h j hj]
