def vB (a : AE) (p : Int32) : Prop := ∃ b, b < aN a ∧ p = nI b
def vI (n : Nat) (p : Int32) : Prop := ∃ r, r < n ∧ p = nI r
def vL (n : Nat) (p : Int64) : Prop := ∃ r, r < n ∧ p = lN r
theorem vI_iff {n : Nat} {p : Int32} (hn : n < 2 ^ 31) : vI n p ↔ ¬ p < 0 ∧ p < nI n := by
  constructor
  · rintro ⟨r, h, rfl⟩
    exact ⟨nI_pos (by omega), nI_lt h hn⟩
  · rintro ⟨h1, h2⟩
    obtain ⟨j, hj, rfl⟩ := nI_of h1
    exact ⟨j, (nI_ltI hj hn).mp h2, rfl⟩
theorem vL_iff {n : Nat} {p : Int64} (hn : n < 2 ^ 31) : vL n p ↔ 0 ≤ p.toInt ∧ p.toInt < n := by
  constructor
  · rintro ⟨r, h, rfl⟩
    rw [lN_toInt (by omega)]
    omega
  · rintro ⟨h1, h2⟩
    refine ⟨p.toInt.toNat, by omega, ?_⟩
    apply Int64.toInt_inj.mp
    rw [lN_toInt (by omega)]
    omega
theorem vL_of {n : Nat} {p : Int32} (hn : n < 2 ^ 31) : vL n p.toInt64 ↔ vI n p := by
  constructor
  · rintro ⟨r, h, e⟩
    exact ⟨r, h, by rw [← Int32.toInt_inj, nI_toInt (by omega), ← lN_toInt (n := r) (by omega), ← e, Int32.toInt_toInt64]⟩
  · rintro ⟨r, h, rfl⟩
    exact ⟨r, h, nI_l (by omega)⟩
theorem cmp_lt {x y : Int64} : lg_cmp x y < 0 ↔ x.toInt < y.toInt := by
  unfold lg_cmp
  rw [← Int64.lt_iff_toInt_lt]
  by_cases h1 : y < x
  · have h2 : ¬ x < y := Int64.lt_asymm h1
    simp [h1, h2]
  · by_cases h2 : x = y
    · subst h2; simp
    · have h3 : x < y := by
        rw [Int64.lt_iff_toInt_lt] at h1 ⊢
        rw [← Int64.toInt_inj] at h2
        omega
      simp only [if_neg h1, if_neg h2, h3, iff_true]
      decide
theorem cmp_ge {x y : Int64} : 0 ≤ lg_cmp x y ↔ y.toInt ≤ x.toInt := by
  rw [← Int32.not_lt, cmp_lt, Int.not_lt]
theorem cmp_gt {x y : Int64} : 0 < lg_cmp x y ↔ y.toInt < x.toInt := by
  unfold lg_cmp
  rw [← Int64.lt_iff_toInt_lt]
  by_cases h1 : y < x
  · simp [h1]
  · by_cases h2 : x = y
    · subst h2; simp
    · simp only [if_neg h1, if_neg h2, h1, iff_false]
      decide
theorem cmp_le {x y : Int64} : lg_cmp x y ≤ 0 ↔ x.toInt ≤ y.toInt := by
  rw [← Int32.not_lt, cmp_gt, Int.not_lt]
theorem shl_N {n : Nat} (h : n ≤ 10) : (1 : Int32) <<< (nI n &&& 31) = nI (2 ^ n) := by
  have : ∀ n, n ≤ 10 → (1 : Int32) <<< (nI n &&& 31) = nI (2 ^ n) := by decide +kernel
  exact this n h
theorem shlL_N {n : Nat} (h : n ≤ 10) : jlshl (1 : Int64) (nI n) = lN (2 ^ n) := by
  have : ∀ n, n ≤ 10 → jlshl (1 : Int64) (nI n) = lN (2 ^ n) := by decide +kernel
  exact this n h
theorem p10 {n : Nat} (h : n ≤ 10) : 2 ^ n ≤ 1024 := Nat.pow_le_pow_right (by omega) h
section PEV
variable {N : Nat} {ev : EV} {a : AE} {b : Nat} {p q : Int32}
theorem E_bar (h : EvA ev a) (ok : OkA a) (hb : b < aN a) : M_X0_hasBar N ev (nI b) = some 1 := by
  have h4 := ok.1
  unfold M_X0_hasBar
  rw [h.1, if_neg (nI_pos (by omega)), if_neg (nI_ge hb (by omega)), if_neg (show ¬ ((4 : Int32) ≤ nI b) from nI_ge (b := 4) (by omega) (by omega))]
theorem E_nobar (h : EvA ev a) (ok : OkA a) (hb : ¬ vB a p) : M_X0_hasBar N ev p = some 0 := by
  have h4 := ok.1
  unfold M_X0_hasBar
  rw [h.1]
  by_cases h1 : p < 0
  · rw [if_pos h1]
  · rw [if_neg h1]
    obtain ⟨j, hj, rfl⟩ := nI_of h1
    rw [if_pos]
    rw [nI_leI (by omega) hj]
    exact Nat.not_lt.mp fun hlt => hb ⟨j, hlt, rfl⟩
theorem E_in (ok : OkA a) (hb : b < aN a) : ¬ (nI b < 0 ∨ 4 ≤ (nI b).toNatClampNeg) := nI_in (by have := ok.1; omega) (by omega)
theorem E_cl (ok : OkA a) (hb : b < aN a) : (nI b).toNatClampNeg = b := nI_clamp (by have := ok.1; omega)
theorem E_set (h : EvA ev a) (ok : OkA a) (hb : b < aN a) {v : Int64} (hv : vL (2 ^ aZ a b) v) : M_X0_hasSet N ev (nI b) v = some 1 := by
  have h4 := ok.1
  have hz := (ok.2 b hb).2.2.1
  have h2 := p10 hz
  rw [vL_iff (by omega)] at hv
  unfold M_X0_hasSet
  rw [E_bar h ok hb, Option.bind_some, if_neg (by decide), if_neg (by rw [cmp_lt]; exact Int.not_lt.mpr hv.1), if_neg (E_in ok hb), E_cl ok hb, (h.2.1 b (by omega)).2.1, shlL_N hz, if_neg]
  rw [cmp_ge, lN_toInt (by omega)]
  omega
theorem E_noset (h : EvA ev a) (ok : OkA a) {v : Int64} (hv : ¬ ∃ b, b < aN a ∧ p = nI b ∧ vL (2 ^ aZ a b) v) : M_X0_hasSet N ev p v = some 0 := by
  have h4 := ok.1
  unfold M_X0_hasSet
  by_cases hb : vB a p
  · obtain ⟨b, hb, rfl⟩ := hb
    have hz := (ok.2 b hb).2.2.1
    have h2 := p10 hz
    rw [E_bar h ok hb, Option.bind_some, if_neg (by decide)]
    by_cases h1 : v.toInt < 0
    · rw [if_pos (by rw [cmp_lt]; exact h1)]
    · rw [if_neg (by rw [cmp_lt]; exact h1), if_neg (E_in ok hb), E_cl ok hb, (h.2.1 b (by omega)).2.1, shlL_N hz, if_pos]
      rw [cmp_ge, lN_toInt (by omega)]
      apply Int.not_lt.mp
      intro h3
      exact hv ⟨b, hb, rfl, (vL_iff (by omega)).mpr ⟨by omega, h3⟩⟩
  · rw [E_nobar h ok hb, Option.bind_some, if_pos rfl]
theorem E_ring (h : EvA ev a) (ok : OkA a) (hb : b < aN a) {r : Nat} (hr : r < aZ a b) : M_X0_hasRing N ev (nI b) (nI r) = some 1 := by
  have h4 := ok.1
  have hz := (ok.2 b hb).2.2.1
  unfold M_X0_hasRing
  rw [E_bar h ok hb, Option.bind_some, if_neg (by decide), if_neg (nI_pos (by omega)), if_neg (E_in ok hb), E_cl ok hb, (h.2.1 b (by omega)).2.1, if_neg (nI_ge hr (by omega)), if_neg (show ¬ ((10 : Int32) ≤ nI r) from nI_ge (b := 10) (by omega) (by omega))]
theorem E_noring (h : EvA ev a) (ok : OkA a) (hv : ¬ ∃ b, b < aN a ∧ p = nI b ∧ vI (aZ a b) q) : M_X0_hasRing N ev p q = some 0 := by
  have h4 := ok.1
  unfold M_X0_hasRing
  by_cases hb : vB a p
  · obtain ⟨b, hb, rfl⟩ := hb
    have hz := (ok.2 b hb).2.2.1
    rw [E_bar h ok hb, Option.bind_some, if_neg (by decide)]
    by_cases h1 : q < 0
    · rw [if_pos h1]
    · obtain ⟨j, hj, rfl⟩ := nI_of h1
      rw [if_neg h1, if_neg (E_in ok hb), E_cl ok hb, (h.2.1 b (by omega)).2.1, if_pos]
      rw [nI_leI (by omega) hj]
      exact Nat.not_lt.mp fun h3 => hv ⟨b, hb, rfl, j, h3, rfl⟩
  · rw [E_nobar h ok hb, Option.bind_some, if_pos rfl]
theorem E_kind (h : EvA ev a) (ok : OkA a) (hb : b < aN a) : M_X0_kindOf N ev (nI b) = some (nI (aK a b)) := by
  have h4 := ok.1
  unfold M_X0_kindOf
  rw [E_bar h ok hb, Option.bind_some, if_neg (by decide), if_neg (E_in ok hb), E_cl ok hb, (h.2.1 b (by omega)).1]
theorem E_nokind (h : EvA ev a) (ok : OkA a) (hb : ¬ vB a p) : M_X0_kindOf N ev p = some (-1) := by
  unfold M_X0_kindOf
  rw [E_nobar h ok hb, Option.bind_some, if_pos rfl]
theorem E_size (h : EvA ev a) (ok : OkA a) (hb : b < aN a) : M_X0_sizeOf N ev (nI b) = some (nI (aZ a b)) := by
  have h4 := ok.1
  unfold M_X0_sizeOf
  rw [E_bar h ok hb, Option.bind_some, if_neg (by decide), if_neg (E_in ok hb), E_cl ok hb, (h.2.1 b (by omega)).2.1]
theorem E_nosize (h : EvA ev a) (ok : OkA a) (hb : ¬ vB a p) : M_X0_sizeOf N ev p = some 0 := by
  unfold M_X0_sizeOf
  rw [E_nobar h ok hb, Option.bind_some, if_pos rfl]
theorem E_on (h : EvA ev a) (ok : OkA a) (hb : b < aN a) : M_X0_onOf N ev (nI b) = some (nI (aO a b)) := by
  have h4 := ok.1
  unfold M_X0_onOf
  rw [E_bar h ok hb, Option.bind_some, if_neg (by decide), if_neg (E_in ok hb), E_cl ok hb, (h.2.1 b (by omega)).2.2.1]
theorem E_stuck (h : EvA ev a) (ok : OkA a) (hb : b < aN a) : M_X0_stuckOf N ev (nI b) = some (nI (aT a b)) := by
  have h4 := ok.1
  unfold M_X0_stuckOf
  rw [E_bar h ok hb, Option.bind_some, if_neg (by decide), if_neg (E_in ok hb), E_cl ok hb, (h.2.1 b (by omega)).2.2.2.1]
theorem at10 {b r : Nat} (hb : b < 4) (hr : r < 10) : (nI b * (10 : Int32)) + nI r = nI (b * 10 + r) := by
  have : ∀ b, b < 4 → ∀ r, r < 10 → (nI b * (10 : Int32)) + nI r = nI (b * 10 + r) := by decide +kernel
  exact this b hb r hr
theorem E_must (h : EvA ev a) (ok : OkA a) (hb : b < aN a) {r : Nat} (hr : r < aZ a b) : M_X0_mustOf N ev (nI b) (nI r) = some (nI (aM a b r)) := by
  have h4 := ok.1
  have hz := (ok.2 b hb).2.2.1
  unfold M_X0_mustOf
  rw [E_ring h ok hb hr, Option.bind_some, if_neg (by decide), at10 (by omega) (by omega), if_neg (nI_in (by omega) (by omega)), nI_clamp (by omega), ((h.2.1 b (by omega)).2.2.2.2 r (by omega)).1]
theorem E_not (h : EvA ev a) (ok : OkA a) (hb : b < aN a) {r : Nat} (hr : r < aZ a b) : M_X0_notOf N ev (nI b) (nI r) = some (nI (aX a b r)) := by
  have h4 := ok.1
  have hz := (ok.2 b hb).2.2.1
  unfold M_X0_notOf
  rw [E_ring h ok hb hr, Option.bind_some, if_neg (by decide), at10 (by omega) (by omega), if_neg (nI_in (by omega) (by omega)), nI_clamp (by omega), ((h.2.1 b (by omega)).2.2.2.2 r (by omega)).2]
end PEV
