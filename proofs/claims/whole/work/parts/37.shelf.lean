def shF (sh : SH) (rm : RM) (s : Nat) : Prop := RM_shelf rm s = 0 ∧ SH_held sh s = -1
def shR (sh : SH) (rm : RM) (s k z : Nat) : Prop := RM_shelf rm s = 1 ∧ k ≤ 4 ∧ z ≤ 40 ∧ SH_held sh s = nI k ∧ RM_rowSort rm s = nI k ∧ SH_lengths sh s = nI z ∧ RM_rowSize rm s = nI z ∧ ∀ i, i < z → SH_cells sh (s * 40 + i) = RM_rows rm s i
def shB (sh : SH) (rm : RM) (nb s b : Nat) : Prop := RM_shelf rm s = 2 ∧ b < nb ∧ SH_held sh s = nI (10 + b) ∧ RM_shown rm s = nI b
theorem sh_cases {sh : SH} {rm : RM} {nb : Nat} (h : ShA sh rm nb) {s : Nat} (hs : s < 8) : shF sh rm s ∨ (∃ k z, shR sh rm s k z) ∨ ∃ b, shB sh rm nb s b := by
  rcases h s hs with h | ⟨h, k, z, h2⟩ | ⟨h, b, h2⟩
  · exact Or.inl h
  · exact Or.inr (Or.inl ⟨k, z, h, h2⟩)
  · exact Or.inr (Or.inr ⟨b, h, h2⟩)
theorem sh_of {sh : SH} {rm : RM} {nb : Nat} (h : ∀ s, s < 8 → shF sh rm s ∨ (∃ k z, shR sh rm s k z) ∨ ∃ b, shB sh rm nb s b) : ShA sh rm nb := by
  intro s hs
  rcases h s hs with h | ⟨k, z, h, h2⟩ | ⟨b, h, h2⟩
  · exact Or.inl h
  · exact Or.inr (Or.inl ⟨h, k, z, h2⟩)
  · exact Or.inr (Or.inr ⟨h, b, h2⟩)
section SHELF
variable {N : Nat} {sh : SH} {rm : RM} {nb s k z b : Nat} {p q : Int32}
theorem S_is (hs : s < 8) : M_X3_isShelf N (nI s) = some 1 := by
  unfold M_X3_isShelf
  rw [if_neg (nI_pos (by omega)), if_neg (show ¬ ((8 : Int32) ≤ nI s) from nI_ge (b := 8) (by omega) (by omega))]
theorem S_no (hp : ¬ vI 8 p) : M_X3_isShelf N p = some 0 := by
  unfold M_X3_isShelf
  rw [vI_int (by omega)] at hp
  simp only [lt_toInt, le_toInt, show (0 : Int32).toInt = 0 from rfl, show (8 : Int32).toInt = 8 from rfl]
  split
  · rfl
  · rw [if_pos (by omega)]
theorem S_in (hs : s < 8) : ¬ (nI s < 0 ∨ 8 ≤ (nI s).toNatClampNeg) := nI_in (by omega) (by omega)
theorem S_cl (hs : s < 8) : (nI s).toNatClampNeg = s := nI_clamp (by omega)
theorem S_held (hs : s < 8) : M_X3_heldBy N sh (nI s) = some (SH_held sh s) := by
  unfold M_X3_heldBy
  rw [S_is hs, Option.bind_some, if_neg (by decide), if_neg (S_in hs), S_cl hs]
theorem S_noheld (hp : ¬ vI 8 p) : M_X3_heldBy N sh p = some (-1) := by
  unfold M_X3_heldBy
  rw [S_no hp, Option.bind_some, if_pos rfl]
theorem nI_nem (n : Nat) (h : n < 2 ^ 31) : ¬ nI n = -1 := fun e => by
  have := congrArg Int32.toInt e
  rw [nI_toInt h] at this
  have e2 : (-1 : Int32).toInt = -1 := rfl
  omega
theorem S_freeF (hs : s < 8) (h : shF sh rm s) : M_X3_isFree N sh (nI s) = some 1 := by
  unfold M_X3_isFree
  rw [S_held hs, Option.bind_some, h.2]
  rfl
theorem S_freeR (hs : s < 8) (h : shR sh rm s k z) : M_X3_isFree N sh (nI s) = some 0 := by
  unfold M_X3_isFree
  have := h.2.1
  rw [S_held hs, Option.bind_some, h.2.2.2.1, if_pos (nI_nem k (by omega))]
theorem S_freeB (hs : s < 8) (h : shB sh rm nb s b) (hb : nb ≤ 4) : M_X3_isFree N sh (nI s) = some 0 := by
  unfold M_X3_isFree
  have := h.2.1
  rw [S_held hs, Option.bind_some, h.2.2.1, if_pos (nI_nem (10 + b) (by omega))]
theorem S_barF (hs : s < 8) (h : shF sh rm s) : M_X3_hasBarIn N sh (nI s) = some 0 := by
  unfold M_X3_hasBarIn
  rw [S_held hs, Option.bind_some, h.2]
  rfl
theorem S_barR (hs : s < 8) (h : shR sh rm s k z) : M_X3_hasBarIn N sh (nI s) = some 0 := by
  unfold M_X3_hasBarIn
  have := h.2.1
  rw [S_held hs, Option.bind_some, h.2.2.2.1, if_pos (show nI k < (10 : Int32) from nI_lt (b := 10) (by omega) (by omega))]
theorem S_barB (hs : s < 8) (h : shB sh rm nb s b) (hb : nb ≤ 4) : M_X3_hasBarIn N sh (nI s) = some 1 := by
  unfold M_X3_hasBarIn
  have := h.2.1
  rw [S_held hs, Option.bind_some, h.2.2.1, if_neg (show ¬ nI (10 + b) < (10 : Int32) from nI_nlt (b := 10) (by omega) (by omega))]
theorem S_binF (hs : s < 8) (h : shF sh rm s) : M_X3_barIn N sh (nI s) = some (-1) := by
  unfold M_X3_barIn
  rw [S_held hs, Option.bind_some, h.2]
  rfl
theorem S_binR (hs : s < 8) (h : shR sh rm s k z) : M_X3_barIn N sh (nI s) = some (-1) := by
  unfold M_X3_barIn
  have := h.2.1
  rw [S_held hs, Option.bind_some, h.2.2.2.1, if_pos (show nI k < (10 : Int32) from nI_lt (b := 10) (by omega) (by omega))]
theorem S_binB (hs : s < 8) (h : shB sh rm nb s b) (hb : nb ≤ 4) : M_X3_barIn N sh (nI s) = some (nI b) := by
  unfold M_X3_barIn
  have := h.2.1
  rw [S_held hs, Option.bind_some, h.2.2.1, if_neg (show ¬ nI (10 + b) < (10 : Int32) from nI_nlt (b := 10) (by omega) (by omega)), Nat.add_comm 10 b, nI_subs (k := 10) (q := 10) rfl]
theorem S_rowF (hs : s < 8) (h : shF sh rm s) : M_X3_hasRowIn N sh (nI s) = some 0 := by
  unfold M_X3_hasRowIn
  rw [if_neg (nI_pos (by omega)), if_neg (show ¬ ((8 : Int32) ≤ nI s) from nI_ge (b := 8) (by omega) (by omega)), if_neg (S_in hs), S_cl hs, h.2]
  rfl
theorem S_rowR (hs : s < 8) (h : shR sh rm s k z) : M_X3_hasRowIn N sh (nI s) = some 1 := by
  unfold M_X3_hasRowIn
  have := h.2.1
  rw [if_neg (nI_pos (by omega)), if_neg (show ¬ ((8 : Int32) ≤ nI s) from nI_ge (b := 8) (by omega) (by omega)), if_neg (S_in hs), if_neg (S_in hs), S_cl hs, h.2.2.2.1, if_neg (nI_nem k (by omega)), if_neg (show ¬ ((10 : Int32) ≤ nI k) from nI_ge (b := 10) (by omega) (by omega))]
theorem S_rowB (hs : s < 8) (h : shB sh rm nb s b) (hb : nb ≤ 4) : M_X3_hasRowIn N sh (nI s) = some 0 := by
  unfold M_X3_hasRowIn
  have := h.2.1
  rw [if_neg (nI_pos (by omega)), if_neg (show ¬ ((8 : Int32) ≤ nI s) from nI_ge (b := 8) (by omega) (by omega)), if_neg (S_in hs), if_neg (S_in hs), S_cl hs, h.2.2.1, if_neg (nI_nem _ (by omega)), if_pos (show ((10 : Int32) ≤ nI (10 + b)) from nI_le (a := 10) (by omega) (by omega))]
theorem S_norow (hp : ¬ vI 8 p) : M_X3_hasRowIn N sh p = some 0 := by
  unfold M_X3_hasRowIn
  rw [vI_int (by omega)] at hp
  by_cases h1 : p < 0
  · rw [if_pos h1]
  · rw [if_neg h1, if_pos]
    rw [le_toInt, show (8 : Int32).toInt = 8 from rfl]
    rw [lt_toInt, show (0 : Int32).toInt = 0 from rfl] at h1
    omega
theorem S_cells0 (h : M_X3_hasRowIn N sh p = some 0) {i n : Int32} : M_X3_hasCells N sh p i n = some 0 := by
  unfold M_X3_hasCells
  rw [h, Option.bind_some, if_pos rfl]
theorem subI {a b : Int32} (h1 : 0 ≤ a.toInt) (h2 : 0 ≤ b.toInt) : (a - b).toInt = a.toInt - b.toInt := by
  have := a.toInt_lt
  have := b.toInt_lt
  rw [Int32.toInt_sub]
  simp only [Int.bmod]
  omega
theorem S_cellsR (hs : s < 8) (h : shR sh rm s k z) {i n : Int32} : M_X3_hasCells N sh (nI s) i n = some (if 0 ≤ i.toInt ∧ 0 ≤ n.toInt ∧ i.toInt + n.toInt ≤ z then 1 else 0) := by
  unfold M_X3_hasCells
  have := h.2.2.1
  rw [S_rowR hs h, Option.bind_some, if_neg (by decide), if_neg (S_in hs), if_neg (S_in hs), S_cl hs, h.2.2.2.2.2.1]
  simp only [lt_toInt, show (0 : Int32).toInt = 0 from rfl, nI_toInt (show z < 2 ^ 31 by omega)]
  by_cases h1 : i.toInt < 0
  · rw [if_pos h1, if_neg (by omega)]
  · rw [if_neg h1]
    by_cases h2 : n.toInt < 0
    · rw [if_pos h2, if_neg (by omega)]
    · rw [if_neg h2]
      by_cases h3 : (z : Int) < n.toInt
      · rw [if_pos h3, if_neg (by omega)]
      · rw [if_neg h3, subI (by rw [nI_toInt (by omega)]; omega) (by omega), nI_toInt (by omega)]
        by_cases h4 : (z : Int) - n.toInt < i.toInt
        · rw [if_pos h4, if_neg (by omega)]
        · rw [if_neg h4, if_pos (by omega)]
theorem S_cells1 (hs : s < 8) (h : shR sh rm s k z) (hq : vI z q) : M_X3_hasCells N sh (nI s) q 1 = some 1 := by
  have := h.2.2.1
  rw [vI_int (by omega)] at hq
  rw [S_cellsR hs h, if_pos]
  have : (1 : Int32).toInt = 1 := rfl
  omega
theorem S_cells2 (hs : s < 8) (h : shR sh rm s k z) (hq : ¬ vI z q) : M_X3_hasCells N sh (nI s) q 1 = some 0 := by
  have := h.2.2.1
  rw [vI_int (by omega)] at hq
  rw [S_cellsR hs h, if_neg]
  have : (1 : Int32).toInt = 1 := rfl
  omega
theorem at40 {s i : Nat} (hs : s < 8) (hi : i < 2 ^ 20) : (nI s * (40 : Int32)) + nI i = nI (s * 40 + i) := by
  have : ∀ s, s < 8 → nI s * (40 : Int32) = nI (s * 40) := by decide +kernel
  rw [this s hs, nI_add]
theorem S_cell (hs : s < 8) (h : shR sh rm s k z) {i : Nat} (hi : i < z) : M_X3_cell N sh (nI s) (nI i) = some (RM_rows rm s i) := by
  have := h.2.2.1
  unfold M_X3_cell
  rw [S_cells1 hs h ⟨i, hi, rfl⟩, Option.bind_some, if_neg (by decide), at40 hs (by omega), if_neg (nI_in (by omega) (by omega)), nI_clamp (by omega), h.2.2.2.2.2.2.2 i hi]
theorem S_cell0 {i : Int32} (h : M_X3_hasCells N sh p i 1 = some 0) : M_X3_cell N sh p i = some 0 := by
  unfold M_X3_cell
  rw [h, Option.bind_some, if_pos rfl]
end SHELF
