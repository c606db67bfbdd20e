/-- a loop whose states are told, up to its last -/
theorem lp_for {S R : Type} {body : (S → Option R) → S → Option R} {r : Option R} (z : Nat → S) (n : Nat) (hs : ∀ i, i < n → ∀ rec : S → Option R, body rec (z i) = rec (z (i + 1))) (he : ∀ rec : S → Option R, body rec (z n) = r) {N : Nat} (hN : n < N) : lp body N (z 0) = r := by
  have key : ∀ (k i : Nat), i + k = n → ∀ M, k < M → lp body M (z i) = r := by
    intro k
    induction k with
    | zero =>
      intro i hi M hM
      obtain ⟨M, rfl⟩ : ∃ M', M = M' + 1 := ⟨M - 1, by omega⟩
      rw [lp, show i = n by omega, he]
    | succ k ih =>
      intro i hi M hM
      obtain ⟨M, rfl⟩ : ∃ M', M = M' + 1 := ⟨M - 1, by omega⟩
      rw [lp, hs i (by omega)]
      exact ih (i + 1) (by omega) M (by omega)
  exact key n 0 (by omega) N hN
/-- a loop with an invariant, that may end early -/
theorem lp_inv {S R : Type} {body : (S → Option R) → S → Option R} {P : Nat → S → Prop} {Qr : R → Prop} (n : Nat) (hs : ∀ i z, i < n → P i z → (∃ z', P (i + 1) z' ∧ ∀ rec : S → Option R, body rec z = rec z') ∨ ∃ r, Qr r ∧ ∀ rec : S → Option R, body rec z = some r) (he : ∀ z, P n z → ∃ r, Qr r ∧ ∀ rec : S → Option R, body rec z = some r) {N : Nat} (hN : n < N) {z : S} (hz : P 0 z) : ∃ r, Qr r ∧ lp body N z = some r := by
  have key : ∀ (k i : Nat), i + k = n → ∀ M, k < M → ∀ z, P i z → ∃ r, Qr r ∧ lp body M z = some r := by
    intro k
    induction k with
    | zero =>
      intro i hi M hM z hz
      obtain ⟨M, rfl⟩ : ∃ M', M = M' + 1 := ⟨M - 1, by omega⟩
      obtain rfl : i = n := by omega
      obtain ⟨r, h1, h2⟩ := he z hz
      exact ⟨r, h1, by rw [lp, h2]⟩
    | succ k ih =>
      intro i hi M hM z hz
      obtain ⟨M, rfl⟩ : ∃ M', M = M' + 1 := ⟨M - 1, by omega⟩
      rcases hs i z (by omega) hz with ⟨z', h1, h2⟩ | ⟨r, h1, h2⟩
      · obtain ⟨r, h3, h4⟩ := ih (i + 1) (by omega) M (by omega) z' h1
        exact ⟨r, h3, by rw [lp, h2, h4]⟩
      · exact ⟨r, h1, by rw [lp, h2]⟩
  exact key n 0 (by omega) N hN z hz
/-- the bar of an evening, the evening -/
abbrev AE : Type := Nat × (Nat → Nat) × (Nat → Nat) × (Nat → Nat) × (Nat → Nat) × (Nat → Nat → Nat) × (Nat → Nat → Nat) × (Nat → Int32) × Int32 × Int32
def aN (a : AE) : Nat := a.1
def aK (a : AE) : Nat → Nat := a.2.1
def aZ (a : AE) : Nat → Nat := a.2.2.1
def aO (a : AE) : Nat → Nat := a.2.2.2.1
def aT (a : AE) : Nat → Nat := a.2.2.2.2.1
def aM (a : AE) : Nat → Nat → Nat := a.2.2.2.2.2.1
def aX (a : AE) : Nat → Nat → Nat := a.2.2.2.2.2.2.1
def aU (a : AE) : Nat → Int32 := a.2.2.2.2.2.2.2.1
def aV (a : AE) : Int32 := a.2.2.2.2.2.2.2.2.1
def aW (a : AE) : Int32 := a.2.2.2.2.2.2.2.2.2
def EvA (ev : EV) (a : AE) : Prop := EV_bars ev = nI (aN a) ∧ (∀ b, b < 4 → EV_kinds ev b = nI (aK a b) ∧ EV_sizes ev b = nI (aZ a b) ∧ EV_ons ev b = nI (aO a b) ∧ EV_stucks ev b = nI (aT a b) ∧ ∀ r, r < 10 → EV_musts ev (b * 10 + r) = nI (aM a b r) ∧ EV_nots ev (b * 10 + r) = nI (aX a b r)) ∧ (∀ r, r < 10 → EV_ringMinutes ev r = aU a r) ∧ EV_moved ev = aV a ∧ EV_seed ev = aW a
def RmA (rm : RM) (a : AE) : Prop := RM_bars rm = nI (aN a) ∧ (∀ b, b < 4 → RM_kind rm b = nI (aK a b) ∧ RM_size rm b = nI (aZ a b) ∧ RM_on rm b = nI (aO a b) ∧ RM_stuck rm b = nI (aT a b) ∧ ∀ r, r < 10 → RM_must rm b r = nI (aM a b r) ∧ RM_not rm b r = nI (aX a b r)) ∧ (∀ r, r < 10 → RM_minutes rm r = aU a r) ∧ RM_movedAll rm = aV a ∧ RM_seed rm = aW a
def OkA (a : AE) : Prop := aN a ≤ 4 ∧ ∀ b, b < aN a → aK a b ≤ 5 ∧ 1 ≤ aZ a b ∧ aZ a b ≤ 10 ∧ aO a b < 2 ^ aZ a b ∧ aT a b < 2 ^ aZ a b ∧ ∀ r, r < 10 → aM a b r < 2 ^ aZ a b ∧ aX a b r < 2 ^ aZ a b
