/-! the law of one bar, tried out -/
abbrev PL : Type := Nat × Nat × Nat × (Nat → Nat) × (Nat → Nat)
def ch (s m : Nat) : Bool := m == 0 || s % 2 ^ m == 2 ^ (m - 1)
def tu (z s : Nat) : Nat := bs (fun j => s.testBit (z - 1 - j)) z
def af (z s m : Nat) : Bool := ch (tu z s) (z - 1 - m)
def td (M X : Nat → Nat) (s m : Nat) : Bool := (nI (M m) &&& (nI s ^^^ -1) == 0) && (nI (X m) &&& nI s == 0)
def bk (q : PL) (s m : Nat) : Bool := if q.1 = 0 then true else if q.1 = 5 then td q.2.2.2.1 q.2.2.2.2 s m else if q.1 = 4 then af q.2.1 s m else if q.1 = 3 then ch s m || af q.2.1 s m else ch s m
def bo (q : PL) (s : Nat) : Bool := q.1 == 2 && decide (2 ≤ q.2.1) && q.2.2.1 % 4 == 0 && (s % 4 == 0 || s % 4 == 3)
def lgl (q : PL) (s m : Nat) : Bool := if m = 20 then bo q s else decide (m < q.2.1) && !q.2.2.1.testBit m && bk q s m
def mvb (q : PL) (m : Nat) : Bool := decide (m < q.2.1) || (m == 20 && q.1 == 2 && decide (2 ≤ q.2.1))
def lg (q : PL) (s : Nat) : Nat := bs (lgl q s) 21
def mk (m : Nat) : Nat := if m = 20 then 3 else 2 ^ m
theorem L_chain : ∀ s, s < 1024 → ∀ m, m < 10 → bt ((1 : Int32) ||| ((nI s &&& (-nI s)) <<< ((1 : Int32) &&& 31))) m = ch s m := by decide +kernel
def afR (z s : Nat) : Option Int32 := M_X1_afterRings NN (0, nI z, 0, fun _ => 0, fun _ => 0) (nI s)
set_option maxRecDepth 10000 in
theorem L_after : ∀ z, z < 11 → ∀ s, s < 2 ^ z → ∀ m, m < z → (afR z s).map (fun x => bt x m) = some (af z s m) := by decide +kernel
set_option maxRecDepth 10000 in
theorem L_turn : ∀ z, z < 11 → ∀ s, s < 2 ^ z → M_X6_turned NN (nI s) (nI z) = some (nI (tu z s)) := by decide +kernel
set_option maxRecDepth 10000 in
theorem L_turn5 : ∀ z, z < 11 → ∀ s, s < 2 ^ z → M_X5_turned NN (nI s) (nI z) = some (nI (tu z s)) := by decide +kernel
