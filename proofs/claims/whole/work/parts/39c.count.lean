/-! counts of bits, tried out -/
def pc (s : Nat) : Nat := fb_ct (fun i => s.testBit i) 10
set_option maxRecDepth 10000 in
theorem B_cnt : ∀ s, s < 1024 → ∀ N, M_J6_bitCount_0f7a4 N (nI s) = some (nI (pc s)) := by
  have h : ∀ s, s < 1024 → M_J6_bitCount_0f7a4 0 (nI s) = some (nI (pc s)) := by decide +kernel
  exact fun s hs N => h s hs
set_option maxRecDepth 10000 in
theorem B_bits : ∀ s, s < 1024 → M_X6_bits NN (nI s) = some (nI (pc s)) := by decide +kernel
set_option maxRecDepth 10000 in
theorem B_cntL : ∀ s, s < 1024 → ∀ c, c < 2 → M_J6_bitCount_0f7a4 0 (nI (s + 1048576 * c)) = some (nI (pc s + c)) := by decide +kernel
