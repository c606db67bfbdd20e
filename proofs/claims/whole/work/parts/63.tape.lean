/-! the tape: tokens -/
def isL (x : Nat) : Bool := decide (97 ≤ x) && decide (x ≤ 122)
def isD (x : Nat) : Bool := decide (48 ≤ x) && decide (x ≤ 57)
theorem C_isL : ∀ x, x < 256 → M_X4_isLetter NN (nI x) = some (oB (isL x)) := by decide +kernel
theorem C_isD : ∀ x, x < 256 → M_X4_isDigit NN (nI x) = some (oB (isD x)) := by decide +kernel
theorem R_isL : ∀ x, x < 256 → M_X6_isLetter NN (nI x) = some (oB (isL x)) := by decide +kernel
theorem R_isD : ∀ x, x < 256 → M_X6_isDigit NN (nI x) = some (oB (isD x)) := by decide +kernel
def sk (P : Nat → Bool) (c : Nat → Nat) (z p : Nat) : Nat := p + fa_first (fun k => !P (c (p + k))) (z - p)
theorem sk_le (P : Nat → Bool) (c : Nat → Nat) {z p : Nat} (h : p ≤ z) : p ≤ sk P c z p ∧ sk P c z p ≤ z := by
  have := fa_first_le (fun k => !P (c (p + k))) (z - p)
  unfold sk
  omega
theorem sk_in {P : Nat → Bool} {c : Nat → Nat} {z p i : Nat} (h1 : p ≤ i) (h2 : i < sk P c z p) : P (c i) = true := by
  unfold sk at h2
  have := fa_first_no (fun k => !P (c (p + k))) (z - p) (i - p) (by omega)
  rw [show p + (i - p) = i by omega] at this
  simpa using this
theorem sk_at {P : Nat → Bool} {c : Nat → Nat} {z p : Nat} (h2 : sk P c z p < z) : P (c (sk P c z p)) = false := by
  unfold sk at h2 ⊢
  have := fa_first_yes (fun k => !P (c (p + k))) (z - p) (by omega)
  simpa using this
def ty (c : Nat → Nat) (z s : Nat) : Nat := if s = z then 0 else if isL (c s) then 1 else if isD (c s) then 2 else if c s = 59 then 3 else 4
def te (c : Nat → Nat) (z s : Nat) : Nat := if s = z then s else if isL (c s) then sk isL c z s else if isD (c s) then sk isD c z s else if c s = 59 then s + 1 else s
def ts (c : Nat → Nat) (z p : Nat) : Nat := sk (fun x => x == 32) c z p
def vN (c : Nat → Nat) (s : Nat) : Nat → Nat
  | 0 => 0
  | k + 1 => vN c s k * 10 + c (s + k) - 48
def vI' (c : Nat → Nat) (s : Nat) : Nat → Int32
  | 0 => 0
  | k + 1 => vI' c s k * 10 + nI (c (s + k)) - 48
def TpC (tp : TP) (c : Nat → Nat) (z : Nat) : Prop := TP_size tp = nI z ∧ ∀ i, i < z → TP_bytes tp i = nI (c i)
def RpC (r : RM) (c : Nat → Nat) (z : Nat) : Prop := RM_tapeSize r = nI z ∧ ∀ i, i < z → RM_tape r i = nI (c i)
def Bt (c : Nat → Nat) (z : Nat) : Prop := z ≤ 250 ∧ ∀ i, c i < 256
def CT (tp : TP) (c : Nat → Nat) (z s : Nat) : Prop := TpC tp c z ∧ TP_start tp = nI s ∧ TP_type tp = nI (ty c z s) ∧ TP_at tp = nI (te c z s) ∧ (ty c z s = 2 → TP_value tp = vI' c s (te c z s - s))
theorem x59 : ∀ x, x < 256 → (nI x = (59 : Int32) ↔ x = 59) := by decide +kernel
theorem x32 : ∀ x, x < 256 → (nI x = (32 : Int32) ↔ x = 32) := by decide +kernel
theorem ty_z (c : Nat → Nat) (z : Nat) : ty c z z = 0 ∧ te c z z = z := ⟨if_pos rfl, if_pos rfl⟩
theorem ty_L {c : Nat → Nat} {z s : Nat} (h : s ≠ z) (g : isL (c s) = true) : ty c z s = 1 ∧ te c z s = sk isL c z s := by
  unfold ty te
  simp only [h, g, if_true, if_false, and_self]
theorem ty_D {c : Nat → Nat} {z s : Nat} (h : s ≠ z) (g : isL (c s) = false) (g2 : isD (c s) = true) : ty c z s = 2 ∧ te c z s = sk isD c z s := by
  unfold ty te
  simp only [h, g, g2, if_true, if_false, and_self, Bool.false_eq_true]
theorem ty_S {c : Nat → Nat} {z s : Nat} (h : s ≠ z) (g : c s = 59) : ty c z s = 3 ∧ te c z s = s + 1 := by
  have g1 : isL (c s) = false := by rw [g]; decide
  have g2 : isD (c s) = false := by rw [g]; decide
  unfold ty te
  simp only [h, g1, g2, if_false, Bool.false_eq_true]
  rw [g]
  exact ⟨rfl, rfl⟩
theorem ty_O {c : Nat → Nat} {z s : Nat} (h : s ≠ z) (g : isL (c s) = false) (g2 : isD (c s) = false) (g3 : c s ≠ 59) : ty c z s = 4 ∧ te c z s = s := by
  unfold ty te
  simp only [h, g, g2, g3, if_false, Bool.false_eq_true, and_self]
section TAPE
variable {c : Nat → Nat} {z : Nat}
theorem C_byte (b : Bt c z) {tp : TP} (h : TpC tp c z) {i : Nat} (hi : i < z) : M_X4_byteAt NN tp (nI i) = some (nI (c i)) := by
  have := b.1
  unfold M_X4_byteAt
  rw [h.1, if_neg (nI_pos (by omega)), if_neg (by rw [nI_leI (by omega) (by omega)]; omega), if_neg (show ¬ (250 : Int32) ≤ nI i from nI_ge (b := 250) (by omega) (by omega)), if_neg (nI_in (by omega) (by omega)), nI_clamp (by omega), h.2 i hi]
theorem C_byteE (b : Bt c z) {tp : TP} (h : TpC tp c z) : M_X4_byteAt NN tp (nI z) = some (-1) := by
  have := b.1
  unfold M_X4_byteAt
  rw [h.1, if_neg (nI_pos (by omega)), if_pos (by exact Int32.le_refl _)]
theorem C_word (b : Bt c z) {tp : TP} (h : TpC tp c z) {s : Nat} (hs : s ≤ z) (ha : TP_at tp = nI s) : ∃ tp', lp (M_X4_readToken_l109 NN) NN tp = some tp' ∧ TpC tp' c z ∧ TP_start tp' = TP_start tp ∧ TP_type tp' = TP_type tp ∧ TP_at tp' = nI (sk isL c z s) := by
  have hz := b.1
  obtain ⟨k1, k2⟩ := sk_le isL c hs
  obtain ⟨o, hq, hl⟩ := lp_inv (body := M_X4_readToken_l109 NN) (N := NN) (P := fun i Z => TpC Z c z ∧ TP_start Z = TP_start tp ∧ TP_type Z = TP_type tp ∧ TP_at Z = nI (s + i)) (Qr := fun o => TpC o c z ∧ TP_start o = TP_start tp ∧ TP_type o = TP_type tp ∧ TP_at o = nI (sk isL c z s)) (sk isL c z s - s)
    (fun i Z hi hP => by
      obtain ⟨p1, p2, p3, p4⟩ := hP
      refine Or.inl ⟨TP_s_at Z (TP_at Z + 1), ⟨p1, p2, p3, ?_⟩, fun rec => ?_⟩
      · show TP_at Z + 1 = _
        rw [p4, nI_1]
        rfl
      · unfold M_X4_readToken_l109
        rw [p1.1, p4, if_neg (by rw [nI_leI (by omega) (by omega)]; omega), C_byte b p1 (by omega), Option.bind_some, C_isL _ (b.2 _), Option.bind_some, sk_in (P := isL) (c := c) (z := z) (p := s) (i := s + i) (by omega) (by omega), if_neg (show ¬ oB true = 0 by decide)])
    (fun Z hP => by
      obtain ⟨p1, p2, p3, p4⟩ := hP
      rw [show s + (sk isL c z s - s) = sk isL c z s by omega] at p4
      refine ⟨Z, ⟨p1, p2, p3, p4⟩, fun rec => ?_⟩
      unfold M_X4_readToken_l109
      rw [p1.1, p4]
      by_cases e : sk isL c z s = z
      · rw [e, if_pos (by exact Int32.le_refl _)]
      · rw [if_neg (by rw [nI_leI (by omega) (by omega)]; omega), C_byte b p1 (by omega), Option.bind_some, C_isL _ (b.2 _), Option.bind_some, sk_at (P := isL) (c := c) (z := z) (p := s) (by omega), if_pos (by decide)])
    (by show _ < 5000; omega) (z := tp) ⟨h, rfl, rfl, ha⟩
  exact ⟨o, hl, hq⟩
theorem C_figs (b : Bt c z) {tp : TP} (h : TpC tp c z) {s : Nat} (hs : s ≤ z) (ha : TP_at tp = nI s) (hv : TP_value tp = 0) : ∃ tp', lp (M_X4_readToken_l164 NN) NN tp = some tp' ∧ TpC tp' c z ∧ TP_start tp' = TP_start tp ∧ TP_type tp' = TP_type tp ∧ TP_at tp' = nI (sk isD c z s) ∧ TP_value tp' = vI' c s (sk isD c z s - s) := by
  have hz := b.1
  obtain ⟨k1, k2⟩ := sk_le isD c hs
  obtain ⟨o, hq, hl⟩ := lp_inv (body := M_X4_readToken_l164 NN) (N := NN) (P := fun i Z => TpC Z c z ∧ TP_start Z = TP_start tp ∧ TP_type Z = TP_type tp ∧ TP_at Z = nI (s + i) ∧ TP_value Z = vI' c s i) (Qr := fun o => TpC o c z ∧ TP_start o = TP_start tp ∧ TP_type o = TP_type tp ∧ TP_at o = nI (sk isD c z s) ∧ TP_value o = vI' c s (sk isD c z s - s)) (sk isD c z s - s)
    (fun i Z hi hP => by
      obtain ⟨p1, p2, p3, p4, p5⟩ := hP
      refine Or.inl ⟨TP_s_at (TP_s_value Z ((TP_value Z * 10 + nI (c (s + i))) - 48)) (TP_at (TP_s_value Z ((TP_value Z * 10 + nI (c (s + i))) - 48)) + 1), ⟨p1, p2, p3, ?_, ?_⟩, fun rec => ?_⟩
      · show TP_at Z + 1 = _
        rw [p4, nI_1]
        rfl
      · show TP_value Z * 10 + nI (c (s + i)) - 48 = _
        rw [p5]
        rfl
      · unfold M_X4_readToken_l164
        rw [p1.1, p4, if_neg (by rw [nI_leI (by omega) (by omega)]; omega), C_byte b p1 (by omega), Option.bind_some, C_isD _ (b.2 _), Option.bind_some, sk_in (P := isD) (c := c) (z := z) (p := s) (i := s + i) (by omega) (by omega), if_neg (show ¬ oB true = 0 by decide), Option.bind_some])
    (fun Z hP => by
      obtain ⟨p1, p2, p3, p4, p5⟩ := hP
      rw [show s + (sk isD c z s - s) = sk isD c z s by omega] at p4
      refine ⟨Z, ⟨p1, p2, p3, p4, p5⟩, fun rec => ?_⟩
      unfold M_X4_readToken_l164
      rw [p1.1, p4]
      by_cases e : sk isD c z s = z
      · rw [e, if_pos (by exact Int32.le_refl _)]
      · rw [if_neg (by rw [nI_leI (by omega) (by omega)]; omega), C_byte b p1 (by omega), Option.bind_some, C_isD _ (b.2 _), Option.bind_some, sk_at (P := isD) (c := c) (z := z) (p := s) (by omega), if_pos (by decide)])
    (by show _ < 5000; omega) (z := tp) ⟨h, rfl, rfl, ha, hv⟩
  exact ⟨o, hl, hq⟩
theorem C_j37 (b : Bt c z) {tp : TP} (h : TpC tp c z) {s : Nat} (hs : s ≤ z) (ha : TP_at tp = nI s) : ∃ tp', M_X4_readToken_j37 NN tp = some tp' ∧ CT tp' c z s := by
  have hz := b.1
  unfold M_X4_readToken_j37
  rw [ha]
  have h0 : TpC (TP_s_start tp (nI s)) c z := h
  have a0 : TP_at (TP_s_start tp (nI s)) = nI s := ha
  have s0 : TP_start (TP_s_start tp (nI s)) = nI s := rfl
  generalize TP_s_start tp (nI s) = t at h0 a0 s0
  rw [a0, h0.1]
  unfold CT
  by_cases e : s = z
  · subst e
    obtain ⟨y1, y2⟩ := ty_z c s
    rw [C_byteE b h0, Option.bind_some, if_neg (by rw [nI_ltI (by omega) (by omega)]; omega), y1, y2]
    exact ⟨_, rfl, h0, s0, rfl, a0, fun w => by cases w⟩
  · rw [C_byte b h0 (by omega), Option.bind_some, if_pos (by rw [nI_ltI (by omega) (by omega)]; omega)]
    have hb := b.2 s
    by_cases g : c s = 59
    · obtain ⟨y1, y2⟩ := ty_S (z := z) e g
      rw [if_neg (not_not_intro ((x59 _ hb).mpr g)), y1, y2]
      refine ⟨_, rfl, h0, s0, rfl, ?_, fun w => by cases w⟩
      show TP_at t + 1 = _
      rw [a0, nI_1]
    · rw [if_pos (fun w => g ((x59 _ hb).mp w)), C_isL _ hb, Option.bind_some, C_isD _ hb]
      cases g1 : isL (c s)
      · rw [if_pos (show oB false = 0 by decide), Option.bind_some]
        cases g2 : isD (c s)
        · obtain ⟨y1, y2⟩ := ty_O e g1 g2 g
          rw [if_pos (show oB false = 0 by decide), y1, y2]
          exact ⟨_, rfl, h0, s0, rfl, a0, fun w => by cases w⟩
        · obtain ⟨y1, y2⟩ := ty_D e g1 g2
          rw [if_neg (show ¬ oB true = 0 by decide), y1, y2]
          obtain ⟨t', w1, w2, w3, w4, w5, w6⟩ := C_figs b (tp := TP_s_value (TP_s_type t 2) 0) h0 hs a0 rfl
          exact ⟨t', w1, w2, w3.trans s0, w4, w5, fun _ => w6⟩
      · obtain ⟨y1, y2⟩ := ty_L e g1
        rw [if_neg (show ¬ oB true = 0 by decide), y1, y2]
        obtain ⟨t', w1, w2, w3, w4, w5⟩ := C_word b (tp := TP_s_type t 1) h0 hs a0
        exact ⟨t', w1, w2, w3.trans s0, w4, w5, fun w => by cases w⟩
theorem C_read (b : Bt c z) {tp : TP} (h : TpC tp c z) {p : Nat} (hp : p ≤ z) (ha : TP_at tp = nI p) : ∃ tp', M_X4_readToken NN tp = some tp' ∧ CT tp' c z (ts c z p) := by
  have hz := b.1
  obtain ⟨k1, k2⟩ := sk_le (fun x => x == 32) c hp
  unfold M_X4_readToken ts
  obtain ⟨o, hq, hl⟩ := lp_inv (body := M_X4_readToken_l0 NN) (N := NN) (P := fun i Z => TpC Z c z ∧ TP_at Z = nI (p + i)) (Qr := fun o => CT o c z (sk (fun x => x == 32) c z p)) (sk (fun x => x == 32) c z p - p)
    (fun i Z hi hP => by
      obtain ⟨p1, p4⟩ := hP
      refine Or.inl ⟨TP_s_at Z (TP_at Z + 1), ⟨p1, ?_⟩, fun rec => ?_⟩
      · show TP_at Z + 1 = _
        rw [p4, nI_1]
        rfl
      · have hx := sk_in (P := fun x => x == 32) (c := c) (z := z) (p := p) (i := p + i) (by omega) (by omega)
        have hx : c (p + i) = 32 := beq_iff_eq.mp hx
        unfold M_X4_readToken_l0
        rw [p1.1, p4, if_neg (by rw [nI_leI (by omega) (by omega)]; omega), C_byte b p1 (by omega), Option.bind_some, hx, if_neg (show ¬ ¬ nI 32 = (32 : Int32) from not_not_intro rfl)])
    (fun Z hP => by
      obtain ⟨p1, p4⟩ := hP
      rw [show p + (sk (fun x => x == 32) c z p - p) = sk (fun x => x == 32) c z p by omega] at p4
      obtain ⟨t', w1, w2⟩ := C_j37 b p1 k2 p4
      refine ⟨t', w2, fun rec => ?_⟩
      unfold M_X4_readToken_l0
      rw [p1.1, p4]
      by_cases e : sk (fun x => x == 32) c z p = z
      · rw [if_pos (by rw [e]; exact Int32.le_refl _), w1]
      · have hx := sk_at (P := fun x => x == 32) (c := c) (z := z) (p := p) (by omega)
        have hx : ¬ c (sk (fun x => x == 32) c z p) = 32 := fun w => by rw [w] at hx; cases hx
        have hb := b.2 (sk (fun x => x == 32) c z p)
        rw [if_neg (by rw [nI_leI (by omega) (by omega)]; omega), C_byte b p1 (by omega), Option.bind_some, if_pos (show ¬ nI (c (sk (fun x => x == 32) c z p)) = (32 : Int32) from fun w => hx ((x32 _ hb).mp w)), w1])
    (by show _ < 5000; omega) (z := tp) ⟨h, ha⟩
  exact ⟨o, hl, hq⟩
end TAPE
