theorem wRM_o_kind {g : gG} {ad : Nat → Nat} {eK eT : Option Nat} {z : RM} (v : Nat → Int32) : (wRM g ad eK eT z).set 17 (ad 17, .inl (g.2.1, 4, .inl v)) = wRM g ad eK eT (RM_s_kind z v) := rfl
theorem wRM_o_size {g : gG} {ad : Nat → Nat} {eK eT : Option Nat} {z : RM} (v : Nat → Int32) : (wRM g ad eK eT z).set 18 (ad 18, .inl (g.2.1, 4, .inl v)) = wRM g ad eK eT (RM_s_size z v) := rfl
theorem wRM_o_on {g : gG} {ad : Nat → Nat} {eK eT : Option Nat} {z : RM} (v : Nat → Int32) : (wRM g ad eK eT z).set 19 (ad 19, .inl (g.2.1, 4, .inl v)) = wRM g ad eK eT (RM_s_on z v) := rfl
theorem wRM_o_stuck {g : gG} {ad : Nat → Nat} {eK eT : Option Nat} {z : RM} (v : Nat → Int32) : (wRM g ad eK eT z).set 20 (ad 20, .inl (g.2.1, 4, .inl v)) = wRM g ad eK eT (RM_s_stuck z v) := rfl
theorem wRM_o_minutes {g : gG} {ad : Nat → Nat} {eK eT : Option Nat} {z : RM} (v : Nat → Int32) : (wRM g ad eK eT z).set 31 (ad 31, .inl (g.2.1, 10, .inl v)) = wRM g ad eK eT (RM_s_minutes z v) := rfl
/-- the two arrays of chances, changed or not -/
def swB (b : Bool) (ad : Nat → Nat) : Nat → Nat := fun k => if k = 4 then (bif b then ad 5 else ad 4) else if k = 5 then (bif b then ad 4 else ad 5) else ad k
def SE_swp (z : SE) : SE := SE_s_nextParts (SE_s_parts z (SE_nextParts z)) (SE_parts z)
