theorem p_w {s : State} {A : Array Value} (hg : (Jvm.Cond.and given_1 narrow_1).before A s = true) {w : Cond} (h : pWs.contains w = true) : w.before A s = true := flat_of_before _ hg w (show w ∈ pWs by simpa using h)
theorem p_eqr {a b : Term} {q : Nat} {A : Array Value} {s : State} (h : (Cond.eq a b).before A s = true) (ha : a.eval A s none [] s = some (.ref q)) : b.eval A s none [] s = some (.ref q) := by
  simp only [Cond.before, Cond.holds, Cond.value, ha] at h
  cases hb : b.eval A s none [] s with
  | none => simp [hb] at h
  | some v => cases v <;> simp_all
theorem p_ref {A : Array Value} {s : State} {own : String} {k a : Nat} (h : (Term.string own k).eval A s none [] s = some (.ref a)) : (Term.string own k).eval #[] s none [] s = some (.ref a) := h
theorem p_arr {A : Array Value} {s : State} {ty : FieldType} (hn : ∀ C, ty ≠ .object C) (h : (Cond.arrayClass ty).before A s = true) : ∃ cA : ClassId, ArrOfT s cA ty ∧ va_RA s cA ty := by
  obtain ⟨c, k, comp, h1, h2, h3⟩ := Cond.arrayClass_spec h
  refine ⟨c, fun n z => ⟨fun k h => (by cases h), k, h2, comp, h3⟩, ?_⟩
  cases ty with
  | object C => exact absurd rfl (hn C)
  | _ => exact h1
theorem p_arr2 {A : Array Value} {s : State} {ty : FieldType} (h : (Cond.arrayOver (.array ty)).before A s = true) : ∃ cA : ClassId, ArrOfT s cA (.array ty) ∧ va_RA s cA (.array ty) := by
  obtain ⟨comp, c, k, h1, h2, h3, h4⟩ := Cond.arrayOver_specA h
  exact ⟨c, fun n z => ⟨fun k h => (by cases h), k, h2, comp, h3⟩, h4⟩
theorem p_ga {i : Nat} (hi : i < 6) : pWs.contains (Cond.exactly (pTm i) "java/lang/String") = true ∧ pWs.contains (Cond.eq (.field (pTm i) "java/lang/String" "coder" "B") (.int 0)) = true ∧ pWs.contains (Cond.arrayOf (.field (pTm i) "java/lang/String" "value" "[B") .byte) = true ∧ pWs.contains (Cond.eq (.length (.field (pTm i) "java/lang/String" "value" "[B")) (.int (Int32.ofNat (kLen.getD i 0)))) = true ∧ pWs.contains (Cond.eq (pTm i) (pTn i)) = true ∧ kLen.getD i 0 < 2 ^ 31 := by
  have h := List.all_eq_true.mp pExa_ok i (List.mem_range.mpr hi)
  simp only [Bool.and_eq_true, decide_eq_true_eq] at h
  exact ⟨h.1.1.1.1.1, h.1.1.1.1.2, h.1.1.1.2, h.1.1.2, h.1.2, h.2⟩
theorem p_gb {i j : Nat} (hi : i < 6) (hj : j < kLen.getD i 0) : pWs.contains (Cond.eq (.elem (.field (pTm i) "java/lang/String" "value" "[B") (.int (Int32.ofNat j))) (.int ((kByt.getD i []).getD j 0))) = true :=
  List.all_eq_true.mp (List.all_eq_true.mp pExb_ok i (List.mem_range.mpr hi)) j (List.mem_range.mpr hj)
theorem p_gc {i j : Nat} (hi : i < 6) (hj : j < 6) (hne : i ≠ j) : pWs.contains (pK2 i j) = true ∨ pWs.contains (pK2 j i) = true := by
  have h := List.all_eq_true.mp (List.all_eq_true.mp pExc_ok i (List.mem_range.mpr hi)) j (List.mem_range.mpr hj)
  simp only [Bool.or_eq_true, beq_iff_eq] at h
  rcases h with (h | h) | h
  · exact absurd h hne
  · exact Or.inl h
  · exact Or.inr h
