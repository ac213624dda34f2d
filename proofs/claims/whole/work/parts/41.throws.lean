/-! ===== the exceptions that the program throws ===== -/
def thrB (ic : Nat) (E : String) : Bool := (vx_atS RX8 ic E xnm).all (fun w => vx_ot w && (goodWord w || exOk w) && decide (w ∈ tables_1))
theorem thr_of {ik ic : Nat} {E : String} (h1 : Bundle.fit E = true) (h2 : Cond.classLink RX8 ik E ∈ TSg) (h3 : Cond.initialized E ∈ TSg) (h4 : thrB ic E = true) : THR ik ic E := by
  refine ⟨h1, h2, h3, fun w hw => ?_⟩
  have h5 := List.all_eq_true.mp h4 w hw
  simp only [Bool.and_eq_true, Bool.or_eq_true, decide_eq_true_eq] at h5
  obtain ⟨⟨a, b⟩, c⟩ := h5
  refine ⟨a, ?_⟩
  rcases b with b | b
  · exact Or.inl (tsg (List.mem_append_right _ c) b)
  · exact Or.inr ⟨b, List.mem_append_right _ c⟩
abbrev EIAE : String := "java/lang/IllegalArgumentException"
theorem tIAE : THR 86 90 EIAE := thr_of (by decide +kernel) (tj2 204 (by rfl) rfl) (tj1 14 (by rfl) rfl) (by decide +kernel)
abbrev EISE : String := "java/lang/IllegalStateException"
theorem tISE : THR 154 158 EISE := thr_of (by decide +kernel) (tj3 135 (by rfl) rfl) (tj1 19 (by rfl) rfl) (by decide +kernel)
abbrev EIOO : String := "java/lang/IndexOutOfBoundsException"
theorem tIOO : THR 113 117 EIOO := thr_of (by decide +kernel) (tj3 72 (by rfl) rfl) (tj1 16 (by rfl) rfl) (by decide +kernel)
abbrev ENSE : String := "java/util/NoSuchElementException"
abbrev EARI : String := "java/lang/ArithmeticException"
theorem tARI : THR 172 176 EARI := thr_of (by decide +kernel) (tj3 237 (by rfl) rfl) (tj1 20 (by rfl) rfl) (by decide +kernel)
