section
/-! p48: THE STATEMENT IS EMPTY. Its premise gives the law's entry the word of a method without an exception table; the class file that it names has one there (four rows). So no launch meets it, and the claim holds of nothing: this says nothing of the class. (REPORT.md, STATEMENT 2) -/
theorem pe_no : classFile.hasCode x code maxLocals ret = false := by decide +kernel
theorem pe_empty (l : Launch) : ¬ Jvm.D.Lists l classFile x code maxLocals ret tables_1 room_1 := by
  intro h
  have h0 : (x, code, maxLocals, ret) ∈ (Cond.codes (Cond.code x code maxLocals ret) ++ Cond.codes (Jvm.D.allAtoms tables_1)) ++ Cond.codes Cond.tt := List.mem_append_left _ (List.mem_append_left _ (List.mem_singleton.mpr rfl))
  have h1 := h.2.2.1.1 (x, code, maxLocals, ret) h0
  rw [show l.file? (x, code, maxLocals, ret).1.cls = some classFile from h.2.1] at h1
  have h2 : classFile.hasCode x code maxLocals ret = true := h1
  rw [pe_no] at h2
  exact Bool.false_ne_true h2
theorem i_vc : Claimed_1_1 ∧ Claimed_1_2 := ⟨fun l _ h _ => absurd h (pe_empty l), fun l _ h _ => absurd h (pe_empty l)⟩
end
