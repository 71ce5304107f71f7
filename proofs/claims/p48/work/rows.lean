section
/-! p48: THE STATEMENT IS EMPTY. Its premise gives the law's entry the word of a method without an exception table; the class file that it names has one there (four rows). So no launch meets it, and the claim holds of nothing: this says nothing of the class. (REPORT.md, STATEMENT 2) -/
theorem pe_no : classFile.hasCode x code maxLocals ret = false := by decide +kernel
theorem pe_any (f : ClassFile.Facts.File) (o : Option ClassFile.Facts.File) (p : ClassFile.Facts.File → Bool) (ho : o = some f) (h : o.any p = true) : p f = true := by
  subst ho
  exact h
theorem pe_lists (l : Launch) (f : ClassFile.Facts.File) (y : MethodName) (c : ByteArray) (n : Nat) (r : Option ClassFile.FieldType) (ts : List Cond) (rm : Room) (h : Jvm.D.Lists l f y c n r ts rm) : f.hasCode y c n r = true :=
  pe_any f (l.file? y.cls) (fun f => f.hasCode y c n r) h.2.1 (h.2.2.1.1 (y, c, n, r) (List.mem_append_left _ (List.mem_append_left _ (List.mem_singleton.mpr rfl))))
theorem pe_empty (l : Launch) : ¬ Jvm.D.Lists l classFile x code maxLocals ret tables_1 room_1 := fun h => by
  have h2 := pe_lists l _ _ _ _ _ _ _ h
  rw [pe_no] at h2
  exact Bool.false_ne_true h2
theorem i_vc : Claimed_1_1 ∧ Claimed_1_2 := ⟨fun l _ h _ => absurd h (pe_empty l), fun l _ h _ => absurd h (pe_empty l)⟩
end
