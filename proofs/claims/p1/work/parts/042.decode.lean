theorem px_mt_dec : ∀ M ∈ px_mt, px_okD M = true := sorry
theorem px_dec_of {M : px_M} (h : px_okD M = true) (pc : Nat) (i : Instr) (n : Nat) (hi : px_ins M pc = some (i, n)) : decode (px_cc M) pc = .ok (i, n) := by
  unfold px_okD at h
  unfold px_ins at hi
  obtain ⟨r, hr, hm⟩ := px_as2_mem (px_is M) (pc / 64) pc (i, n) hi
  rw [List.all_eq_true] at h
  have h1 := h r (List.mem_of_getElem? hr)
  rw [List.all_eq_true] at h1
  have h2 := h1 (pc, i, n) hm
  rw [decide_eq_true_eq] at h2
  exact h2
theorem pd_law : px_okD pm_law = true := sorry
