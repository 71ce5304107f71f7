/-! WHAT ELSE THE TABLES SAY (wip/gen/words.py) -/
def px_st : List (Nat × (String × (Nat × Nat))) := [(30, ("urgency is not -9 to 9", (2, 237))), (41, ("there are 6 rules", (3, 33))), (55, ("sort, kind or n is out of its bounds", (3, 71))), (73, ("the rule is on or full", (3, 72))), (90, ("slot, test or v is out of its bounds", (3, 97))), (92, ("the rule is on", (3, 98))), (98, ("kind is not 0 to 7", (3, 117))), (110, ("no such action", (3, 129))), (116, ("slot, variable or plus is out of its bounds", (3, 130))), (121, ("the rule is on, or the action is RETRACT", (3, 135))), (126, ("condition is not 0 to 3", (3, 147))), (132, ("the rule is on, or not SOUND", (3, 155))), (151, ("the rule is off", (3, 225))), (169, ("kind or a value is out of its bounds", (4, 9))), (174, ("there are 6 of this kind", (4, 29))), (184, ("the fact is not STATED", (4, 42))), (214, ("slot is not 0 to 2", (4, 197))), (238, ("no such place", (5, 12))), (246, ("variable is not 0 to 5", (5, 27))), (285, ("no such rule", (3, 61))), (287, ("no such condition", (3, 87))), (289, ("no fact with this number now", (4, 41))), (291, ("no such match", (5, 11))), (293, ("most is not 1 to 20", (4, 64)))]
def px_okS (e : Nat × Bool) : Bool := match px_as px_st e.1 with
  | some q => px_at1 q.2 (.stringRef (px_on 6) e.1 q.1)
  | none => false
set_option maxRecDepth 100000 in
theorem px_sr_6 : (px_sr.getD 6 []).all px_okS = true := by decide +kernel
theorem px_sr_only : ∀ (o : Nat) (r : List (Nat × Bool)), px_sr[o]? = some r → r ≠ [] → o = 6 := by
  intro o r hr hne
  match o, hr with
  | 0, hr => cases hr; exact absurd rfl hne
  | 1, hr => cases hr; exact absurd rfl hne
  | 2, hr => cases hr; exact absurd rfl hne
  | 3, hr => cases hr; exact absurd rfl hne
  | 4, hr => cases hr; exact absurd rfl hne
  | 5, hr => cases hr; exact absurd rfl hne
  | 6, hr => rfl
  | 7, hr => cases hr; exact absurd rfl hne
  | 8, hr => cases hr; exact absurd rfl hne
  | 9, hr => cases hr; exact absurd rfl hne
  | 10, hr => cases hr; exact absurd rfl hne
  | 11, hr => cases hr; exact absurd rfl hne
  | 12, hr => cases hr; exact absurd rfl hne
  | 13, hr => cases hr; exact absurd rfl hne
  | 14, hr => cases hr; exact absurd rfl hne
  | 15, hr => cases hr; exact absurd rfl hne
  | n + 16, hr => cases hr
theorem px_str_s {o i : Nat} (h : px_str o i = true) : o = 6 ∧ ∃ tx, Cond.stringRef (px_on 6) i tx ∈ lw_tbl := by
  have h1 : px_as2 px_sr o i = some true := of_decide_eq_true h
  obtain ⟨r, hr, hm⟩ := px_as2_mem px_sr o i true h1
  have ho := px_sr_only o r hr (fun h0 => by rw [h0] at hm; cases hm)
  subst ho
  have h2 := px_sr_6
  rw [List.getD_eq_getElem?_getD, hr] at h2
  have h3 := List.all_eq_true.mp h2 _ hm
  unfold px_okS at h3
  split at h3
  · exact ⟨rfl, _, px_at1_s h3⟩
  · cases h3
theorem px_wo3 : Cond.arrayOver (.object "RuleForge$Rule") ∈ lw_tbl := px_at1_s (q := (1, 31)) (by decide +kernel)
theorem px_wo4 : Cond.arrayOver (.object "RuleForgeModel$Rule") ∈ lw_tbl := px_at1_s (q := (5, 81)) (by decide +kernel)
theorem px_wo5 : Cond.arrayOver (.array .int) ∈ lw_tbl := px_at1_s (q := (5, 195)) (by decide +kernel)
theorem px_wi11 : Cond.instantiable "java/lang/IndexOutOfBoundsException" 6 ∈ lw_tbl := px_at1_s (q := (3, 53)) (by decide +kernel)
theorem px_wi12 : Cond.instantiable "java/lang/IllegalArgumentException" 6 ∈ lw_tbl := px_at1_s (q := (2, 197)) (by decide +kernel)
theorem px_wi13 : Cond.instantiable "java/lang/IllegalStateException" 6 ∈ lw_tbl := px_at1_s (q := (3, 25)) (by decide +kernel)
theorem px_wls1 : Cond.laysStatic Bundle.tN "UNASSIGNED_STACK" Bundle.steD ∈ lw_tbl := px_at1_s (q := (2, 223)) (by decide +kernel)
theorem px_wls2 : Cond.laysStatic Bundle.tN "SUPPRESSED_SENTINEL" Bundle.listD ∈ lw_tbl := px_at1_s (q := (2, 225)) (by decide +kernel)
theorem px_wit : Cond.initialized Bundle.tN ∈ lw_tbl := px_at1_s (q := (1, 11)) (by decide +kernel)
