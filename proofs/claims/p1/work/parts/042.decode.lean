/-! EACH INSTRUCTION OF THE TABLES IS WHAT ITS BYTES SAY (wip/gen/words.py) -/
theorem px_by_rows {α : Type} {f : α → Bool} {l : List (List α)} (n : Nat) (hl : l.length = n) (h : ∀ o, o < n → (l.getD o []).all f = true) : l.all (fun r => r.all f) = true := by
  refine List.all_eq_true.mpr fun r hr => ?_
  obtain ⟨o, ho⟩ := List.getElem?_of_mem hr
  have h1 := h o (by rw [← hl]; exact (List.getElem?_eq_some_iff.mp ho).1)
  rwa [List.getD_eq_getElem?_getD, ho] at h1
set_option maxRecDepth 100000 in
theorem pd_X0_init_0 : ((px_is pm_X0_init).getD 0 []).all (fun e => decide (decode (px_cc pm_X0_init) e.1 = .ok (e.2.1, e.2.2))) = true := by decide +kernel
theorem pd_X0_init : px_okD pm_X0_init = true := by
  unfold px_okD
  exact px_by_rows 1 rfl fun o ho => match o, ho with
    | 0, _ => pd_X0_init_0
    | n + 1, h => absurd h (by omega)
set_option maxRecDepth 100000 in
theorem pd_X0_append_0 : ((px_is pm_X0_append).getD 0 []).all (fun e => decide (decode (px_cc pm_X0_append) e.1 = .ok (e.2.1, e.2.2))) = true := by decide +kernel
theorem pd_X0_append : px_okD pm_X0_append = true := by
  unfold px_okD
  exact px_by_rows 1 rfl fun o ho => match o, ho with
    | 0, _ => pd_X0_append_0
    | n + 1, h => absurd h (by omega)
set_option maxRecDepth 100000 in
theorem pd_X0_isRetract_0 : ((px_is pm_X0_isRetract).getD 0 []).all (fun e => decide (decode (px_cc pm_X0_isRetract) e.1 = .ok (e.2.1, e.2.2))) = true := by decide +kernel
theorem pd_X0_isRetract : px_okD pm_X0_isRetract = true := by
  unfold px_okD
  exact px_by_rows 1 rfl fun o ho => match o, ho with
    | 0, _ => pd_X0_isRetract_0
    | n + 1, h => absurd h (by omega)
set_option maxRecDepth 100000 in
theorem pd_X0_isSupport_0 : ((px_is pm_X0_isSupport).getD 0 []).all (fun e => decide (decode (px_cc pm_X0_isSupport) e.1 = .ok (e.2.1, e.2.2))) = true := by decide +kernel
theorem pd_X0_isSupport : px_okD pm_X0_isSupport = true := by
  unfold px_okD
  exact px_by_rows 1 rfl fun o ho => match o, ho with
    | 0, _ => pd_X0_isSupport_0
    | n + 1, h => absurd h (by omega)
set_option maxRecDepth 100000 in
theorem pd_X0_kindOfTold_0 : ((px_is pm_X0_kindOfTold).getD 0 []).all (fun e => decide (decode (px_cc pm_X0_kindOfTold) e.1 = .ok (e.2.1, e.2.2))) = true := by decide +kernel
theorem pd_X0_kindOfTold : px_okD pm_X0_kindOfTold = true := by
  unfold px_okD
  exact px_by_rows 1 rfl fun o ho => match o, ho with
    | 0, _ => pd_X0_kindOfTold_0
    | n + 1, h => absurd h (by omega)
set_option maxRecDepth 100000 in
theorem pd_X0_conditionOf_0 : ((px_is pm_X0_conditionOf).getD 0 []).all (fun e => decide (decode (px_cc pm_X0_conditionOf) e.1 = .ok (e.2.1, e.2.2))) = true := by decide +kernel
theorem pd_X0_conditionOf : px_okD pm_X0_conditionOf = true := by
  unfold px_okD
  exact px_by_rows 1 rfl fun o ho => match o, ho with
    | 0, _ => pd_X0_conditionOf_0
    | n + 1, h => absurd h (by omega)
set_option maxRecDepth 100000 in
theorem pd_X0_replaceValue_0 : ((px_is pm_X0_replaceValue).getD 0 []).all (fun e => decide (decode (px_cc pm_X0_replaceValue) e.1 = .ok (e.2.1, e.2.2))) = true := by decide +kernel
theorem pd_X0_replaceValue : px_okD pm_X0_replaceValue = true := by
  unfold px_okD
  exact px_by_rows 1 rfl fun o ho => match o, ho with
    | 0, _ => pd_X0_replaceValue_0
    | n + 1, h => absurd h (by omega)
set_option maxRecDepth 100000 in
theorem pd_X0_restOn_0 : ((px_is pm_X0_restOn).getD 0 []).all (fun e => decide (decode (px_cc pm_X0_restOn) e.1 = .ok (e.2.1, e.2.2))) = true := by decide +kernel
set_option maxRecDepth 100000 in
theorem pd_X0_restOn_1 : ((px_is pm_X0_restOn).getD 1 []).all (fun e => decide (decode (px_cc pm_X0_restOn) e.1 = .ok (e.2.1, e.2.2))) = true := by decide +kernel
theorem pd_X0_restOn : px_okD pm_X0_restOn = true := by
  unfold px_okD
  exact px_by_rows 2 rfl fun o ho => match o, ho with
    | 0, _ => pd_X0_restOn_0
    | 1, _ => pd_X0_restOn_1
    | n + 2, h => absurd h (by omega)
set_option maxRecDepth 100000 in
theorem pd_X0_toldValue_0 : ((px_is pm_X0_toldValue).getD 0 []).all (fun e => decide (decode (px_cc pm_X0_toldValue) e.1 = .ok (e.2.1, e.2.2))) = true := by decide +kernel
set_option maxRecDepth 100000 in
theorem pd_X0_toldValue_1 : ((px_is pm_X0_toldValue).getD 1 []).all (fun e => decide (decode (px_cc pm_X0_toldValue) e.1 = .ok (e.2.1, e.2.2))) = true := by decide +kernel
theorem pd_X0_toldValue : px_okD pm_X0_toldValue = true := by
  unfold px_okD
  exact px_by_rows 2 rfl fun o ho => match o, ho with
    | 0, _ => pd_X0_toldValue_0
    | 1, _ => pd_X0_toldValue_1
    | n + 2, h => absurd h (by omega)
set_option maxRecDepth 100000 in
theorem pd_X1_init_0 : ((px_is pm_X1_init).getD 0 []).all (fun e => decide (decode (px_cc pm_X1_init) e.1 = .ok (e.2.1, e.2.2))) = true := by decide +kernel
set_option maxRecDepth 100000 in
theorem pd_X1_init_1 : ((px_is pm_X1_init).getD 1 []).all (fun e => decide (decode (px_cc pm_X1_init) e.1 = .ok (e.2.1, e.2.2))) = true := by decide +kernel
theorem pd_X1_init : px_okD pm_X1_init = true := by
  unfold px_okD
  exact px_by_rows 2 rfl fun o ho => match o, ho with
    | 0, _ => pd_X1_init_0
    | 1, _ => pd_X1_init_1
    | n + 2, h => absurd h (by omega)
set_option maxRecDepth 100000 in
theorem pd_X1_append_0 : ((px_is pm_X1_append).getD 0 []).all (fun e => decide (decode (px_cc pm_X1_append) e.1 = .ok (e.2.1, e.2.2))) = true := by decide +kernel
set_option maxRecDepth 100000 in
theorem pd_X1_append_1 : ((px_is pm_X1_append).getD 1 []).all (fun e => decide (decode (px_cc pm_X1_append) e.1 = .ok (e.2.1, e.2.2))) = true := by decide +kernel
theorem pd_X1_append : px_okD pm_X1_append = true := by
  unfold px_okD
  exact px_by_rows 2 rfl fun o ho => match o, ho with
    | 0, _ => pd_X1_append_0
    | 1, _ => pd_X1_append_1
    | n + 2, h => absurd h (by omega)
set_option maxRecDepth 100000 in
theorem pd_X1_replaceTest_0 : ((px_is pm_X1_replaceTest).getD 0 []).all (fun e => decide (decode (px_cc pm_X1_replaceTest) e.1 = .ok (e.2.1, e.2.2))) = true := by decide +kernel
theorem pd_X1_replaceTest : px_okD pm_X1_replaceTest = true := by
  unfold px_okD
  exact px_by_rows 1 rfl fun o ho => match o, ho with
    | 0, _ => pd_X1_replaceTest_0
    | n + 1, h => absurd h (by omega)
set_option maxRecDepth 100000 in
theorem pd_X1_bindVariables_0 : ((px_is pm_X1_bindVariables).getD 0 []).all (fun e => decide (decode (px_cc pm_X1_bindVariables) e.1 = .ok (e.2.1, e.2.2))) = true := by decide +kernel
set_option maxRecDepth 100000 in
theorem pd_X1_bindVariables_1 : ((px_is pm_X1_bindVariables).getD 1 []).all (fun e => decide (decode (px_cc pm_X1_bindVariables) e.1 = .ok (e.2.1, e.2.2))) = true := by decide +kernel
theorem pd_X1_bindVariables : px_okD pm_X1_bindVariables = true := by
  unfold px_okD
  exact px_by_rows 2 rfl fun o ho => match o, ho with
    | 0, _ => pd_X1_bindVariables_0
    | 1, _ => pd_X1_bindVariables_1
    | n + 2, h => absurd h (by omega)
set_option maxRecDepth 100000 in
theorem pd_X1_areBoundAhead_0 : ((px_is pm_X1_areBoundAhead).getD 0 []).all (fun e => decide (decode (px_cc pm_X1_areBoundAhead) e.1 = .ok (e.2.1, e.2.2))) = true := by decide +kernel
theorem pd_X1_areBoundAhead : px_okD pm_X1_areBoundAhead = true := by
  unfold px_okD
  exact px_by_rows 1 rfl fun o ho => match o, ho with
    | 0, _ => pd_X1_areBoundAhead_0
    | n + 1, h => absurd h (by omega)
set_option maxRecDepth 100000 in
theorem pd_X1_isEach_0 : ((px_is pm_X1_isEach).getD 0 []).all (fun e => decide (decode (px_cc pm_X1_isEach) e.1 = .ok (e.2.1, e.2.2))) = true := by decide +kernel
theorem pd_X1_isEach : px_okD pm_X1_isEach = true := by
  unfold px_okD
  exact px_by_rows 1 rfl fun o ho => match o, ho with
    | 0, _ => pd_X1_isEach_0
    | n + 1, h => absurd h (by omega)
set_option maxRecDepth 100000 in
theorem pd_X1_conditionAt_0 : ((px_is pm_X1_conditionAt).getD 0 []).all (fun e => decide (decode (px_cc pm_X1_conditionAt) e.1 = .ok (e.2.1, e.2.2))) = true := by decide +kernel
theorem pd_X1_conditionAt : px_okD pm_X1_conditionAt = true := by
  unfold px_okD
  exact px_by_rows 1 rfl fun o ho => match o, ho with
    | 0, _ => pd_X1_conditionAt_0
    | n + 1, h => absurd h (by omega)
set_option maxRecDepth 100000 in
theorem pd_X1_placeFor_0 : ((px_is pm_X1_placeFor).getD 0 []).all (fun e => decide (decode (px_cc pm_X1_placeFor) e.1 = .ok (e.2.1, e.2.2))) = true := by decide +kernel
theorem pd_X1_placeFor : px_okD pm_X1_placeFor = true := by
  unfold px_okD
  exact px_by_rows 1 rfl fun o ho => match o, ho with
    | 0, _ => pd_X1_placeFor_0
    | n + 1, h => absurd h (by omega)
set_option maxRecDepth 100000 in
theorem pd_X1_kindAt_0 : ((px_is pm_X1_kindAt).getD 0 []).all (fun e => decide (decode (px_cc pm_X1_kindAt) e.1 = .ok (e.2.1, e.2.2))) = true := by decide +kernel
theorem pd_X1_kindAt : px_okD pm_X1_kindAt = true := by
  unfold px_okD
  exact px_by_rows 1 rfl fun o ho => match o, ho with
    | 0, _ => pd_X1_kindAt_0
    | n + 1, h => absurd h (by omega)
set_option maxRecDepth 100000 in
theorem pd_X1_binderOf_0 : ((px_is pm_X1_binderOf).getD 0 []).all (fun e => decide (decode (px_cc pm_X1_binderOf) e.1 = .ok (e.2.1, e.2.2))) = true := by decide +kernel
theorem pd_X1_binderOf : px_okD pm_X1_binderOf = true := by
  unfold px_okD
  exact px_by_rows 1 rfl fun o ho => match o, ho with
    | 0, _ => pd_X1_binderOf_0
    | n + 1, h => absurd h (by omega)
set_option maxRecDepth 100000 in
theorem pd_X1_pass_0 : ((px_is pm_X1_pass).getD 0 []).all (fun e => decide (decode (px_cc pm_X1_pass) e.1 = .ok (e.2.1, e.2.2))) = true := by decide +kernel
set_option maxRecDepth 100000 in
theorem pd_X1_pass_1 : ((px_is pm_X1_pass).getD 1 []).all (fun e => decide (decode (px_cc pm_X1_pass) e.1 = .ok (e.2.1, e.2.2))) = true := by decide +kernel
set_option maxRecDepth 100000 in
theorem pd_X1_pass_2 : ((px_is pm_X1_pass).getD 2 []).all (fun e => decide (decode (px_cc pm_X1_pass) e.1 = .ok (e.2.1, e.2.2))) = true := by decide +kernel
theorem pd_X1_pass : px_okD pm_X1_pass = true := by
  unfold px_okD
  exact px_by_rows 3 rfl fun o ho => match o, ho with
    | 0, _ => pd_X1_pass_0
    | 1, _ => pd_X1_pass_1
    | 2, _ => pd_X1_pass_2
    | n + 3, h => absurd h (by omega)
set_option maxRecDepth 100000 in
theorem pd_X1_compares_0 : ((px_is pm_X1_compares).getD 0 []).all (fun e => decide (decode (px_cc pm_X1_compares) e.1 = .ok (e.2.1, e.2.2))) = true := by decide +kernel
set_option maxRecDepth 100000 in
theorem pd_X1_compares_1 : ((px_is pm_X1_compares).getD 1 []).all (fun e => decide (decode (px_cc pm_X1_compares) e.1 = .ok (e.2.1, e.2.2))) = true := by decide +kernel
theorem pd_X1_compares : px_okD pm_X1_compares = true := by
  unfold px_okD
  exact px_by_rows 2 rfl fun o ho => match o, ho with
    | 0, _ => pd_X1_compares_0
    | 1, _ => pd_X1_compares_1
    | n + 2, h => absurd h (by omega)
set_option maxRecDepth 100000 in
theorem pd_X1_countsAreSo_0 : ((px_is pm_X1_countsAreSo).getD 0 []).all (fun e => decide (decode (px_cc pm_X1_countsAreSo) e.1 = .ok (e.2.1, e.2.2))) = true := by decide +kernel
set_option maxRecDepth 100000 in
theorem pd_X1_countsAreSo_1 : ((px_is pm_X1_countsAreSo).getD 1 []).all (fun e => decide (decode (px_cc pm_X1_countsAreSo) e.1 = .ok (e.2.1, e.2.2))) = true := by decide +kernel
theorem pd_X1_countsAreSo : px_okD pm_X1_countsAreSo = true := by
  unfold px_okD
  exact px_by_rows 2 rfl fun o ho => match o, ho with
    | 0, _ => pd_X1_countsAreSo_0
    | 1, _ => pd_X1_countsAreSo_1
    | n + 2, h => absurd h (by omega)
set_option maxRecDepth 100000 in
theorem pd_X1_countCandidates_0 : ((px_is pm_X1_countCandidates).getD 0 []).all (fun e => decide (decode (px_cc pm_X1_countCandidates) e.1 = .ok (e.2.1, e.2.2))) = true := by decide +kernel
theorem pd_X1_countCandidates : px_okD pm_X1_countCandidates = true := by
  unfold px_okD
  exact px_by_rows 1 rfl fun o ho => match o, ho with
    | 0, _ => pd_X1_countCandidates_0
    | n + 1, h => absurd h (by omega)
set_option maxRecDepth 100000 in
theorem pd_X1_passNumbers_0 : ((px_is pm_X1_passNumbers).getD 0 []).all (fun e => decide (decode (px_cc pm_X1_passNumbers) e.1 = .ok (e.2.1, e.2.2))) = true := by decide +kernel
set_option maxRecDepth 100000 in
theorem pd_X1_passNumbers_1 : ((px_is pm_X1_passNumbers).getD 1 []).all (fun e => decide (decode (px_cc pm_X1_passNumbers) e.1 = .ok (e.2.1, e.2.2))) = true := by decide +kernel
theorem pd_X1_passNumbers : px_okD pm_X1_passNumbers = true := by
  unfold px_okD
  exact px_by_rows 2 rfl fun o ho => match o, ho with
    | 0, _ => pd_X1_passNumbers_0
    | 1, _ => pd_X1_passNumbers_1
    | n + 2, h => absurd h (by omega)
set_option maxRecDepth 100000 in
theorem pd_X2_init_0 : ((px_is pm_X2_init).getD 0 []).all (fun e => decide (decode (px_cc pm_X2_init) e.1 = .ok (e.2.1, e.2.2))) = true := by decide +kernel
set_option maxRecDepth 100000 in
theorem pd_X2_init_1 : ((px_is pm_X2_init).getD 1 []).all (fun e => decide (decode (px_cc pm_X2_init) e.1 = .ok (e.2.1, e.2.2))) = true := by decide +kernel
theorem pd_X2_init : px_okD pm_X2_init = true := by
  unfold px_okD
  exact px_by_rows 2 rfl fun o ho => match o, ho with
    | 0, _ => pd_X2_init_0
    | 1, _ => pd_X2_init_1
    | n + 2, h => absurd h (by omega)
set_option maxRecDepth 100000 in
theorem pd_X2_become_0 : ((px_is pm_X2_become).getD 0 []).all (fun e => decide (decode (px_cc pm_X2_become) e.1 = .ok (e.2.1, e.2.2))) = true := by decide +kernel
set_option maxRecDepth 100000 in
theorem pd_X2_become_1 : ((px_is pm_X2_become).getD 1 []).all (fun e => decide (decode (px_cc pm_X2_become) e.1 = .ok (e.2.1, e.2.2))) = true := by decide +kernel
theorem pd_X2_become : px_okD pm_X2_become = true := by
  unfold px_okD
  exact px_by_rows 2 rfl fun o ho => match o, ho with
    | 0, _ => pd_X2_become_0
    | 1, _ => pd_X2_become_1
    | n + 2, h => absurd h (by omega)
set_option maxRecDepth 100000 in
theorem pd_X2_placeOf_0 : ((px_is pm_X2_placeOf).getD 0 []).all (fun e => decide (decode (px_cc pm_X2_placeOf) e.1 = .ok (e.2.1, e.2.2))) = true := by decide +kernel
theorem pd_X2_placeOf : px_okD pm_X2_placeOf = true := by
  unfold px_okD
  exact px_by_rows 1 rfl fun o ho => match o, ho with
    | 0, _ => pd_X2_placeOf_0
    | n + 1, h => absurd h (by omega)
set_option maxRecDepth 100000 in
theorem pd_X2_placeLike_0 : ((px_is pm_X2_placeLike).getD 0 []).all (fun e => decide (decode (px_cc pm_X2_placeLike) e.1 = .ok (e.2.1, e.2.2))) = true := by decide +kernel
set_option maxRecDepth 100000 in
theorem pd_X2_placeLike_1 : ((px_is pm_X2_placeLike).getD 1 []).all (fun e => decide (decode (px_cc pm_X2_placeLike) e.1 = .ok (e.2.1, e.2.2))) = true := by decide +kernel
theorem pd_X2_placeLike : px_okD pm_X2_placeLike = true := by
  unfold px_okD
  exact px_by_rows 2 rfl fun o ho => match o, ho with
    | 0, _ => pd_X2_placeLike_0
    | 1, _ => pd_X2_placeLike_1
    | n + 2, h => absurd h (by omega)
set_option maxRecDepth 100000 in
theorem pd_X2_placeAfter_0 : ((px_is pm_X2_placeAfter).getD 0 []).all (fun e => decide (decode (px_cc pm_X2_placeAfter) e.1 = .ok (e.2.1, e.2.2))) = true := by decide +kernel
theorem pd_X2_placeAfter : px_okD pm_X2_placeAfter = true := by
  unfold px_okD
  exact px_by_rows 1 rfl fun o ho => match o, ho with
    | 0, _ => pd_X2_placeAfter_0
    | n + 1, h => absurd h (by omega)
set_option maxRecDepth 100000 in
theorem pd_X2_countOf_0 : ((px_is pm_X2_countOf).getD 0 []).all (fun e => decide (decode (px_cc pm_X2_countOf) e.1 = .ok (e.2.1, e.2.2))) = true := by decide +kernel
theorem pd_X2_countOf : px_okD pm_X2_countOf = true := by
  unfold px_okD
  exact px_by_rows 1 rfl fun o ho => match o, ho with
    | 0, _ => pd_X2_countOf_0
    | n + 1, h => absurd h (by omega)
set_option maxRecDepth 100000 in
theorem pd_X2_placeByAge_0 : ((px_is pm_X2_placeByAge).getD 0 []).all (fun e => decide (decode (px_cc pm_X2_placeByAge) e.1 = .ok (e.2.1, e.2.2))) = true := by decide +kernel
theorem pd_X2_placeByAge : px_okD pm_X2_placeByAge = true := by
  unfold px_okD
  exact px_by_rows 1 rfl fun o ho => match o, ho with
    | 0, _ => pd_X2_placeByAge_0
    | n + 1, h => absurd h (by omega)
set_option maxRecDepth 100000 in
theorem pd_X2_numberAt_0 : ((px_is pm_X2_numberAt).getD 0 []).all (fun e => decide (decode (px_cc pm_X2_numberAt) e.1 = .ok (e.2.1, e.2.2))) = true := by decide +kernel
theorem pd_X2_numberAt : px_okD pm_X2_numberAt = true := by
  unfold px_okD
  exact px_by_rows 1 rfl fun o ho => match o, ho with
    | 0, _ => pd_X2_numberAt_0
    | n + 1, h => absurd h (by omega)
set_option maxRecDepth 100000 in
theorem pd_X2_valueAt_0 : ((px_is pm_X2_valueAt).getD 0 []).all (fun e => decide (decode (px_cc pm_X2_valueAt) e.1 = .ok (e.2.1, e.2.2))) = true := by decide +kernel
theorem pd_X2_valueAt : px_okD pm_X2_valueAt = true := by
  unfold px_okD
  exact px_by_rows 1 rfl fun o ho => match o, ho with
    | 0, _ => pd_X2_valueAt_0
    | n + 1, h => absurd h (by omega)
set_option maxRecDepth 100000 in
theorem pd_X2_freePlace_0 : ((px_is pm_X2_freePlace).getD 0 []).all (fun e => decide (decode (px_cc pm_X2_freePlace) e.1 = .ok (e.2.1, e.2.2))) = true := by decide +kernel
theorem pd_X2_freePlace : px_okD pm_X2_freePlace = true := by
  unfold px_okD
  exact px_by_rows 1 rfl fun o ho => match o, ho with
    | 0, _ => pd_X2_freePlace_0
    | n + 1, h => absurd h (by omega)
set_option maxRecDepth 100000 in
theorem pd_X2_findOrCreate_0 : ((px_is pm_X2_findOrCreate).getD 0 []).all (fun e => decide (decode (px_cc pm_X2_findOrCreate) e.1 = .ok (e.2.1, e.2.2))) = true := by decide +kernel
theorem pd_X2_findOrCreate : px_okD pm_X2_findOrCreate = true := by
  unfold px_okD
  exact px_by_rows 1 rfl fun o ho => match o, ho with
    | 0, _ => pd_X2_findOrCreate_0
    | n + 1, h => absurd h (by omega)
set_option maxRecDepth 100000 in
theorem pd_X2_create_0 : ((px_is pm_X2_create).getD 0 []).all (fun e => decide (decode (px_cc pm_X2_create) e.1 = .ok (e.2.1, e.2.2))) = true := by decide +kernel
set_option maxRecDepth 100000 in
theorem pd_X2_create_1 : ((px_is pm_X2_create).getD 1 []).all (fun e => decide (decode (px_cc pm_X2_create) e.1 = .ok (e.2.1, e.2.2))) = true := by decide +kernel
set_option maxRecDepth 100000 in
theorem pd_X2_create_2 : ((px_is pm_X2_create).getD 2 []).all (fun e => decide (decode (px_cc pm_X2_create) e.1 = .ok (e.2.1, e.2.2))) = true := by decide +kernel
theorem pd_X2_create : px_okD pm_X2_create = true := by
  unfold px_okD
  exact px_by_rows 3 rfl fun o ho => match o, ho with
    | 0, _ => pd_X2_create_0
    | 1, _ => pd_X2_create_1
    | 2, _ => pd_X2_create_2
    | n + 3, h => absurd h (by omega)
set_option maxRecDepth 100000 in
theorem pd_X2_drop_0 : ((px_is pm_X2_drop).getD 0 []).all (fun e => decide (decode (px_cc pm_X2_drop) e.1 = .ok (e.2.1, e.2.2))) = true := by decide +kernel
set_option maxRecDepth 100000 in
theorem pd_X2_drop_1 : ((px_is pm_X2_drop).getD 1 []).all (fun e => decide (decode (px_cc pm_X2_drop) e.1 = .ok (e.2.1, e.2.2))) = true := by decide +kernel
theorem pd_X2_drop : px_okD pm_X2_drop = true := by
  unfold px_okD
  exact px_by_rows 2 rfl fun o ho => match o, ho with
    | 0, _ => pd_X2_drop_0
    | 1, _ => pd_X2_drop_1
    | n + 2, h => absurd h (by omega)
set_option maxRecDepth 100000 in
theorem pd_X3_init_0 : ((px_is pm_X3_init).getD 0 []).all (fun e => decide (decode (px_cc pm_X3_init) e.1 = .ok (e.2.1, e.2.2))) = true := by decide +kernel
set_option maxRecDepth 100000 in
theorem pd_X3_init_1 : ((px_is pm_X3_init).getD 1 []).all (fun e => decide (decode (px_cc pm_X3_init) e.1 = .ok (e.2.1, e.2.2))) = true := by decide +kernel
theorem pd_X3_init : px_okD pm_X3_init = true := by
  unfold px_okD
  exact px_by_rows 2 rfl fun o ho => match o, ho with
    | 0, _ => pd_X3_init_0
    | 1, _ => pd_X3_init_1
    | n + 2, h => absurd h (by omega)
set_option maxRecDepth 100000 in
theorem pd_X3_become_0 : ((px_is pm_X3_become).getD 0 []).all (fun e => decide (decode (px_cc pm_X3_become) e.1 = .ok (e.2.1, e.2.2))) = true := by decide +kernel
set_option maxRecDepth 100000 in
theorem pd_X3_become_1 : ((px_is pm_X3_become).getD 1 []).all (fun e => decide (decode (px_cc pm_X3_become) e.1 = .ok (e.2.1, e.2.2))) = true := by decide +kernel
set_option maxRecDepth 100000 in
theorem pd_X3_become_2 : ((px_is pm_X3_become).getD 2 []).all (fun e => decide (decode (px_cc pm_X3_become) e.1 = .ok (e.2.1, e.2.2))) = true := by decide +kernel
theorem pd_X3_become : px_okD pm_X3_become = true := by
  unfold px_okD
  exact px_by_rows 3 rfl fun o ho => match o, ho with
    | 0, _ => pd_X3_become_0
    | 1, _ => pd_X3_become_1
    | 2, _ => pd_X3_become_2
    | n + 3, h => absurd h (by omega)
set_option maxRecDepth 100000 in
theorem pd_X3_matchAt_0 : ((px_is pm_X3_matchAt).getD 0 []).all (fun e => decide (decode (px_cc pm_X3_matchAt) e.1 = .ok (e.2.1, e.2.2))) = true := by decide +kernel
theorem pd_X3_matchAt : px_okD pm_X3_matchAt = true := by
  unfold px_okD
  exact px_by_rows 1 rfl fun o ho => match o, ho with
    | 0, _ => pd_X3_matchAt_0
    | n + 1, h => absurd h (by omega)
set_option maxRecDepth 100000 in
theorem pd_X3_isMatch_0 : ((px_is pm_X3_isMatch).getD 0 []).all (fun e => decide (decode (px_cc pm_X3_isMatch) e.1 = .ok (e.2.1, e.2.2))) = true := by decide +kernel
theorem pd_X3_isMatch : px_okD pm_X3_isMatch = true := by
  unfold px_okD
  exact px_by_rows 1 rfl fun o ho => match o, ho with
    | 0, _ => pd_X3_isMatch_0
    | n + 1, h => absurd h (by omega)
set_option maxRecDepth 100000 in
theorem pd_X3_isSpent_0 : ((px_is pm_X3_isSpent).getD 0 []).all (fun e => decide (decode (px_cc pm_X3_isSpent) e.1 = .ok (e.2.1, e.2.2))) = true := by decide +kernel
theorem pd_X3_isSpent : px_okD pm_X3_isSpent = true := by
  unfold px_okD
  exact px_by_rows 1 rfl fun o ho => match o, ho with
    | 0, _ => pd_X3_isSpent_0
    | n + 1, h => absurd h (by omega)
set_option maxRecDepth 100000 in
theorem pd_X3_isStillSpent_0 : ((px_is pm_X3_isStillSpent).getD 0 []).all (fun e => decide (decode (px_cc pm_X3_isStillSpent) e.1 = .ok (e.2.1, e.2.2))) = true := by decide +kernel
theorem pd_X3_isStillSpent : px_okD pm_X3_isStillSpent = true := by
  unfold px_okD
  exact px_by_rows 1 rfl fun o ho => match o, ho with
    | 0, _ => pd_X3_isStillSpent_0
    | n + 1, h => absurd h (by omega)
set_option maxRecDepth 100000 in
theorem pd_X3_markFired_0 : ((px_is pm_X3_markFired).getD 0 []).all (fun e => decide (decode (px_cc pm_X3_markFired) e.1 = .ok (e.2.1, e.2.2))) = true := by decide +kernel
theorem pd_X3_markFired : px_okD pm_X3_markFired = true := by
  unfold px_okD
  exact px_by_rows 1 rfl fun o ho => match o, ho with
    | 0, _ => pd_X3_markFired_0
    | n + 1, h => absurd h (by omega)
set_option maxRecDepth 100000 in
theorem pd_X3_rankOf_0 : ((px_is pm_X3_rankOf).getD 0 []).all (fun e => decide (decode (px_cc pm_X3_rankOf) e.1 = .ok (e.2.1, e.2.2))) = true := by decide +kernel
theorem pd_X3_rankOf : px_okD pm_X3_rankOf = true := by
  unfold px_okD
  exact px_by_rows 1 rfl fun o ho => match o, ho with
    | 0, _ => pd_X3_rankOf_0
    | n + 1, h => absurd h (by omega)
set_option maxRecDepth 100000 in
theorem pd_X3_forget_0 : ((px_is pm_X3_forget).getD 0 []).all (fun e => decide (decode (px_cc pm_X3_forget) e.1 = .ok (e.2.1, e.2.2))) = true := by decide +kernel
theorem pd_X3_forget : px_okD pm_X3_forget = true := by
  unfold px_okD
  exact px_by_rows 1 rfl fun o ho => match o, ho with
    | 0, _ => pd_X3_forget_0
    | n + 1, h => absurd h (by omega)
set_option maxRecDepth 100000 in
theorem pd_X3_findAnew_0 : ((px_is pm_X3_findAnew).getD 0 []).all (fun e => decide (decode (px_cc pm_X3_findAnew) e.1 = .ok (e.2.1, e.2.2))) = true := by decide +kernel
set_option maxRecDepth 100000 in
theorem pd_X3_findAnew_1 : ((px_is pm_X3_findAnew).getD 1 []).all (fun e => decide (decode (px_cc pm_X3_findAnew) e.1 = .ok (e.2.1, e.2.2))) = true := by decide +kernel
set_option maxRecDepth 100000 in
theorem pd_X3_findAnew_2 : ((px_is pm_X3_findAnew).getD 2 []).all (fun e => decide (decode (px_cc pm_X3_findAnew) e.1 = .ok (e.2.1, e.2.2))) = true := by decide +kernel
theorem pd_X3_findAnew : px_okD pm_X3_findAnew = true := by
  unfold px_okD
  exact px_by_rows 3 rfl fun o ho => match o, ho with
    | 0, _ => pd_X3_findAnew_0
    | 1, _ => pd_X3_findAnew_1
    | 2, _ => pd_X3_findAnew_2
    | n + 3, h => absurd h (by omega)
set_option maxRecDepth 100000 in
theorem pd_X3_widthOf_0 : ((px_is pm_X3_widthOf).getD 0 []).all (fun e => decide (decode (px_cc pm_X3_widthOf) e.1 = .ok (e.2.1, e.2.2))) = true := by decide +kernel
theorem pd_X3_widthOf : px_okD pm_X3_widthOf = true := by
  unfold px_okD
  exact px_by_rows 1 rfl fun o ho => match o, ho with
    | 0, _ => pd_X3_widthOf_0
    | n + 1, h => absurd h (by omega)
set_option maxRecDepth 100000 in
theorem pd_X3_choose_0 : ((px_is pm_X3_choose).getD 0 []).all (fun e => decide (decode (px_cc pm_X3_choose) e.1 = .ok (e.2.1, e.2.2))) = true := by decide +kernel
set_option maxRecDepth 100000 in
theorem pd_X3_choose_1 : ((px_is pm_X3_choose).getD 1 []).all (fun e => decide (decode (px_cc pm_X3_choose) e.1 = .ok (e.2.1, e.2.2))) = true := by decide +kernel
theorem pd_X3_choose : px_okD pm_X3_choose = true := by
  unfold px_okD
  exact px_by_rows 2 rfl fun o ho => match o, ho with
    | 0, _ => pd_X3_choose_0
    | 1, _ => pd_X3_choose_1
    | n + 2, h => absurd h (by omega)
set_option maxRecDepth 100000 in
theorem pd_X3_keep_0 : ((px_is pm_X3_keep).getD 0 []).all (fun e => decide (decode (px_cc pm_X3_keep) e.1 = .ok (e.2.1, e.2.2))) = true := by decide +kernel
set_option maxRecDepth 100000 in
theorem pd_X3_keep_1 : ((px_is pm_X3_keep).getD 1 []).all (fun e => decide (decode (px_cc pm_X3_keep) e.1 = .ok (e.2.1, e.2.2))) = true := by decide +kernel
set_option maxRecDepth 100000 in
theorem pd_X3_keep_2 : ((px_is pm_X3_keep).getD 2 []).all (fun e => decide (decode (px_cc pm_X3_keep) e.1 = .ok (e.2.1, e.2.2))) = true := by decide +kernel
theorem pd_X3_keep : px_okD pm_X3_keep = true := by
  unfold px_okD
  exact px_by_rows 3 rfl fun o ho => match o, ho with
    | 0, _ => pd_X3_keep_0
    | 1, _ => pd_X3_keep_1
    | 2, _ => pd_X3_keep_2
    | n + 3, h => absurd h (by omega)
set_option maxRecDepth 100000 in
theorem pd_X3_bear_0 : ((px_is pm_X3_bear).getD 0 []).all (fun e => decide (decode (px_cc pm_X3_bear) e.1 = .ok (e.2.1, e.2.2))) = true := by decide +kernel
set_option maxRecDepth 100000 in
theorem pd_X3_bear_1 : ((px_is pm_X3_bear).getD 1 []).all (fun e => decide (decode (px_cc pm_X3_bear) e.1 = .ok (e.2.1, e.2.2))) = true := by decide +kernel
set_option maxRecDepth 100000 in
theorem pd_X3_bear_2 : ((px_is pm_X3_bear).getD 2 []).all (fun e => decide (decode (px_cc pm_X3_bear) e.1 = .ok (e.2.1, e.2.2))) = true := by decide +kernel
theorem pd_X3_bear : px_okD pm_X3_bear = true := by
  unfold px_okD
  exact px_by_rows 3 rfl fun o ho => match o, ho with
    | 0, _ => pd_X3_bear_0
    | 1, _ => pd_X3_bear_1
    | 2, _ => pd_X3_bear_2
    | n + 3, h => absurd h (by omega)
set_option maxRecDepth 100000 in
theorem pd_X3_supportsFact_0 : ((px_is pm_X3_supportsFact).getD 0 []).all (fun e => decide (decode (px_cc pm_X3_supportsFact) e.1 = .ok (e.2.1, e.2.2))) = true := by decide +kernel
theorem pd_X3_supportsFact : px_okD pm_X3_supportsFact = true := by
  unfold px_okD
  exact px_by_rows 1 rfl fun o ho => match o, ho with
    | 0, _ => pd_X3_supportsFact_0
    | n + 1, h => absurd h (by omega)
set_option maxRecDepth 100000 in
theorem pd_X3_toldBy_0 : ((px_is pm_X3_toldBy).getD 0 []).all (fun e => decide (decode (px_cc pm_X3_toldBy) e.1 = .ok (e.2.1, e.2.2))) = true := by decide +kernel
theorem pd_X3_toldBy : px_okD pm_X3_toldBy = true := by
  unfold px_okD
  exact px_by_rows 1 rfl fun o ho => match o, ho with
    | 0, _ => pd_X3_toldBy_0
    | n + 1, h => absurd h (by omega)
set_option maxRecDepth 100000 in
theorem pd_X3_support_0 : ((px_is pm_X3_support).getD 0 []).all (fun e => decide (decode (px_cc pm_X3_support) e.1 = .ok (e.2.1, e.2.2))) = true := by decide +kernel
theorem pd_X3_support : px_okD pm_X3_support = true := by
  unfold px_okD
  exact px_by_rows 1 rfl fun o ho => match o, ho with
    | 0, _ => pd_X3_support_0
    | n + 1, h => absurd h (by omega)
set_option maxRecDepth 100000 in
theorem pd_X3_hasPlace_0 : ((px_is pm_X3_hasPlace).getD 0 []).all (fun e => decide (decode (px_cc pm_X3_hasPlace) e.1 = .ok (e.2.1, e.2.2))) = true := by decide +kernel
theorem pd_X3_hasPlace : px_okD pm_X3_hasPlace = true := by
  unfold px_okD
  exact px_by_rows 1 rfl fun o ho => match o, ho with
    | 0, _ => pd_X3_hasPlace_0
    | n + 1, h => absurd h (by omega)
set_option maxRecDepth 100000 in
theorem pd_X3_placeAt_0 : ((px_is pm_X3_placeAt).getD 0 []).all (fun e => decide (decode (px_cc pm_X3_placeAt) e.1 = .ok (e.2.1, e.2.2))) = true := by decide +kernel
theorem pd_X3_placeAt : px_okD pm_X3_placeAt = true := by
  unfold px_okD
  exact px_by_rows 1 rfl fun o ho => match o, ho with
    | 0, _ => pd_X3_placeAt_0
    | n + 1, h => absurd h (by omega)
set_option maxRecDepth 100000 in
theorem pd_X4_init_0 : ((px_is pm_X4_init).getD 0 []).all (fun e => decide (decode (px_cc pm_X4_init) e.1 = .ok (e.2.1, e.2.2))) = true := by decide +kernel
theorem pd_X4_init : px_okD pm_X4_init = true := by
  unfold px_okD
  exact px_by_rows 1 rfl fun o ho => match o, ho with
    | 0, _ => pd_X4_init_0
    | n + 1, h => absurd h (by omega)
set_option maxRecDepth 100000 in
theorem pd_X4_isWellMade_0 : ((px_is pm_X4_isWellMade).getD 0 []).all (fun e => decide (decode (px_cc pm_X4_isWellMade) e.1 = .ok (e.2.1, e.2.2))) = true := by decide +kernel
theorem pd_X4_isWellMade : px_okD pm_X4_isWellMade = true := by
  unfold px_okD
  exact px_by_rows 1 rfl fun o ho => match o, ho with
    | 0, _ => pd_X4_isWellMade_0
    | n + 1, h => absurd h (by omega)
set_option maxRecDepth 100000 in
theorem pd_X5_init_0 : ((px_is pm_X5_init).getD 0 []).all (fun e => decide (decode (px_cc pm_X5_init) e.1 = .ok (e.2.1, e.2.2))) = true := by decide +kernel
theorem pd_X5_init : px_okD pm_X5_init = true := by
  unfold px_okD
  exact px_by_rows 1 rfl fun o ho => match o, ho with
    | 0, _ => pd_X5_init_0
    | n + 1, h => absurd h (by omega)
set_option maxRecDepth 100000 in
theorem pd_X5_become_0 : ((px_is pm_X5_become).getD 0 []).all (fun e => decide (decode (px_cc pm_X5_become) e.1 = .ok (e.2.1, e.2.2))) = true := by decide +kernel
theorem pd_X5_become : px_okD pm_X5_become = true := by
  unfold px_okD
  exact px_by_rows 1 rfl fun o ho => match o, ho with
    | 0, _ => pd_X5_become_0
    | n + 1, h => absurd h (by omega)
set_option maxRecDepth 100000 in
theorem pd_X5_stateFact_0 : ((px_is pm_X5_stateFact).getD 0 []).all (fun e => decide (decode (px_cc pm_X5_stateFact) e.1 = .ok (e.2.1, e.2.2))) = true := by decide +kernel
set_option maxRecDepth 100000 in
theorem pd_X5_stateFact_1 : ((px_is pm_X5_stateFact).getD 1 []).all (fun e => decide (decode (px_cc pm_X5_stateFact) e.1 = .ok (e.2.1, e.2.2))) = true := by decide +kernel
theorem pd_X5_stateFact : px_okD pm_X5_stateFact = true := by
  unfold px_okD
  exact px_by_rows 2 rfl fun o ho => match o, ho with
    | 0, _ => pd_X5_stateFact_0
    | 1, _ => pd_X5_stateFact_1
    | n + 2, h => absurd h (by omega)
set_option maxRecDepth 100000 in
theorem pd_X5_removeFact_0 : ((px_is pm_X5_removeFact).getD 0 []).all (fun e => decide (decode (px_cc pm_X5_removeFact) e.1 = .ok (e.2.1, e.2.2))) = true := by decide +kernel
theorem pd_X5_removeFact : px_okD pm_X5_removeFact = true := by
  unfold px_okD
  exact px_by_rows 1 rfl fun o ho => match o, ho with
    | 0, _ => pd_X5_removeFact_0
    | n + 1, h => absurd h (by omega)
set_option maxRecDepth 100000 in
theorem pd_X5_settle_0 : ((px_is pm_X5_settle).getD 0 []).all (fun e => decide (decode (px_cc pm_X5_settle) e.1 = .ok (e.2.1, e.2.2))) = true := by decide +kernel
set_option maxRecDepth 100000 in
theorem pd_X5_settle_1 : ((px_is pm_X5_settle).getD 1 []).all (fun e => decide (decode (px_cc pm_X5_settle) e.1 = .ok (e.2.1, e.2.2))) = true := by decide +kernel
theorem pd_X5_settle : px_okD pm_X5_settle = true := by
  unfold px_okD
  exact px_by_rows 2 rfl fun o ho => match o, ho with
    | 0, _ => pd_X5_settle_0
    | 1, _ => pd_X5_settle_1
    | n + 2, h => absurd h (by omega)
set_option maxRecDepth 100000 in
theorem pd_X5_dropLoose_0 : ((px_is pm_X5_dropLoose).getD 0 []).all (fun e => decide (decode (px_cc pm_X5_dropLoose) e.1 = .ok (e.2.1, e.2.2))) = true := by decide +kernel
set_option maxRecDepth 100000 in
theorem pd_X5_dropLoose_1 : ((px_is pm_X5_dropLoose).getD 1 []).all (fun e => decide (decode (px_cc pm_X5_dropLoose) e.1 = .ok (e.2.1, e.2.2))) = true := by decide +kernel
theorem pd_X5_dropLoose : px_okD pm_X5_dropLoose = true := by
  unfold px_okD
  exact px_by_rows 2 rfl fun o ho => match o, ho with
    | 0, _ => pd_X5_dropLoose_0
    | 1, _ => pd_X5_dropLoose_1
    | n + 2, h => absurd h (by omega)
set_option maxRecDepth 100000 in
theorem pd_X5_fireUpTo_0 : ((px_is pm_X5_fireUpTo).getD 0 []).all (fun e => decide (decode (px_cc pm_X5_fireUpTo) e.1 = .ok (e.2.1, e.2.2))) = true := by decide +kernel
set_option maxRecDepth 100000 in
theorem pd_X5_fireUpTo_1 : ((px_is pm_X5_fireUpTo).getD 1 []).all (fun e => decide (decode (px_cc pm_X5_fireUpTo) e.1 = .ok (e.2.1, e.2.2))) = true := by decide +kernel
set_option maxRecDepth 100000 in
theorem pd_X5_fireUpTo_2 : ((px_is pm_X5_fireUpTo).getD 2 []).all (fun e => decide (decode (px_cc pm_X5_fireUpTo) e.1 = .ok (e.2.1, e.2.2))) = true := by decide +kernel
theorem pd_X5_fireUpTo : px_okD pm_X5_fireUpTo = true := by
  unfold px_okD
  exact px_by_rows 3 rfl fun o ho => match o, ho with
    | 0, _ => pd_X5_fireUpTo_0
    | 1, _ => pd_X5_fireUpTo_1
    | 2, _ => pd_X5_fireUpTo_2
    | n + 3, h => absurd h (by omega)
set_option maxRecDepth 100000 in
theorem pd_X5_remember_0 : ((px_is pm_X5_remember).getD 0 []).all (fun e => decide (decode (px_cc pm_X5_remember) e.1 = .ok (e.2.1, e.2.2))) = true := by decide +kernel
theorem pd_X5_remember : px_okD pm_X5_remember = true := by
  unfold px_okD
  exact px_by_rows 1 rfl fun o ho => match o, ho with
    | 0, _ => pd_X5_remember_0
    | n + 1, h => absurd h (by omega)
set_option maxRecDepth 100000 in
theorem pd_X5_dropFiring_0 : ((px_is pm_X5_dropFiring).getD 0 []).all (fun e => decide (decode (px_cc pm_X5_dropFiring) e.1 = .ok (e.2.1, e.2.2))) = true := by decide +kernel
theorem pd_X5_dropFiring : px_okD pm_X5_dropFiring = true := by
  unfold px_okD
  exact px_by_rows 1 rfl fun o ho => match o, ho with
    | 0, _ => pd_X5_dropFiring_0
    | n + 1, h => absurd h (by omega)
set_option maxRecDepth 100000 in
theorem pd_X5_tell_0 : ((px_is pm_X5_tell).getD 0 []).all (fun e => decide (decode (px_cc pm_X5_tell) e.1 = .ok (e.2.1, e.2.2))) = true := by decide +kernel
set_option maxRecDepth 100000 in
theorem pd_X5_tell_1 : ((px_is pm_X5_tell).getD 1 []).all (fun e => decide (decode (px_cc pm_X5_tell) e.1 = .ok (e.2.1, e.2.2))) = true := by decide +kernel
set_option maxRecDepth 100000 in
theorem pd_X5_tell_2 : ((px_is pm_X5_tell).getD 2 []).all (fun e => decide (decode (px_cc pm_X5_tell) e.1 = .ok (e.2.1, e.2.2))) = true := by decide +kernel
theorem pd_X5_tell : px_okD pm_X5_tell = true := by
  unfold px_okD
  exact px_by_rows 3 rfl fun o ho => match o, ho with
    | 0, _ => pd_X5_tell_0
    | 1, _ => pd_X5_tell_1
    | 2, _ => pd_X5_tell_2
    | n + 3, h => absurd h (by omega)
set_option maxRecDepth 100000 in
theorem pd_X5_countWaiting_0 : ((px_is pm_X5_countWaiting).getD 0 []).all (fun e => decide (decode (px_cc pm_X5_countWaiting) e.1 = .ok (e.2.1, e.2.2))) = true := by decide +kernel
theorem pd_X5_countWaiting : px_okD pm_X5_countWaiting = true := by
  unfold px_okD
  exact px_by_rows 1 rfl fun o ho => match o, ho with
    | 0, _ => pd_X5_countWaiting_0
    | n + 1, h => absurd h (by omega)
set_option maxRecDepth 100000 in
theorem pd_X5_firstWaiting_0 : ((px_is pm_X5_firstWaiting).getD 0 []).all (fun e => decide (decode (px_cc pm_X5_firstWaiting) e.1 = .ok (e.2.1, e.2.2))) = true := by decide +kernel
set_option maxRecDepth 100000 in
theorem pd_X5_firstWaiting_1 : ((px_is pm_X5_firstWaiting).getD 1 []).all (fun e => decide (decode (px_cc pm_X5_firstWaiting) e.1 = .ok (e.2.1, e.2.2))) = true := by decide +kernel
theorem pd_X5_firstWaiting : px_okD pm_X5_firstWaiting = true := by
  unfold px_okD
  exact px_by_rows 2 rfl fun o ho => match o, ho with
    | 0, _ => pd_X5_firstWaiting_0
    | 1, _ => pd_X5_firstWaiting_1
    | n + 2, h => absurd h (by omega)
set_option maxRecDepth 100000 in
theorem pd_X5_goesAhead_0 : ((px_is pm_X5_goesAhead).getD 0 []).all (fun e => decide (decode (px_cc pm_X5_goesAhead) e.1 = .ok (e.2.1, e.2.2))) = true := by decide +kernel
theorem pd_X5_goesAhead : px_okD pm_X5_goesAhead = true := by
  unfold px_okD
  exact px_by_rows 1 rfl fun o ho => match o, ho with
    | 0, _ => pd_X5_goesAhead_0
    | n + 1, h => absurd h (by omega)
set_option maxRecDepth 100000 in
theorem pd_X5_urgencyOf_0 : ((px_is pm_X5_urgencyOf).getD 0 []).all (fun e => decide (decode (px_cc pm_X5_urgencyOf) e.1 = .ok (e.2.1, e.2.2))) = true := by decide +kernel
theorem pd_X5_urgencyOf : px_okD pm_X5_urgencyOf = true := by
  unfold px_okD
  exact px_by_rows 1 rfl fun o ho => match o, ho with
    | 0, _ => pd_X5_urgencyOf_0
    | n + 1, h => absurd h (by omega)
set_option maxRecDepth 100000 in
theorem pd_X5_factAt_0 : ((px_is pm_X5_factAt).getD 0 []).all (fun e => decide (decode (px_cc pm_X5_factAt) e.1 = .ok (e.2.1, e.2.2))) = true := by decide +kernel
theorem pd_X5_factAt : px_okD pm_X5_factAt = true := by
  unfold px_okD
  exact px_by_rows 1 rfl fun o ho => match o, ho with
    | 0, _ => pd_X5_factAt_0
    | n + 1, h => absurd h (by omega)
set_option maxRecDepth 100000 in
theorem pd_X5_variableIn_0 : ((px_is pm_X5_variableIn).getD 0 []).all (fun e => decide (decode (px_cc pm_X5_variableIn) e.1 = .ok (e.2.1, e.2.2))) = true := by decide +kernel
theorem pd_X5_variableIn : px_okD pm_X5_variableIn = true := by
  unfold px_okD
  exact px_by_rows 1 rfl fun o ho => match o, ho with
    | 0, _ => pd_X5_variableIn_0
    | n + 1, h => absurd h (by omega)
set_option maxRecDepth 100000 in
theorem pd_X5_countSupports_0 : ((px_is pm_X5_countSupports).getD 0 []).all (fun e => decide (decode (px_cc pm_X5_countSupports) e.1 = .ok (e.2.1, e.2.2))) = true := by decide +kernel
set_option maxRecDepth 100000 in
theorem pd_X5_countSupports_1 : ((px_is pm_X5_countSupports).getD 1 []).all (fun e => decide (decode (px_cc pm_X5_countSupports) e.1 = .ok (e.2.1, e.2.2))) = true := by decide +kernel
theorem pd_X5_countSupports : px_okD pm_X5_countSupports = true := by
  unfold px_okD
  exact px_by_rows 2 rfl fun o ho => match o, ho with
    | 0, _ => pd_X5_countSupports_0
    | 1, _ => pd_X5_countSupports_1
    | n + 2, h => absurd h (by omega)
set_option maxRecDepth 100000 in
theorem pd_X5_firstReason_0 : ((px_is pm_X5_firstReason).getD 0 []).all (fun e => decide (decode (px_cc pm_X5_firstReason) e.1 = .ok (e.2.1, e.2.2))) = true := by decide +kernel
theorem pd_X5_firstReason : px_okD pm_X5_firstReason = true := by
  unfold px_okD
  exact px_by_rows 1 rfl fun o ho => match o, ho with
    | 0, _ => pd_X5_firstReason_0
    | n + 1, h => absurd h (by omega)
set_option maxRecDepth 100000 in
theorem pd_X5_countUses_0 : ((px_is pm_X5_countUses).getD 0 []).all (fun e => decide (decode (px_cc pm_X5_countUses) e.1 = .ok (e.2.1, e.2.2))) = true := by decide +kernel
set_option maxRecDepth 100000 in
theorem pd_X5_countUses_1 : ((px_is pm_X5_countUses).getD 1 []).all (fun e => decide (decode (px_cc pm_X5_countUses) e.1 = .ok (e.2.1, e.2.2))) = true := by decide +kernel
theorem pd_X5_countUses : px_okD pm_X5_countUses = true := by
  unfold px_okD
  exact px_by_rows 2 rfl fun o ho => match o, ho with
    | 0, _ => pd_X5_countUses_0
    | 1, _ => pd_X5_countUses_1
    | n + 2, h => absurd h (by omega)
set_option maxRecDepth 100000 in
theorem pd_X5_findDistances_0 : ((px_is pm_X5_findDistances).getD 0 []).all (fun e => decide (decode (px_cc pm_X5_findDistances) e.1 = .ok (e.2.1, e.2.2))) = true := by decide +kernel
theorem pd_X5_findDistances : px_okD pm_X5_findDistances = true := by
  unfold px_okD
  exact px_by_rows 1 rfl fun o ho => match o, ho with
    | 0, _ => pd_X5_findDistances_0
    | n + 1, h => absurd h (by omega)
set_option maxRecDepth 100000 in
theorem pd_X5_reach_0 : ((px_is pm_X5_reach).getD 0 []).all (fun e => decide (decode (px_cc pm_X5_reach) e.1 = .ok (e.2.1, e.2.2))) = true := by decide +kernel
set_option maxRecDepth 100000 in
theorem pd_X5_reach_1 : ((px_is pm_X5_reach).getD 1 []).all (fun e => decide (decode (px_cc pm_X5_reach) e.1 = .ok (e.2.1, e.2.2))) = true := by decide +kernel
set_option maxRecDepth 100000 in
theorem pd_X5_reach_2 : ((px_is pm_X5_reach).getD 2 []).all (fun e => decide (decode (px_cc pm_X5_reach) e.1 = .ok (e.2.1, e.2.2))) = true := by decide +kernel
theorem pd_X5_reach : px_okD pm_X5_reach = true := by
  unfold px_okD
  exact px_by_rows 3 rfl fun o ho => match o, ho with
    | 0, _ => pd_X5_reach_0
    | 1, _ => pd_X5_reach_1
    | 2, _ => pd_X5_reach_2
    | n + 3, h => absurd h (by omega)
set_option maxRecDepth 100000 in
theorem pd_X5_isNearer_0 : ((px_is pm_X5_isNearer).getD 0 []).all (fun e => decide (decode (px_cc pm_X5_isNearer) e.1 = .ok (e.2.1, e.2.2))) = true := by decide +kernel
theorem pd_X5_isNearer : px_okD pm_X5_isNearer = true := by
  unfold px_okD
  exact px_by_rows 1 rfl fun o ho => match o, ho with
    | 0, _ => pd_X5_isNearer_0
    | n + 1, h => absurd h (by omega)
set_option maxRecDepth 100000 in
theorem pd_X6_init_0 : ((px_is pm_X6_init).getD 0 []).all (fun e => decide (decode (px_cc pm_X6_init) e.1 = .ok (e.2.1, e.2.2))) = true := by decide +kernel
theorem pd_X6_init : px_okD pm_X6_init = true := by
  unfold px_okD
  exact px_by_rows 1 rfl fun o ho => match o, ho with
    | 0, _ => pd_X6_init_0
    | n + 1, h => absurd h (by omega)
set_option maxRecDepth 100000 in
theorem pd_X6_addRule_0 : ((px_is pm_X6_addRule).getD 0 []).all (fun e => decide (decode (px_cc pm_X6_addRule) e.1 = .ok (e.2.1, e.2.2))) = true := by decide +kernel
set_option maxRecDepth 100000 in
theorem pd_X6_addRule_1 : ((px_is pm_X6_addRule).getD 1 []).all (fun e => decide (decode (px_cc pm_X6_addRule) e.1 = .ok (e.2.1, e.2.2))) = true := by decide +kernel
theorem pd_X6_addRule : px_okD pm_X6_addRule = true := by
  unfold px_okD
  exact px_by_rows 2 rfl fun o ho => match o, ho with
    | 0, _ => pd_X6_addRule_0
    | 1, _ => pd_X6_addRule_1
    | n + 2, h => absurd h (by omega)
set_option maxRecDepth 100000 in
theorem pd_X6_addCondition_0 : ((px_is pm_X6_addCondition).getD 0 []).all (fun e => decide (decode (px_cc pm_X6_addCondition) e.1 = .ok (e.2.1, e.2.2))) = true := by decide +kernel
set_option maxRecDepth 100000 in
theorem pd_X6_addCondition_1 : ((px_is pm_X6_addCondition).getD 1 []).all (fun e => decide (decode (px_cc pm_X6_addCondition) e.1 = .ok (e.2.1, e.2.2))) = true := by decide +kernel
theorem pd_X6_addCondition : px_okD pm_X6_addCondition = true := by
  unfold px_okD
  exact px_by_rows 2 rfl fun o ho => match o, ho with
    | 0, _ => pd_X6_addCondition_0
    | 1, _ => pd_X6_addCondition_1
    | n + 2, h => absurd h (by omega)
set_option maxRecDepth 100000 in
theorem pd_X6_setTest_0 : ((px_is pm_X6_setTest).getD 0 []).all (fun e => decide (decode (px_cc pm_X6_setTest) e.1 = .ok (e.2.1, e.2.2))) = true := by decide +kernel
set_option maxRecDepth 100000 in
theorem pd_X6_setTest_1 : ((px_is pm_X6_setTest).getD 1 []).all (fun e => decide (decode (px_cc pm_X6_setTest) e.1 = .ok (e.2.1, e.2.2))) = true := by decide +kernel
theorem pd_X6_setTest : px_okD pm_X6_setTest = true := by
  unfold px_okD
  exact px_by_rows 2 rfl fun o ho => match o, ho with
    | 0, _ => pd_X6_setTest_0
    | 1, _ => pd_X6_setTest_1
    | n + 2, h => absurd h (by omega)
set_option maxRecDepth 100000 in
theorem pd_X6_addTold_0 : ((px_is pm_X6_addTold).getD 0 []).all (fun e => decide (decode (px_cc pm_X6_addTold) e.1 = .ok (e.2.1, e.2.2))) = true := by decide +kernel
set_option maxRecDepth 100000 in
theorem pd_X6_addTold_1 : ((px_is pm_X6_addTold).getD 1 []).all (fun e => decide (decode (px_cc pm_X6_addTold) e.1 = .ok (e.2.1, e.2.2))) = true := by decide +kernel
theorem pd_X6_addTold : px_okD pm_X6_addTold = true := by
  unfold px_okD
  exact px_by_rows 2 rfl fun o ho => match o, ho with
    | 0, _ => pd_X6_addTold_0
    | 1, _ => pd_X6_addTold_1
    | n + 2, h => absurd h (by omega)
set_option maxRecDepth 100000 in
theorem pd_X6_setValue_0 : ((px_is pm_X6_setValue).getD 0 []).all (fun e => decide (decode (px_cc pm_X6_setValue) e.1 = .ok (e.2.1, e.2.2))) = true := by decide +kernel
set_option maxRecDepth 100000 in
theorem pd_X6_setValue_1 : ((px_is pm_X6_setValue).getD 1 []).all (fun e => decide (decode (px_cc pm_X6_setValue) e.1 = .ok (e.2.1, e.2.2))) = true := by decide +kernel
theorem pd_X6_setValue : px_okD pm_X6_setValue = true := by
  unfold px_okD
  exact px_by_rows 2 rfl fun o ho => match o, ho with
    | 0, _ => pd_X6_setValue_0
    | 1, _ => pd_X6_setValue_1
    | n + 2, h => absurd h (by omega)
set_option maxRecDepth 100000 in
theorem pd_X6_addRetract_0 : ((px_is pm_X6_addRetract).getD 0 []).all (fun e => decide (decode (px_cc pm_X6_addRetract) e.1 = .ok (e.2.1, e.2.2))) = true := by decide +kernel
theorem pd_X6_addRetract : px_okD pm_X6_addRetract = true := by
  unfold px_okD
  exact px_by_rows 1 rfl fun o ho => match o, ho with
    | 0, _ => pd_X6_addRetract_0
    | n + 1, h => absurd h (by omega)
set_option maxRecDepth 100000 in
theorem pd_X6_switchOn_0 : ((px_is pm_X6_switchOn).getD 0 []).all (fun e => decide (decode (px_cc pm_X6_switchOn) e.1 = .ok (e.2.1, e.2.2))) = true := by decide +kernel
set_option maxRecDepth 100000 in
theorem pd_X6_switchOn_1 : ((px_is pm_X6_switchOn).getD 1 []).all (fun e => decide (decode (px_cc pm_X6_switchOn) e.1 = .ok (e.2.1, e.2.2))) = true := by decide +kernel
theorem pd_X6_switchOn : px_okD pm_X6_switchOn = true := by
  unfold px_okD
  exact px_by_rows 2 rfl fun o ho => match o, ho with
    | 0, _ => pd_X6_switchOn_0
    | 1, _ => pd_X6_switchOn_1
    | n + 2, h => absurd h (by omega)
set_option maxRecDepth 100000 in
theorem pd_X6_switchOff_0 : ((px_is pm_X6_switchOff).getD 0 []).all (fun e => decide (decode (px_cc pm_X6_switchOff) e.1 = .ok (e.2.1, e.2.2))) = true := by decide +kernel
set_option maxRecDepth 100000 in
theorem pd_X6_switchOff_1 : ((px_is pm_X6_switchOff).getD 1 []).all (fun e => decide (decode (px_cc pm_X6_switchOff) e.1 = .ok (e.2.1, e.2.2))) = true := by decide +kernel
theorem pd_X6_switchOff : px_okD pm_X6_switchOff = true := by
  unfold px_okD
  exact px_by_rows 2 rfl fun o ho => match o, ho with
    | 0, _ => pd_X6_switchOff_0
    | 1, _ => pd_X6_switchOff_1
    | n + 2, h => absurd h (by omega)
set_option maxRecDepth 100000 in
theorem pd_X6_state_0 : ((px_is pm_X6_state).getD 0 []).all (fun e => decide (decode (px_cc pm_X6_state) e.1 = .ok (e.2.1, e.2.2))) = true := by decide +kernel
set_option maxRecDepth 100000 in
theorem pd_X6_state_1 : ((px_is pm_X6_state).getD 1 []).all (fun e => decide (decode (px_cc pm_X6_state) e.1 = .ok (e.2.1, e.2.2))) = true := by decide +kernel
theorem pd_X6_state : px_okD pm_X6_state = true := by
  unfold px_okD
  exact px_by_rows 2 rfl fun o ho => match o, ho with
    | 0, _ => pd_X6_state_0
    | 1, _ => pd_X6_state_1
    | n + 2, h => absurd h (by omega)
set_option maxRecDepth 100000 in
theorem pd_X6_takeBack_0 : ((px_is pm_X6_takeBack).getD 0 []).all (fun e => decide (decode (px_cc pm_X6_takeBack) e.1 = .ok (e.2.1, e.2.2))) = true := by decide +kernel
set_option maxRecDepth 100000 in
theorem pd_X6_takeBack_1 : ((px_is pm_X6_takeBack).getD 1 []).all (fun e => decide (decode (px_cc pm_X6_takeBack) e.1 = .ok (e.2.1, e.2.2))) = true := by decide +kernel
theorem pd_X6_takeBack : px_okD pm_X6_takeBack = true := by
  unfold px_okD
  exact px_by_rows 2 rfl fun o ho => match o, ho with
    | 0, _ => pd_X6_takeBack_0
    | 1, _ => pd_X6_takeBack_1
    | n + 2, h => absurd h (by omega)
set_option maxRecDepth 100000 in
theorem pd_X6_retract_0 : ((px_is pm_X6_retract).getD 0 []).all (fun e => decide (decode (px_cc pm_X6_retract) e.1 = .ok (e.2.1, e.2.2))) = true := by decide +kernel
theorem pd_X6_retract : px_okD pm_X6_retract = true := by
  unfold px_okD
  exact px_by_rows 1 rfl fun o ho => match o, ho with
    | 0, _ => pd_X6_retract_0
    | n + 1, h => absurd h (by omega)
set_option maxRecDepth 100000 in
theorem pd_X6_fire_0 : ((px_is pm_X6_fire).getD 0 []).all (fun e => decide (decode (px_cc pm_X6_fire) e.1 = .ok (e.2.1, e.2.2))) = true := by decide +kernel
theorem pd_X6_fire : px_okD pm_X6_fire = true := by
  unfold px_okD
  exact px_by_rows 1 rfl fun o ho => match o, ho with
    | 0, _ => pd_X6_fire_0
    | n + 1, h => absurd h (by omega)
set_option maxRecDepth 100000 in
theorem pd_X6_rules_0 : ((px_is pm_X6_rules).getD 0 []).all (fun e => decide (decode (px_cc pm_X6_rules) e.1 = .ok (e.2.1, e.2.2))) = true := by decide +kernel
theorem pd_X6_rules : px_okD pm_X6_rules = true := by
  unfold px_okD
  exact px_by_rows 1 rfl fun o ho => match o, ho with
    | 0, _ => pd_X6_rules_0
    | n + 1, h => absurd h (by omega)
set_option maxRecDepth 100000 in
theorem pd_X6_isOn_0 : ((px_is pm_X6_isOn).getD 0 []).all (fun e => decide (decode (px_cc pm_X6_isOn) e.1 = .ok (e.2.1, e.2.2))) = true := by decide +kernel
theorem pd_X6_isOn : px_okD pm_X6_isOn = true := by
  unfold px_okD
  exact px_by_rows 1 rfl fun o ho => match o, ho with
    | 0, _ => pd_X6_isOn_0
    | n + 1, h => absurd h (by omega)
set_option maxRecDepth 100000 in
theorem pd_X6_isSound_0 : ((px_is pm_X6_isSound).getD 0 []).all (fun e => decide (decode (px_cc pm_X6_isSound) e.1 = .ok (e.2.1, e.2.2))) = true := by decide +kernel
theorem pd_X6_isSound : px_okD pm_X6_isSound = true := by
  unfold px_okD
  exact px_by_rows 1 rfl fun o ho => match o, ho with
    | 0, _ => pd_X6_isSound_0
    | n + 1, h => absurd h (by omega)
set_option maxRecDepth 100000 in
theorem pd_X6_urgency_0 : ((px_is pm_X6_urgency).getD 0 []).all (fun e => decide (decode (px_cc pm_X6_urgency) e.1 = .ok (e.2.1, e.2.2))) = true := by decide +kernel
theorem pd_X6_urgency : px_okD pm_X6_urgency = true := by
  unfold px_okD
  exact px_by_rows 1 rfl fun o ho => match o, ho with
    | 0, _ => pd_X6_urgency_0
    | n + 1, h => absurd h (by omega)
set_option maxRecDepth 100000 in
theorem pd_X6_conditions_0 : ((px_is pm_X6_conditions).getD 0 []).all (fun e => decide (decode (px_cc pm_X6_conditions) e.1 = .ok (e.2.1, e.2.2))) = true := by decide +kernel
theorem pd_X6_conditions : px_okD pm_X6_conditions = true := by
  unfold px_okD
  exact px_by_rows 1 rfl fun o ho => match o, ho with
    | 0, _ => pd_X6_conditions_0
    | n + 1, h => absurd h (by omega)
set_option maxRecDepth 100000 in
theorem pd_X6_actions_0 : ((px_is pm_X6_actions).getD 0 []).all (fun e => decide (decode (px_cc pm_X6_actions) e.1 = .ok (e.2.1, e.2.2))) = true := by decide +kernel
theorem pd_X6_actions : px_okD pm_X6_actions = true := by
  unfold px_okD
  exact px_by_rows 1 rfl fun o ho => match o, ho with
    | 0, _ => pd_X6_actions_0
    | n + 1, h => absurd h (by omega)
set_option maxRecDepth 100000 in
theorem pd_X6_candidates_0 : ((px_is pm_X6_candidates).getD 0 []).all (fun e => decide (decode (px_cc pm_X6_candidates) e.1 = .ok (e.2.1, e.2.2))) = true := by decide +kernel
theorem pd_X6_candidates : px_okD pm_X6_candidates = true := by
  unfold px_okD
  exact px_by_rows 1 rfl fun o ho => match o, ho with
    | 0, _ => pd_X6_candidates_0
    | n + 1, h => absurd h (by omega)
set_option maxRecDepth 100000 in
theorem pd_X6_firings_0 : ((px_is pm_X6_firings).getD 0 []).all (fun e => decide (decode (px_cc pm_X6_firings) e.1 = .ok (e.2.1, e.2.2))) = true := by decide +kernel
theorem pd_X6_firings : px_okD pm_X6_firings = true := by
  unfold px_okD
  exact px_by_rows 1 rfl fun o ho => match o, ho with
    | 0, _ => pd_X6_firings_0
    | n + 1, h => absurd h (by omega)
set_option maxRecDepth 100000 in
theorem pd_X6_facts_0 : ((px_is pm_X6_facts).getD 0 []).all (fun e => decide (decode (px_cc pm_X6_facts) e.1 = .ok (e.2.1, e.2.2))) = true := by decide +kernel
theorem pd_X6_facts : px_okD pm_X6_facts = true := by
  unfold px_okD
  exact px_by_rows 1 rfl fun o ho => match o, ho with
    | 0, _ => pd_X6_facts_0
    | n + 1, h => absurd h (by omega)
set_option maxRecDepth 100000 in
theorem pd_X6_next_0 : ((px_is pm_X6_next).getD 0 []).all (fun e => decide (decode (px_cc pm_X6_next) e.1 = .ok (e.2.1, e.2.2))) = true := by decide +kernel
theorem pd_X6_next : px_okD pm_X6_next = true := by
  unfold px_okD
  exact px_by_rows 1 rfl fun o ho => match o, ho with
    | 0, _ => pd_X6_next_0
    | n + 1, h => absurd h (by omega)
set_option maxRecDepth 100000 in
theorem pd_X6_isThere_0 : ((px_is pm_X6_isThere).getD 0 []).all (fun e => decide (decode (px_cc pm_X6_isThere) e.1 = .ok (e.2.1, e.2.2))) = true := by decide +kernel
theorem pd_X6_isThere : px_okD pm_X6_isThere = true := by
  unfold px_okD
  exact px_by_rows 1 rfl fun o ho => match o, ho with
    | 0, _ => pd_X6_isThere_0
    | n + 1, h => absurd h (by omega)
set_option maxRecDepth 100000 in
theorem pd_X6_find_0 : ((px_is pm_X6_find).getD 0 []).all (fun e => decide (decode (px_cc pm_X6_find) e.1 = .ok (e.2.1, e.2.2))) = true := by decide +kernel
theorem pd_X6_find : px_okD pm_X6_find = true := by
  unfold px_okD
  exact px_by_rows 1 rfl fun o ho => match o, ho with
    | 0, _ => pd_X6_find_0
    | n + 1, h => absurd h (by omega)
set_option maxRecDepth 100000 in
theorem pd_X6_kindOf_0 : ((px_is pm_X6_kindOf).getD 0 []).all (fun e => decide (decode (px_cc pm_X6_kindOf) e.1 = .ok (e.2.1, e.2.2))) = true := by decide +kernel
theorem pd_X6_kindOf : px_okD pm_X6_kindOf = true := by
  unfold px_okD
  exact px_by_rows 1 rfl fun o ho => match o, ho with
    | 0, _ => pd_X6_kindOf_0
    | n + 1, h => absurd h (by omega)
set_option maxRecDepth 100000 in
theorem pd_X6_valueOf_0 : ((px_is pm_X6_valueOf).getD 0 []).all (fun e => decide (decode (px_cc pm_X6_valueOf) e.1 = .ok (e.2.1, e.2.2))) = true := by decide +kernel
theorem pd_X6_valueOf : px_okD pm_X6_valueOf = true := by
  unfold px_okD
  exact px_by_rows 1 rfl fun o ho => match o, ho with
    | 0, _ => pd_X6_valueOf_0
    | n + 1, h => absurd h (by omega)
set_option maxRecDepth 100000 in
theorem pd_X6_isStated_0 : ((px_is pm_X6_isStated).getD 0 []).all (fun e => decide (decode (px_cc pm_X6_isStated) e.1 = .ok (e.2.1, e.2.2))) = true := by decide +kernel
theorem pd_X6_isStated : px_okD pm_X6_isStated = true := by
  unfold px_okD
  exact px_by_rows 1 rfl fun o ho => match o, ho with
    | 0, _ => pd_X6_isStated_0
    | n + 1, h => absurd h (by omega)
set_option maxRecDepth 100000 in
theorem pd_X6_supports_0 : ((px_is pm_X6_supports).getD 0 []).all (fun e => decide (decode (px_cc pm_X6_supports) e.1 = .ok (e.2.1, e.2.2))) = true := by decide +kernel
theorem pd_X6_supports : px_okD pm_X6_supports = true := by
  unfold px_okD
  exact px_by_rows 1 rfl fun o ho => match o, ho with
    | 0, _ => pd_X6_supports_0
    | n + 1, h => absurd h (by omega)
set_option maxRecDepth 100000 in
theorem pd_X6_because_0 : ((px_is pm_X6_because).getD 0 []).all (fun e => decide (decode (px_cc pm_X6_because) e.1 = .ok (e.2.1, e.2.2))) = true := by decide +kernel
theorem pd_X6_because : px_okD pm_X6_because = true := by
  unfold px_okD
  exact px_by_rows 1 rfl fun o ho => match o, ho with
    | 0, _ => pd_X6_because_0
    | n + 1, h => absurd h (by omega)
set_option maxRecDepth 100000 in
theorem pd_X6_distance_0 : ((px_is pm_X6_distance).getD 0 []).all (fun e => decide (decode (px_cc pm_X6_distance) e.1 = .ok (e.2.1, e.2.2))) = true := by decide +kernel
theorem pd_X6_distance : px_okD pm_X6_distance = true := by
  unfold px_okD
  exact px_by_rows 1 rfl fun o ho => match o, ho with
    | 0, _ => pd_X6_distance_0
    | n + 1, h => absurd h (by omega)
set_option maxRecDepth 100000 in
theorem pd_X6_uses_0 : ((px_is pm_X6_uses).getD 0 []).all (fun e => decide (decode (px_cc pm_X6_uses) e.1 = .ok (e.2.1, e.2.2))) = true := by decide +kernel
theorem pd_X6_uses : px_okD pm_X6_uses = true := by
  unfold px_okD
  exact px_by_rows 1 rfl fun o ho => match o, ho with
    | 0, _ => pd_X6_uses_0
    | n + 1, h => absurd h (by omega)
set_option maxRecDepth 100000 in
theorem pd_X6_matches_0 : ((px_is pm_X6_matches).getD 0 []).all (fun e => decide (decode (px_cc pm_X6_matches) e.1 = .ok (e.2.1, e.2.2))) = true := by decide +kernel
theorem pd_X6_matches : px_okD pm_X6_matches = true := by
  unfold px_okD
  exact px_by_rows 1 rfl fun o ho => match o, ho with
    | 0, _ => pd_X6_matches_0
    | n + 1, h => absurd h (by omega)
set_option maxRecDepth 100000 in
theorem pd_X6_factOf_0 : ((px_is pm_X6_factOf).getD 0 []).all (fun e => decide (decode (px_cc pm_X6_factOf) e.1 = .ok (e.2.1, e.2.2))) = true := by decide +kernel
theorem pd_X6_factOf : px_okD pm_X6_factOf = true := by
  unfold px_okD
  exact px_by_rows 1 rfl fun o ho => match o, ho with
    | 0, _ => pd_X6_factOf_0
    | n + 1, h => absurd h (by omega)
set_option maxRecDepth 100000 in
theorem pd_X6_hasFired_0 : ((px_is pm_X6_hasFired).getD 0 []).all (fun e => decide (decode (px_cc pm_X6_hasFired) e.1 = .ok (e.2.1, e.2.2))) = true := by decide +kernel
theorem pd_X6_hasFired : px_okD pm_X6_hasFired = true := by
  unfold px_okD
  exact px_by_rows 1 rfl fun o ho => match o, ho with
    | 0, _ => pd_X6_hasFired_0
    | n + 1, h => absurd h (by omega)
set_option maxRecDepth 100000 in
theorem pd_X6_variableOf_0 : ((px_is pm_X6_variableOf).getD 0 []).all (fun e => decide (decode (px_cc pm_X6_variableOf) e.1 = .ok (e.2.1, e.2.2))) = true := by decide +kernel
theorem pd_X6_variableOf : px_okD pm_X6_variableOf = true := by
  unfold px_okD
  exact px_by_rows 1 rfl fun o ho => match o, ho with
    | 0, _ => pd_X6_variableOf_0
    | n + 1, h => absurd h (by omega)
set_option maxRecDepth 100000 in
theorem pd_X6_agenda_0 : ((px_is pm_X6_agenda).getD 0 []).all (fun e => decide (decode (px_cc pm_X6_agenda) e.1 = .ok (e.2.1, e.2.2))) = true := by decide +kernel
theorem pd_X6_agenda : px_okD pm_X6_agenda = true := by
  unfold px_okD
  exact px_by_rows 1 rfl fun o ho => match o, ho with
    | 0, _ => pd_X6_agenda_0
    | n + 1, h => absurd h (by omega)
set_option maxRecDepth 100000 in
theorem pd_X6_nextRule_0 : ((px_is pm_X6_nextRule).getD 0 []).all (fun e => decide (decode (px_cc pm_X6_nextRule) e.1 = .ok (e.2.1, e.2.2))) = true := by decide +kernel
theorem pd_X6_nextRule : px_okD pm_X6_nextRule = true := by
  unfold px_okD
  exact px_by_rows 1 rfl fun o ho => match o, ho with
    | 0, _ => pd_X6_nextRule_0
    | n + 1, h => absurd h (by omega)
set_option maxRecDepth 100000 in
theorem pd_X6_nextFact_0 : ((px_is pm_X6_nextFact).getD 0 []).all (fun e => decide (decode (px_cc pm_X6_nextFact) e.1 = .ok (e.2.1, e.2.2))) = true := by decide +kernel
theorem pd_X6_nextFact : px_okD pm_X6_nextFact = true := by
  unfold px_okD
  exact px_by_rows 1 rfl fun o ho => match o, ho with
    | 0, _ => pd_X6_nextFact_0
    | n + 1, h => absurd h (by omega)
set_option maxRecDepth 100000 in
theorem pd_X6_fired_0 : ((px_is pm_X6_fired).getD 0 []).all (fun e => decide (decode (px_cc pm_X6_fired) e.1 = .ok (e.2.1, e.2.2))) = true := by decide +kernel
theorem pd_X6_fired : px_okD pm_X6_fired = true := by
  unfold px_okD
  exact px_by_rows 1 rfl fun o ho => match o, ho with
    | 0, _ => pd_X6_fired_0
    | n + 1, h => absurd h (by omega)
set_option maxRecDepth 100000 in
theorem pd_X6_meanSupports_0 : ((px_is pm_X6_meanSupports).getD 0 []).all (fun e => decide (decode (px_cc pm_X6_meanSupports) e.1 = .ok (e.2.1, e.2.2))) = true := by decide +kernel
set_option maxRecDepth 100000 in
theorem pd_X6_meanSupports_1 : ((px_is pm_X6_meanSupports).getD 1 []).all (fun e => decide (decode (px_cc pm_X6_meanSupports) e.1 = .ok (e.2.1, e.2.2))) = true := by decide +kernel
theorem pd_X6_meanSupports : px_okD pm_X6_meanSupports = true := by
  unfold px_okD
  exact px_by_rows 2 rfl fun o ho => match o, ho with
    | 0, _ => pd_X6_meanSupports_0
    | 1, _ => pd_X6_meanSupports_1
    | n + 2, h => absurd h (by omega)
set_option maxRecDepth 100000 in
theorem pd_X6_factsBehind_0 : ((px_is pm_X6_factsBehind).getD 0 []).all (fun e => decide (decode (px_cc pm_X6_factsBehind) e.1 = .ok (e.2.1, e.2.2))) = true := by decide +kernel
theorem pd_X6_factsBehind : px_okD pm_X6_factsBehind = true := by
  unfold px_okD
  exact px_by_rows 1 rfl fun o ho => match o, ho with
    | 0, _ => pd_X6_factsBehind_0
    | n + 1, h => absurd h (by omega)
set_option maxRecDepth 100000 in
theorem pd_X6_firingsToRest_0 : ((px_is pm_X6_firingsToRest).getD 0 []).all (fun e => decide (decode (px_cc pm_X6_firingsToRest) e.1 = .ok (e.2.1, e.2.2))) = true := by decide +kernel
theorem pd_X6_firingsToRest : px_okD pm_X6_firingsToRest = true := by
  unfold px_okD
  exact px_by_rows 1 rfl fun o ho => match o, ho with
    | 0, _ => pd_X6_firingsToRest_0
    | n + 1, h => absurd h (by omega)
set_option maxRecDepth 100000 in
theorem pd_X6_wouldGo_0 : ((px_is pm_X6_wouldGo).getD 0 []).all (fun e => decide (decode (px_cc pm_X6_wouldGo) e.1 = .ok (e.2.1, e.2.2))) = true := by decide +kernel
theorem pd_X6_wouldGo : px_okD pm_X6_wouldGo = true := by
  unfold px_okD
  exact px_by_rows 1 rfl fun o ho => match o, ho with
    | 0, _ => pd_X6_wouldGo_0
    | n + 1, h => absurd h (by omega)
set_option maxRecDepth 100000 in
theorem pd_X6_wouldHold_0 : ((px_is pm_X6_wouldHold).getD 0 []).all (fun e => decide (decode (px_cc pm_X6_wouldHold) e.1 = .ok (e.2.1, e.2.2))) = true := by decide +kernel
theorem pd_X6_wouldHold : px_okD pm_X6_wouldHold = true := by
  unfold px_okD
  exact px_by_rows 1 rfl fun o ho => match o, ho with
    | 0, _ => pd_X6_wouldHold_0
    | n + 1, h => absurd h (by omega)
set_option maxRecDepth 100000 in
theorem pd_X6_digest_0 : ((px_is pm_X6_digest).getD 0 []).all (fun e => decide (decode (px_cc pm_X6_digest) e.1 = .ok (e.2.1, e.2.2))) = true := by decide +kernel
set_option maxRecDepth 100000 in
theorem pd_X6_digest_1 : ((px_is pm_X6_digest).getD 1 []).all (fun e => decide (decode (px_cc pm_X6_digest) e.1 = .ok (e.2.1, e.2.2))) = true := by decide +kernel
set_option maxRecDepth 100000 in
theorem pd_X6_digest_2 : ((px_is pm_X6_digest).getD 2 []).all (fun e => decide (decode (px_cc pm_X6_digest) e.1 = .ok (e.2.1, e.2.2))) = true := by decide +kernel
set_option maxRecDepth 100000 in
theorem pd_X6_digest_3 : ((px_is pm_X6_digest).getD 3 []).all (fun e => decide (decode (px_cc pm_X6_digest) e.1 = .ok (e.2.1, e.2.2))) = true := by decide +kernel
theorem pd_X6_digest : px_okD pm_X6_digest = true := by
  unfold px_okD
  exact px_by_rows 4 rfl fun o ho => match o, ho with
    | 0, _ => pd_X6_digest_0
    | 1, _ => pd_X6_digest_1
    | 2, _ => pd_X6_digest_2
    | 3, _ => pd_X6_digest_3
    | n + 4, h => absurd h (by omega)
set_option maxRecDepth 100000 in
theorem pd_X6_digestOfRule_0 : ((px_is pm_X6_digestOfRule).getD 0 []).all (fun e => decide (decode (px_cc pm_X6_digestOfRule) e.1 = .ok (e.2.1, e.2.2))) = true := by decide +kernel
set_option maxRecDepth 100000 in
theorem pd_X6_digestOfRule_1 : ((px_is pm_X6_digestOfRule).getD 1 []).all (fun e => decide (decode (px_cc pm_X6_digestOfRule) e.1 = .ok (e.2.1, e.2.2))) = true := by decide +kernel
set_option maxRecDepth 100000 in
theorem pd_X6_digestOfRule_2 : ((px_is pm_X6_digestOfRule).getD 2 []).all (fun e => decide (decode (px_cc pm_X6_digestOfRule) e.1 = .ok (e.2.1, e.2.2))) = true := by decide +kernel
set_option maxRecDepth 100000 in
theorem pd_X6_digestOfRule_3 : ((px_is pm_X6_digestOfRule).getD 3 []).all (fun e => decide (decode (px_cc pm_X6_digestOfRule) e.1 = .ok (e.2.1, e.2.2))) = true := by decide +kernel
set_option maxRecDepth 100000 in
theorem pd_X6_digestOfRule_4 : ((px_is pm_X6_digestOfRule).getD 4 []).all (fun e => decide (decode (px_cc pm_X6_digestOfRule) e.1 = .ok (e.2.1, e.2.2))) = true := by decide +kernel
theorem pd_X6_digestOfRule : px_okD pm_X6_digestOfRule = true := by
  unfold px_okD
  exact px_by_rows 5 rfl fun o ho => match o, ho with
    | 0, _ => pd_X6_digestOfRule_0
    | 1, _ => pd_X6_digestOfRule_1
    | 2, _ => pd_X6_digestOfRule_2
    | 3, _ => pd_X6_digestOfRule_3
    | 4, _ => pd_X6_digestOfRule_4
    | n + 5, h => absurd h (by omega)
set_option maxRecDepth 100000 in
theorem pd_X6_digestOfFact_0 : ((px_is pm_X6_digestOfFact).getD 0 []).all (fun e => decide (decode (px_cc pm_X6_digestOfFact) e.1 = .ok (e.2.1, e.2.2))) = true := by decide +kernel
set_option maxRecDepth 100000 in
theorem pd_X6_digestOfFact_1 : ((px_is pm_X6_digestOfFact).getD 1 []).all (fun e => decide (decode (px_cc pm_X6_digestOfFact) e.1 = .ok (e.2.1, e.2.2))) = true := by decide +kernel
set_option maxRecDepth 100000 in
theorem pd_X6_digestOfFact_2 : ((px_is pm_X6_digestOfFact).getD 2 []).all (fun e => decide (decode (px_cc pm_X6_digestOfFact) e.1 = .ok (e.2.1, e.2.2))) = true := by decide +kernel
theorem pd_X6_digestOfFact : px_okD pm_X6_digestOfFact = true := by
  unfold px_okD
  exact px_by_rows 3 rfl fun o ho => match o, ho with
    | 0, _ => pd_X6_digestOfFact_0
    | 1, _ => pd_X6_digestOfFact_1
    | 2, _ => pd_X6_digestOfFact_2
    | n + 3, h => absurd h (by omega)
set_option maxRecDepth 100000 in
theorem pd_X6_needRule_0 : ((px_is pm_X6_needRule).getD 0 []).all (fun e => decide (decode (px_cc pm_X6_needRule) e.1 = .ok (e.2.1, e.2.2))) = true := by decide +kernel
theorem pd_X6_needRule : px_okD pm_X6_needRule = true := by
  unfold px_okD
  exact px_by_rows 1 rfl fun o ho => match o, ho with
    | 0, _ => pd_X6_needRule_0
    | n + 1, h => absurd h (by omega)
set_option maxRecDepth 100000 in
theorem pd_X6_needCondition_0 : ((px_is pm_X6_needCondition).getD 0 []).all (fun e => decide (decode (px_cc pm_X6_needCondition) e.1 = .ok (e.2.1, e.2.2))) = true := by decide +kernel
theorem pd_X6_needCondition : px_okD pm_X6_needCondition = true := by
  unfold px_okD
  exact px_by_rows 1 rfl fun o ho => match o, ho with
    | 0, _ => pd_X6_needCondition_0
    | n + 1, h => absurd h (by omega)
set_option maxRecDepth 100000 in
theorem pd_X6_needFact_0 : ((px_is pm_X6_needFact).getD 0 []).all (fun e => decide (decode (px_cc pm_X6_needFact) e.1 = .ok (e.2.1, e.2.2))) = true := by decide +kernel
theorem pd_X6_needFact : px_okD pm_X6_needFact = true := by
  unfold px_okD
  exact px_by_rows 1 rfl fun o ho => match o, ho with
    | 0, _ => pd_X6_needFact_0
    | n + 1, h => absurd h (by omega)
set_option maxRecDepth 100000 in
theorem pd_X6_needMatch_0 : ((px_is pm_X6_needMatch).getD 0 []).all (fun e => decide (decode (px_cc pm_X6_needMatch) e.1 = .ok (e.2.1, e.2.2))) = true := by decide +kernel
theorem pd_X6_needMatch : px_okD pm_X6_needMatch = true := by
  unfold px_okD
  exact px_by_rows 1 rfl fun o ho => match o, ho with
    | 0, _ => pd_X6_needMatch_0
    | n + 1, h => absurd h (by omega)
set_option maxRecDepth 100000 in
theorem pd_X6_needMost_0 : ((px_is pm_X6_needMost).getD 0 []).all (fun e => decide (decode (px_cc pm_X6_needMost) e.1 = .ok (e.2.1, e.2.2))) = true := by decide +kernel
theorem pd_X6_needMost : px_okD pm_X6_needMost = true := by
  unfold px_okD
  exact px_by_rows 1 rfl fun o ho => match o, ho with
    | 0, _ => pd_X6_needMost_0
    | n + 1, h => absurd h (by omega)
set_option maxRecDepth 100000 in
theorem pd_X6_isKind_0 : ((px_is pm_X6_isKind).getD 0 []).all (fun e => decide (decode (px_cc pm_X6_isKind) e.1 = .ok (e.2.1, e.2.2))) = true := by decide +kernel
theorem pd_X6_isKind : px_okD pm_X6_isKind = true := by
  unfold px_okD
  exact px_by_rows 1 rfl fun o ho => match o, ho with
    | 0, _ => pd_X6_isKind_0
    | n + 1, h => absurd h (by omega)
set_option maxRecDepth 100000 in
theorem pd_X6_isSlot_0 : ((px_is pm_X6_isSlot).getD 0 []).all (fun e => decide (decode (px_cc pm_X6_isSlot) e.1 = .ok (e.2.1, e.2.2))) = true := by decide +kernel
theorem pd_X6_isSlot : px_okD pm_X6_isSlot = true := by
  unfold px_okD
  exact px_by_rows 1 rfl fun o ho => match o, ho with
    | 0, _ => pd_X6_isSlot_0
    | n + 1, h => absurd h (by omega)
set_option maxRecDepth 100000 in
theorem pd_X6_isValue_0 : ((px_is pm_X6_isValue).getD 0 []).all (fun e => decide (decode (px_cc pm_X6_isValue) e.1 = .ok (e.2.1, e.2.2))) = true := by decide +kernel
theorem pd_X6_isValue : px_okD pm_X6_isValue = true := by
  unfold px_okD
  exact px_by_rows 1 rfl fun o ho => match o, ho with
    | 0, _ => pd_X6_isValue_0
    | n + 1, h => absurd h (by omega)
set_option maxRecDepth 100000 in
theorem pd_X6_isTestNumber_0 : ((px_is pm_X6_isTestNumber).getD 0 []).all (fun e => decide (decode (px_cc pm_X6_isTestNumber) e.1 = .ok (e.2.1, e.2.2))) = true := by decide +kernel
theorem pd_X6_isTestNumber : px_okD pm_X6_isTestNumber = true := by
  unfold px_okD
  exact px_by_rows 1 rfl fun o ho => match o, ho with
    | 0, _ => pd_X6_isTestNumber_0
    | n + 1, h => absurd h (by omega)
set_option maxRecDepth 100000 in
theorem pd_X7_init_0 : ((px_is pm_X7_init).getD 0 []).all (fun e => decide (decode (px_cc pm_X7_init) e.1 = .ok (e.2.1, e.2.2))) = true := by decide +kernel
theorem pd_X7_init : px_okD pm_X7_init = true := by
  unfold px_okD
  exact px_by_rows 1 rfl fun o ho => match o, ho with
    | 0, _ => pd_X7_init_0
    | n + 1, h => absurd h (by omega)
set_option maxRecDepth 100000 in
theorem pd_X7_add_0 : ((px_is pm_X7_add).getD 0 []).all (fun e => decide (decode (px_cc pm_X7_add) e.1 = .ok (e.2.1, e.2.2))) = true := by decide +kernel
set_option maxRecDepth 100000 in
theorem pd_X7_add_1 : ((px_is pm_X7_add).getD 1 []).all (fun e => decide (decode (px_cc pm_X7_add) e.1 = .ok (e.2.1, e.2.2))) = true := by decide +kernel
theorem pd_X7_add : px_okD pm_X7_add = true := by
  unfold px_okD
  exact px_by_rows 2 rfl fun o ho => match o, ho with
    | 0, _ => pd_X7_add_0
    | 1, _ => pd_X7_add_1
    | n + 2, h => absurd h (by omega)
set_option maxRecDepth 100000 in
theorem pd_X7_get_0 : ((px_is pm_X7_get).getD 0 []).all (fun e => decide (decode (px_cc pm_X7_get) e.1 = .ok (e.2.1, e.2.2))) = true := by decide +kernel
theorem pd_X7_get : px_okD pm_X7_get = true := by
  unfold px_okD
  exact px_by_rows 1 rfl fun o ho => match o, ho with
    | 0, _ => pd_X7_get_0
    | n + 1, h => absurd h (by omega)
set_option maxRecDepth 100000 in
theorem pd_X7_set_0 : ((px_is pm_X7_set).getD 0 []).all (fun e => decide (decode (px_cc pm_X7_set) e.1 = .ok (e.2.1, e.2.2))) = true := by decide +kernel
theorem pd_X7_set : px_okD pm_X7_set = true := by
  unfold px_okD
  exact px_by_rows 1 rfl fun o ho => match o, ho with
    | 0, _ => pd_X7_set_0
    | n + 1, h => absurd h (by omega)
set_option maxRecDepth 100000 in
theorem pd_X7_remove_0 : ((px_is pm_X7_remove).getD 0 []).all (fun e => decide (decode (px_cc pm_X7_remove) e.1 = .ok (e.2.1, e.2.2))) = true := by decide +kernel
theorem pd_X7_remove : px_okD pm_X7_remove = true := by
  unfold px_okD
  exact px_by_rows 1 rfl fun o ho => match o, ho with
    | 0, _ => pd_X7_remove_0
    | n + 1, h => absurd h (by omega)
set_option maxRecDepth 100000 in
theorem pd_X7_become_0 : ((px_is pm_X7_become).getD 0 []).all (fun e => decide (decode (px_cc pm_X7_become) e.1 = .ok (e.2.1, e.2.2))) = true := by decide +kernel
theorem pd_X7_become : px_okD pm_X7_become = true := by
  unfold px_okD
  exact px_by_rows 1 rfl fun o ho => match o, ho with
    | 0, _ => pd_X7_become_0
    | n + 1, h => absurd h (by omega)
set_option maxRecDepth 100000 in
theorem pd_X8_init_0 : ((px_is pm_X8_init).getD 0 []).all (fun e => decide (decode (px_cc pm_X8_init) e.1 = .ok (e.2.1, e.2.2))) = true := by decide +kernel
theorem pd_X8_init : px_okD pm_X8_init = true := by
  unfold px_okD
  exact px_by_rows 1 rfl fun o ho => match o, ho with
    | 0, _ => pd_X8_init_0
    | n + 1, h => absurd h (by omega)
set_option maxRecDepth 100000 in
theorem pd_X8_eaches_0 : ((px_is pm_X8_eaches).getD 0 []).all (fun e => decide (decode (px_cc pm_X8_eaches) e.1 = .ok (e.2.1, e.2.2))) = true := by decide +kernel
theorem pd_X8_eaches : px_okD pm_X8_eaches = true := by
  unfold px_okD
  exact px_by_rows 1 rfl fun o ho => match o, ho with
    | 0, _ => pd_X8_eaches_0
    | n + 1, h => absurd h (by omega)
set_option maxRecDepth 100000 in
theorem pd_X8_binds_0 : ((px_is pm_X8_binds).getD 0 []).all (fun e => decide (decode (px_cc pm_X8_binds) e.1 = .ok (e.2.1, e.2.2))) = true := by decide +kernel
set_option maxRecDepth 100000 in
theorem pd_X8_binds_1 : ((px_is pm_X8_binds).getD 1 []).all (fun e => decide (decode (px_cc pm_X8_binds) e.1 = .ok (e.2.1, e.2.2))) = true := by decide +kernel
theorem pd_X8_binds : px_okD pm_X8_binds = true := by
  unfold px_okD
  exact px_by_rows 2 rfl fun o ho => match o, ho with
    | 0, _ => pd_X8_binds_0
    | 1, _ => pd_X8_binds_1
    | n + 2, h => absurd h (by omega)
set_option maxRecDepth 100000 in
theorem pd_X8_isSound_0 : ((px_is pm_X8_isSound).getD 0 []).all (fun e => decide (decode (px_cc pm_X8_isSound) e.1 = .ok (e.2.1, e.2.2))) = true := by decide +kernel
set_option maxRecDepth 100000 in
theorem pd_X8_isSound_1 : ((px_is pm_X8_isSound).getD 1 []).all (fun e => decide (decode (px_cc pm_X8_isSound) e.1 = .ok (e.2.1, e.2.2))) = true := by decide +kernel
set_option maxRecDepth 100000 in
theorem pd_X8_isSound_2 : ((px_is pm_X8_isSound).getD 2 []).all (fun e => decide (decode (px_cc pm_X8_isSound) e.1 = .ok (e.2.1, e.2.2))) = true := by decide +kernel
theorem pd_X8_isSound : px_okD pm_X8_isSound = true := by
  unfold px_okD
  exact px_by_rows 3 rfl fun o ho => match o, ho with
    | 0, _ => pd_X8_isSound_0
    | 1, _ => pd_X8_isSound_1
    | 2, _ => pd_X8_isSound_2
    | n + 3, h => absurd h (by omega)
set_option maxRecDepth 100000 in
theorem pd_X8_placeOf_0 : ((px_is pm_X8_placeOf).getD 0 []).all (fun e => decide (decode (px_cc pm_X8_placeOf) e.1 = .ok (e.2.1, e.2.2))) = true := by decide +kernel
theorem pd_X8_placeOf : px_okD pm_X8_placeOf = true := by
  unfold px_okD
  exact px_by_rows 1 rfl fun o ho => match o, ho with
    | 0, _ => pd_X8_placeOf_0
    | n + 1, h => absurd h (by omega)
set_option maxRecDepth 100000 in
theorem pd_X9_init_0 : ((px_is pm_X9_init).getD 0 []).all (fun e => decide (decode (px_cc pm_X9_init) e.1 = .ok (e.2.1, e.2.2))) = true := by decide +kernel
set_option maxRecDepth 100000 in
theorem pd_X9_init_1 : ((px_is pm_X9_init).getD 1 []).all (fun e => decide (decode (px_cc pm_X9_init) e.1 = .ok (e.2.1, e.2.2))) = true := by decide +kernel
theorem pd_X9_init : px_okD pm_X9_init = true := by
  unfold px_okD
  exact px_by_rows 2 rfl fun o ho => match o, ho with
    | 0, _ => pd_X9_init_0
    | 1, _ => pd_X9_init_1
    | n + 2, h => absurd h (by omega)
set_option maxRecDepth 100000 in
theorem pd_X9_become_0 : ((px_is pm_X9_become).getD 0 []).all (fun e => decide (decode (px_cc pm_X9_become) e.1 = .ok (e.2.1, e.2.2))) = true := by decide +kernel
set_option maxRecDepth 100000 in
theorem pd_X9_become_1 : ((px_is pm_X9_become).getD 1 []).all (fun e => decide (decode (px_cc pm_X9_become) e.1 = .ok (e.2.1, e.2.2))) = true := by decide +kernel
theorem pd_X9_become : px_okD pm_X9_become = true := by
  unfold px_okD
  exact px_by_rows 2 rfl fun o ho => match o, ho with
    | 0, _ => pd_X9_become_0
    | 1, _ => pd_X9_become_1
    | n + 2, h => absurd h (by omega)
set_option maxRecDepth 100000 in
theorem pd_X9_place_0 : ((px_is pm_X9_place).getD 0 []).all (fun e => decide (decode (px_cc pm_X9_place) e.1 = .ok (e.2.1, e.2.2))) = true := by decide +kernel
theorem pd_X9_place : px_okD pm_X9_place = true := by
  unfold px_okD
  exact px_by_rows 1 rfl fun o ho => match o, ho with
    | 0, _ => pd_X9_place_0
    | n + 1, h => absurd h (by omega)
set_option maxRecDepth 100000 in
theorem pd_X9_find_0 : ((px_is pm_X9_find).getD 0 []).all (fun e => decide (decode (px_cc pm_X9_find) e.1 = .ok (e.2.1, e.2.2))) = true := by decide +kernel
set_option maxRecDepth 100000 in
theorem pd_X9_find_1 : ((px_is pm_X9_find).getD 1 []).all (fun e => decide (decode (px_cc pm_X9_find) e.1 = .ok (e.2.1, e.2.2))) = true := by decide +kernel
theorem pd_X9_find : px_okD pm_X9_find = true := by
  unfold px_okD
  exact px_by_rows 2 rfl fun o ho => match o, ho with
    | 0, _ => pd_X9_find_0
    | 1, _ => pd_X9_find_1
    | n + 2, h => absurd h (by omega)
set_option maxRecDepth 100000 in
theorem pd_X9_ofKind_0 : ((px_is pm_X9_ofKind).getD 0 []).all (fun e => decide (decode (px_cc pm_X9_ofKind) e.1 = .ok (e.2.1, e.2.2))) = true := by decide +kernel
theorem pd_X9_ofKind : px_okD pm_X9_ofKind = true := by
  unfold px_okD
  exact px_by_rows 1 rfl fun o ho => match o, ho with
    | 0, _ => pd_X9_ofKind_0
    | n + 1, h => absurd h (by omega)
set_option maxRecDepth 100000 in
theorem pd_X9_fulfils_0 : ((px_is pm_X9_fulfils).getD 0 []).all (fun e => decide (decode (px_cc pm_X9_fulfils) e.1 = .ok (e.2.1, e.2.2))) = true := by decide +kernel
set_option maxRecDepth 100000 in
theorem pd_X9_fulfils_1 : ((px_is pm_X9_fulfils).getD 1 []).all (fun e => decide (decode (px_cc pm_X9_fulfils) e.1 = .ok (e.2.1, e.2.2))) = true := by decide +kernel
set_option maxRecDepth 100000 in
theorem pd_X9_fulfils_2 : ((px_is pm_X9_fulfils).getD 2 []).all (fun e => decide (decode (px_cc pm_X9_fulfils) e.1 = .ok (e.2.1, e.2.2))) = true := by decide +kernel
theorem pd_X9_fulfils : px_okD pm_X9_fulfils = true := by
  unfold px_okD
  exact px_by_rows 3 rfl fun o ho => match o, ho with
    | 0, _ => pd_X9_fulfils_0
    | 1, _ => pd_X9_fulfils_1
    | 2, _ => pd_X9_fulfils_2
    | n + 3, h => absurd h (by omega)
set_option maxRecDepth 100000 in
theorem pd_X9_fits_0 : ((px_is pm_X9_fits).getD 0 []).all (fun e => decide (decode (px_cc pm_X9_fits) e.1 = .ok (e.2.1, e.2.2))) = true := by decide +kernel
set_option maxRecDepth 100000 in
theorem pd_X9_fits_1 : ((px_is pm_X9_fits).getD 1 []).all (fun e => decide (decode (px_cc pm_X9_fits) e.1 = .ok (e.2.1, e.2.2))) = true := by decide +kernel
theorem pd_X9_fits : px_okD pm_X9_fits = true := by
  unfold px_okD
  exact px_by_rows 2 rfl fun o ho => match o, ho with
    | 0, _ => pd_X9_fits_0
    | 1, _ => pd_X9_fits_1
    | n + 2, h => absurd h (by omega)
set_option maxRecDepth 100000 in
theorem pd_X9_count_0 : ((px_is pm_X9_count).getD 0 []).all (fun e => decide (decode (px_cc pm_X9_count) e.1 = .ok (e.2.1, e.2.2))) = true := by decide +kernel
theorem pd_X9_count : px_okD pm_X9_count = true := by
  unfold px_okD
  exact px_by_rows 1 rfl fun o ho => match o, ho with
    | 0, _ => pd_X9_count_0
    | n + 1, h => absurd h (by omega)
set_option maxRecDepth 100000 in
theorem pd_X9_search_0 : ((px_is pm_X9_search).getD 0 []).all (fun e => decide (decode (px_cc pm_X9_search) e.1 = .ok (e.2.1, e.2.2))) = true := by decide +kernel
set_option maxRecDepth 100000 in
theorem pd_X9_search_1 : ((px_is pm_X9_search).getD 1 []).all (fun e => decide (decode (px_cc pm_X9_search) e.1 = .ok (e.2.1, e.2.2))) = true := by decide +kernel
set_option maxRecDepth 100000 in
theorem pd_X9_search_2 : ((px_is pm_X9_search).getD 2 []).all (fun e => decide (decode (px_cc pm_X9_search) e.1 = .ok (e.2.1, e.2.2))) = true := by decide +kernel
theorem pd_X9_search : px_okD pm_X9_search = true := by
  unfold px_okD
  exact px_by_rows 3 rfl fun o ho => match o, ho with
    | 0, _ => pd_X9_search_0
    | 1, _ => pd_X9_search_1
    | 2, _ => pd_X9_search_2
    | n + 3, h => absurd h (by omega)
set_option maxRecDepth 100000 in
theorem pd_X9_take_0 : ((px_is pm_X9_take).getD 0 []).all (fun e => decide (decode (px_cc pm_X9_take) e.1 = .ok (e.2.1, e.2.2))) = true := by decide +kernel
set_option maxRecDepth 100000 in
theorem pd_X9_take_1 : ((px_is pm_X9_take).getD 1 []).all (fun e => decide (decode (px_cc pm_X9_take) e.1 = .ok (e.2.1, e.2.2))) = true := by decide +kernel
set_option maxRecDepth 100000 in
theorem pd_X9_take_2 : ((px_is pm_X9_take).getD 2 []).all (fun e => decide (decode (px_cc pm_X9_take) e.1 = .ok (e.2.1, e.2.2))) = true := by decide +kernel
theorem pd_X9_take : px_okD pm_X9_take = true := by
  unfold px_okD
  exact px_by_rows 3 rfl fun o ho => match o, ho with
    | 0, _ => pd_X9_take_0
    | 1, _ => pd_X9_take_1
    | 2, _ => pd_X9_take_2
    | n + 3, h => absurd h (by omega)
set_option maxRecDepth 100000 in
theorem pd_X9_order_0 : ((px_is pm_X9_order).getD 0 []).all (fun e => decide (decode (px_cc pm_X9_order) e.1 = .ok (e.2.1, e.2.2))) = true := by decide +kernel
theorem pd_X9_order : px_okD pm_X9_order = true := by
  unfold px_okD
  exact px_by_rows 1 rfl fun o ho => match o, ho with
    | 0, _ => pd_X9_order_0
    | n + 1, h => absurd h (by omega)
set_option maxRecDepth 100000 in
theorem pd_X9_isAhead_0 : ((px_is pm_X9_isAhead).getD 0 []).all (fun e => decide (decode (px_cc pm_X9_isAhead) e.1 = .ok (e.2.1, e.2.2))) = true := by decide +kernel
theorem pd_X9_isAhead : px_okD pm_X9_isAhead = true := by
  unfold px_okD
  exact px_by_rows 1 rfl fun o ho => match o, ho with
    | 0, _ => pd_X9_isAhead_0
    | n + 1, h => absurd h (by omega)
set_option maxRecDepth 100000 in
theorem pd_X9_isBehind_0 : ((px_is pm_X9_isBehind).getD 0 []).all (fun e => decide (decode (px_cc pm_X9_isBehind) e.1 = .ok (e.2.1, e.2.2))) = true := by decide +kernel
theorem pd_X9_isBehind : px_okD pm_X9_isBehind = true := by
  unfold px_okD
  exact px_by_rows 1 rfl fun o ho => match o, ho with
    | 0, _ => pd_X9_isBehind_0
    | n + 1, h => absurd h (by omega)
set_option maxRecDepth 100000 in
theorem pd_X9_findMatches_0 : ((px_is pm_X9_findMatches).getD 0 []).all (fun e => decide (decode (px_cc pm_X9_findMatches) e.1 = .ok (e.2.1, e.2.2))) = true := by decide +kernel
theorem pd_X9_findMatches : px_okD pm_X9_findMatches = true := by
  unfold px_okD
  exact px_by_rows 1 rfl fun o ho => match o, ho with
    | 0, _ => pd_X9_findMatches_0
    | n + 1, h => absurd h (by omega)
set_option maxRecDepth 100000 in
theorem pd_X9_matchPlace_0 : ((px_is pm_X9_matchPlace).getD 0 []).all (fun e => decide (decode (px_cc pm_X9_matchPlace) e.1 = .ok (e.2.1, e.2.2))) = true := by decide +kernel
theorem pd_X9_matchPlace : px_okD pm_X9_matchPlace = true := by
  unfold px_okD
  exact px_by_rows 1 rfl fun o ho => match o, ho with
    | 0, _ => pd_X9_matchPlace_0
    | n + 1, h => absurd h (by omega)
set_option maxRecDepth 100000 in
theorem pd_X9_supports_0 : ((px_is pm_X9_supports).getD 0 []).all (fun e => decide (decode (px_cc pm_X9_supports) e.1 = .ok (e.2.1, e.2.2))) = true := by decide +kernel
theorem pd_X9_supports : px_okD pm_X9_supports = true := by
  unfold px_okD
  exact px_by_rows 1 rfl fun o ho => match o, ho with
    | 0, _ => pd_X9_supports_0
    | n + 1, h => absurd h (by omega)
set_option maxRecDepth 100000 in
theorem pd_X9_settle_0 : ((px_is pm_X9_settle).getD 0 []).all (fun e => decide (decode (px_cc pm_X9_settle) e.1 = .ok (e.2.1, e.2.2))) = true := by decide +kernel
set_option maxRecDepth 100000 in
theorem pd_X9_settle_1 : ((px_is pm_X9_settle).getD 1 []).all (fun e => decide (decode (px_cc pm_X9_settle) e.1 = .ok (e.2.1, e.2.2))) = true := by decide +kernel
set_option maxRecDepth 100000 in
theorem pd_X9_settle_2 : ((px_is pm_X9_settle).getD 2 []).all (fun e => decide (decode (px_cc pm_X9_settle) e.1 = .ok (e.2.1, e.2.2))) = true := by decide +kernel
theorem pd_X9_settle : px_okD pm_X9_settle = true := by
  unfold px_okD
  exact px_by_rows 3 rfl fun o ho => match o, ho with
    | 0, _ => pd_X9_settle_0
    | 1, _ => pd_X9_settle_1
    | 2, _ => pd_X9_settle_2
    | n + 3, h => absurd h (by omega)
set_option maxRecDepth 100000 in
theorem pd_X9_add_0 : ((px_is pm_X9_add).getD 0 []).all (fun e => decide (decode (px_cc pm_X9_add) e.1 = .ok (e.2.1, e.2.2))) = true := by decide +kernel
theorem pd_X9_add : px_okD pm_X9_add = true := by
  unfold px_okD
  exact px_by_rows 1 rfl fun o ho => match o, ho with
    | 0, _ => pd_X9_add_0
    | n + 1, h => absurd h (by omega)
set_option maxRecDepth 100000 in
theorem pd_X9_retract_0 : ((px_is pm_X9_retract).getD 0 []).all (fun e => decide (decode (px_cc pm_X9_retract) e.1 = .ok (e.2.1, e.2.2))) = true := by decide +kernel
theorem pd_X9_retract : px_okD pm_X9_retract = true := by
  unfold px_okD
  exact px_by_rows 1 rfl fun o ho => match o, ho with
    | 0, _ => pd_X9_retract_0
    | n + 1, h => absurd h (by omega)
set_option maxRecDepth 100000 in
theorem pd_X9_falling_0 : ((px_is pm_X9_falling).getD 0 []).all (fun e => decide (decode (px_cc pm_X9_falling) e.1 = .ok (e.2.1, e.2.2))) = true := by decide +kernel
set_option maxRecDepth 100000 in
theorem pd_X9_falling_1 : ((px_is pm_X9_falling).getD 1 []).all (fun e => decide (decode (px_cc pm_X9_falling) e.1 = .ok (e.2.1, e.2.2))) = true := by decide +kernel
theorem pd_X9_falling : px_okD pm_X9_falling = true := by
  unfold px_okD
  exact px_by_rows 2 rfl fun o ho => match o, ho with
    | 0, _ => pd_X9_falling_0
    | 1, _ => pd_X9_falling_1
    | n + 2, h => absurd h (by omega)
set_option maxRecDepth 100000 in
theorem pd_X9_comesFirst_0 : ((px_is pm_X9_comesFirst).getD 0 []).all (fun e => decide (decode (px_cc pm_X9_comesFirst) e.1 = .ok (e.2.1, e.2.2))) = true := by decide +kernel
set_option maxRecDepth 100000 in
theorem pd_X9_comesFirst_1 : ((px_is pm_X9_comesFirst).getD 1 []).all (fun e => decide (decode (px_cc pm_X9_comesFirst) e.1 = .ok (e.2.1, e.2.2))) = true := by decide +kernel
set_option maxRecDepth 100000 in
theorem pd_X9_comesFirst_2 : ((px_is pm_X9_comesFirst).getD 2 []).all (fun e => decide (decode (px_cc pm_X9_comesFirst) e.1 = .ok (e.2.1, e.2.2))) = true := by decide +kernel
theorem pd_X9_comesFirst : px_okD pm_X9_comesFirst = true := by
  unfold px_okD
  exact px_by_rows 3 rfl fun o ho => match o, ho with
    | 0, _ => pd_X9_comesFirst_0
    | 1, _ => pd_X9_comesFirst_1
    | 2, _ => pd_X9_comesFirst_2
    | n + 3, h => absurd h (by omega)
set_option maxRecDepth 100000 in
theorem pd_X9_first_0 : ((px_is pm_X9_first).getD 0 []).all (fun e => decide (decode (px_cc pm_X9_first) e.1 = .ok (e.2.1, e.2.2))) = true := by decide +kernel
theorem pd_X9_first : px_okD pm_X9_first = true := by
  unfold px_okD
  exact px_by_rows 1 rfl fun o ho => match o, ho with
    | 0, _ => pd_X9_first_0
    | n + 1, h => absurd h (by omega)
set_option maxRecDepth 100000 in
theorem pd_X9_agenda_0 : ((px_is pm_X9_agenda).getD 0 []).all (fun e => decide (decode (px_cc pm_X9_agenda) e.1 = .ok (e.2.1, e.2.2))) = true := by decide +kernel
theorem pd_X9_agenda : px_okD pm_X9_agenda = true := by
  unfold px_okD
  exact px_by_rows 1 rfl fun o ho => match o, ho with
    | 0, _ => pd_X9_agenda_0
    | n + 1, h => absurd h (by omega)
set_option maxRecDepth 100000 in
theorem pd_X9_variables_0 : ((px_is pm_X9_variables).getD 0 []).all (fun e => decide (decode (px_cc pm_X9_variables) e.1 = .ok (e.2.1, e.2.2))) = true := by decide +kernel
set_option maxRecDepth 100000 in
theorem pd_X9_variables_1 : ((px_is pm_X9_variables).getD 1 []).all (fun e => decide (decode (px_cc pm_X9_variables) e.1 = .ok (e.2.1, e.2.2))) = true := by decide +kernel
theorem pd_X9_variables : px_okD pm_X9_variables = true := by
  unfold px_okD
  exact px_by_rows 2 rfl fun o ho => match o, ho with
    | 0, _ => pd_X9_variables_0
    | 1, _ => pd_X9_variables_1
    | n + 2, h => absurd h (by omega)
set_option maxRecDepth 100000 in
theorem pd_X9_fire_0 : ((px_is pm_X9_fire).getD 0 []).all (fun e => decide (decode (px_cc pm_X9_fire) e.1 = .ok (e.2.1, e.2.2))) = true := by decide +kernel
theorem pd_X9_fire : px_okD pm_X9_fire = true := by
  unfold px_okD
  exact px_by_rows 1 rfl fun o ho => match o, ho with
    | 0, _ => pd_X9_fire_0
    | n + 1, h => absurd h (by omega)
set_option maxRecDepth 100000 in
theorem pd_X9_fireOne_0 : ((px_is pm_X9_fireOne).getD 0 []).all (fun e => decide (decode (px_cc pm_X9_fireOne) e.1 = .ok (e.2.1, e.2.2))) = true := by decide +kernel
set_option maxRecDepth 100000 in
theorem pd_X9_fireOne_1 : ((px_is pm_X9_fireOne).getD 1 []).all (fun e => decide (decode (px_cc pm_X9_fireOne) e.1 = .ok (e.2.1, e.2.2))) = true := by decide +kernel
set_option maxRecDepth 100000 in
theorem pd_X9_fireOne_2 : ((px_is pm_X9_fireOne).getD 2 []).all (fun e => decide (decode (px_cc pm_X9_fireOne) e.1 = .ok (e.2.1, e.2.2))) = true := by decide +kernel
set_option maxRecDepth 100000 in
theorem pd_X9_fireOne_3 : ((px_is pm_X9_fireOne).getD 3 []).all (fun e => decide (decode (px_cc pm_X9_fireOne) e.1 = .ok (e.2.1, e.2.2))) = true := by decide +kernel
theorem pd_X9_fireOne : px_okD pm_X9_fireOne = true := by
  unfold px_okD
  exact px_by_rows 4 rfl fun o ho => match o, ho with
    | 0, _ => pd_X9_fireOne_0
    | 1, _ => pd_X9_fireOne_1
    | 2, _ => pd_X9_fireOne_2
    | 3, _ => pd_X9_fireOne_3
    | n + 4, h => absurd h (by omega)
set_option maxRecDepth 100000 in
theorem pd_X9_tell_0 : ((px_is pm_X9_tell).getD 0 []).all (fun e => decide (decode (px_cc pm_X9_tell) e.1 = .ok (e.2.1, e.2.2))) = true := by decide +kernel
set_option maxRecDepth 100000 in
theorem pd_X9_tell_1 : ((px_is pm_X9_tell).getD 1 []).all (fun e => decide (decode (px_cc pm_X9_tell) e.1 = .ok (e.2.1, e.2.2))) = true := by decide +kernel
set_option maxRecDepth 100000 in
theorem pd_X9_tell_2 : ((px_is pm_X9_tell).getD 2 []).all (fun e => decide (decode (px_cc pm_X9_tell) e.1 = .ok (e.2.1, e.2.2))) = true := by decide +kernel
set_option maxRecDepth 100000 in
theorem pd_X9_tell_3 : ((px_is pm_X9_tell).getD 3 []).all (fun e => decide (decode (px_cc pm_X9_tell) e.1 = .ok (e.2.1, e.2.2))) = true := by decide +kernel
theorem pd_X9_tell : px_okD pm_X9_tell = true := by
  unfold px_okD
  exact px_by_rows 4 rfl fun o ho => match o, ho with
    | 0, _ => pd_X9_tell_0
    | 1, _ => pd_X9_tell_1
    | 2, _ => pd_X9_tell_2
    | 3, _ => pd_X9_tell_3
    | n + 4, h => absurd h (by omega)
set_option maxRecDepth 100000 in
theorem pd_X9_support_0 : ((px_is pm_X9_support).getD 0 []).all (fun e => decide (decode (px_cc pm_X9_support) e.1 = .ok (e.2.1, e.2.2))) = true := by decide +kernel
set_option maxRecDepth 100000 in
theorem pd_X9_support_1 : ((px_is pm_X9_support).getD 1 []).all (fun e => decide (decode (px_cc pm_X9_support) e.1 = .ok (e.2.1, e.2.2))) = true := by decide +kernel
theorem pd_X9_support : px_okD pm_X9_support = true := by
  unfold px_okD
  exact px_by_rows 2 rfl fun o ho => match o, ho with
    | 0, _ => pd_X9_support_0
    | 1, _ => pd_X9_support_1
    | n + 2, h => absurd h (by omega)
set_option maxRecDepth 100000 in
theorem pd_X10_init_0 : ((px_is pm_X10_init).getD 0 []).all (fun e => decide (decode (px_cc pm_X10_init) e.1 = .ok (e.2.1, e.2.2))) = true := by decide +kernel
theorem pd_X10_init : px_okD pm_X10_init = true := by
  unfold px_okD
  exact px_by_rows 1 rfl fun o ho => match o, ho with
    | 0, _ => pd_X10_init_0
    | n + 1, h => absurd h (by omega)
set_option maxRecDepth 100000 in
theorem pd_X10_thrown_0 : ((px_is pm_X10_thrown).getD 0 []).all (fun e => decide (decode (px_cc pm_X10_thrown) e.1 = .ok (e.2.1, e.2.2))) = true := by decide +kernel
theorem pd_X10_thrown : px_okD pm_X10_thrown = true := by
  unfold px_okD
  exact px_by_rows 1 rfl fun o ho => match o, ho with
    | 0, _ => pd_X10_thrown_0
    | n + 1, h => absurd h (by omega)
set_option maxRecDepth 100000 in
theorem pd_X10_refuse_0 : ((px_is pm_X10_refuse).getD 0 []).all (fun e => decide (decode (px_cc pm_X10_refuse) e.1 = .ok (e.2.1, e.2.2))) = true := by decide +kernel
theorem pd_X10_refuse : px_okD pm_X10_refuse = true := by
  unfold px_okD
  exact px_by_rows 1 rfl fun o ho => match o, ho with
    | 0, _ => pd_X10_refuse_0
    | n + 1, h => absurd h (by omega)
set_option maxRecDepth 100000 in
theorem pd_X10_is_0 : ((px_is pm_X10_is).getD 0 []).all (fun e => decide (decode (px_cc pm_X10_is) e.1 = .ok (e.2.1, e.2.2))) = true := by decide +kernel
theorem pd_X10_is : px_okD pm_X10_is = true := by
  unfold px_okD
  exact px_by_rows 1 rfl fun o ho => match o, ho with
    | 0, _ => pd_X10_is_0
    | n + 1, h => absurd h (by omega)
set_option maxRecDepth 100000 in
theorem pd_X10_isRule_0 : ((px_is pm_X10_isRule).getD 0 []).all (fun e => decide (decode (px_cc pm_X10_isRule) e.1 = .ok (e.2.1, e.2.2))) = true := by decide +kernel
theorem pd_X10_isRule : px_okD pm_X10_isRule = true := by
  unfold px_okD
  exact px_by_rows 1 rfl fun o ho => match o, ho with
    | 0, _ => pd_X10_isRule_0
    | n + 1, h => absurd h (by omega)
set_option maxRecDepth 100000 in
theorem pd_X10_isCondition_0 : ((px_is pm_X10_isCondition).getD 0 []).all (fun e => decide (decode (px_cc pm_X10_isCondition) e.1 = .ok (e.2.1, e.2.2))) = true := by decide +kernel
theorem pd_X10_isCondition : px_okD pm_X10_isCondition = true := by
  unfold px_okD
  exact px_by_rows 1 rfl fun o ho => match o, ho with
    | 0, _ => pd_X10_isCondition_0
    | n + 1, h => absurd h (by omega)
set_option maxRecDepth 100000 in
theorem pd_X10_isValue_0 : ((px_is pm_X10_isValue).getD 0 []).all (fun e => decide (decode (px_cc pm_X10_isValue) e.1 = .ok (e.2.1, e.2.2))) = true := by decide +kernel
theorem pd_X10_isValue : px_okD pm_X10_isValue = true := by
  unfold px_okD
  exact px_by_rows 1 rfl fun o ho => match o, ho with
    | 0, _ => pd_X10_isValue_0
    | n + 1, h => absurd h (by omega)
set_option maxRecDepth 100000 in
theorem pd_X10_addRule_0 : ((px_is pm_X10_addRule).getD 0 []).all (fun e => decide (decode (px_cc pm_X10_addRule) e.1 = .ok (e.2.1, e.2.2))) = true := by decide +kernel
set_option maxRecDepth 100000 in
theorem pd_X10_addRule_1 : ((px_is pm_X10_addRule).getD 1 []).all (fun e => decide (decode (px_cc pm_X10_addRule) e.1 = .ok (e.2.1, e.2.2))) = true := by decide +kernel
theorem pd_X10_addRule : px_okD pm_X10_addRule = true := by
  unfold px_okD
  exact px_by_rows 2 rfl fun o ho => match o, ho with
    | 0, _ => pd_X10_addRule_0
    | 1, _ => pd_X10_addRule_1
    | n + 2, h => absurd h (by omega)
set_option maxRecDepth 100000 in
theorem pd_X10_addCondition_0 : ((px_is pm_X10_addCondition).getD 0 []).all (fun e => decide (decode (px_cc pm_X10_addCondition) e.1 = .ok (e.2.1, e.2.2))) = true := by decide +kernel
set_option maxRecDepth 100000 in
theorem pd_X10_addCondition_1 : ((px_is pm_X10_addCondition).getD 1 []).all (fun e => decide (decode (px_cc pm_X10_addCondition) e.1 = .ok (e.2.1, e.2.2))) = true := by decide +kernel
set_option maxRecDepth 100000 in
theorem pd_X10_addCondition_2 : ((px_is pm_X10_addCondition).getD 2 []).all (fun e => decide (decode (px_cc pm_X10_addCondition) e.1 = .ok (e.2.1, e.2.2))) = true := by decide +kernel
theorem pd_X10_addCondition : px_okD pm_X10_addCondition = true := by
  unfold px_okD
  exact px_by_rows 3 rfl fun o ho => match o, ho with
    | 0, _ => pd_X10_addCondition_0
    | 1, _ => pd_X10_addCondition_1
    | 2, _ => pd_X10_addCondition_2
    | n + 3, h => absurd h (by omega)
set_option maxRecDepth 100000 in
theorem pd_X10_setTest_0 : ((px_is pm_X10_setTest).getD 0 []).all (fun e => decide (decode (px_cc pm_X10_setTest) e.1 = .ok (e.2.1, e.2.2))) = true := by decide +kernel
set_option maxRecDepth 100000 in
theorem pd_X10_setTest_1 : ((px_is pm_X10_setTest).getD 1 []).all (fun e => decide (decode (px_cc pm_X10_setTest) e.1 = .ok (e.2.1, e.2.2))) = true := by decide +kernel
set_option maxRecDepth 100000 in
theorem pd_X10_setTest_2 : ((px_is pm_X10_setTest).getD 2 []).all (fun e => decide (decode (px_cc pm_X10_setTest) e.1 = .ok (e.2.1, e.2.2))) = true := by decide +kernel
theorem pd_X10_setTest : px_okD pm_X10_setTest = true := by
  unfold px_okD
  exact px_by_rows 3 rfl fun o ho => match o, ho with
    | 0, _ => pd_X10_setTest_0
    | 1, _ => pd_X10_setTest_1
    | 2, _ => pd_X10_setTest_2
    | n + 3, h => absurd h (by omega)
set_option maxRecDepth 100000 in
theorem pd_X10_addAction_0 : ((px_is pm_X10_addAction).getD 0 []).all (fun e => decide (decode (px_cc pm_X10_addAction) e.1 = .ok (e.2.1, e.2.2))) = true := by decide +kernel
set_option maxRecDepth 100000 in
theorem pd_X10_addAction_1 : ((px_is pm_X10_addAction).getD 1 []).all (fun e => decide (decode (px_cc pm_X10_addAction) e.1 = .ok (e.2.1, e.2.2))) = true := by decide +kernel
theorem pd_X10_addAction : px_okD pm_X10_addAction = true := by
  unfold px_okD
  exact px_by_rows 2 rfl fun o ho => match o, ho with
    | 0, _ => pd_X10_addAction_0
    | 1, _ => pd_X10_addAction_1
    | n + 2, h => absurd h (by omega)
set_option maxRecDepth 100000 in
theorem pd_X10_addTold_0 : ((px_is pm_X10_addTold).getD 0 []).all (fun e => decide (decode (px_cc pm_X10_addTold) e.1 = .ok (e.2.1, e.2.2))) = true := by decide +kernel
theorem pd_X10_addTold : px_okD pm_X10_addTold = true := by
  unfold px_okD
  exact px_by_rows 1 rfl fun o ho => match o, ho with
    | 0, _ => pd_X10_addTold_0
    | n + 1, h => absurd h (by omega)
set_option maxRecDepth 100000 in
theorem pd_X10_setValue_0 : ((px_is pm_X10_setValue).getD 0 []).all (fun e => decide (decode (px_cc pm_X10_setValue) e.1 = .ok (e.2.1, e.2.2))) = true := by decide +kernel
set_option maxRecDepth 100000 in
theorem pd_X10_setValue_1 : ((px_is pm_X10_setValue).getD 1 []).all (fun e => decide (decode (px_cc pm_X10_setValue) e.1 = .ok (e.2.1, e.2.2))) = true := by decide +kernel
set_option maxRecDepth 100000 in
theorem pd_X10_setValue_2 : ((px_is pm_X10_setValue).getD 2 []).all (fun e => decide (decode (px_cc pm_X10_setValue) e.1 = .ok (e.2.1, e.2.2))) = true := by decide +kernel
theorem pd_X10_setValue : px_okD pm_X10_setValue = true := by
  unfold px_okD
  exact px_by_rows 3 rfl fun o ho => match o, ho with
    | 0, _ => pd_X10_setValue_0
    | 1, _ => pd_X10_setValue_1
    | 2, _ => pd_X10_setValue_2
    | n + 3, h => absurd h (by omega)
set_option maxRecDepth 100000 in
theorem pd_X10_addRetract_0 : ((px_is pm_X10_addRetract).getD 0 []).all (fun e => decide (decode (px_cc pm_X10_addRetract) e.1 = .ok (e.2.1, e.2.2))) = true := by decide +kernel
theorem pd_X10_addRetract : px_okD pm_X10_addRetract = true := by
  unfold px_okD
  exact px_by_rows 1 rfl fun o ho => match o, ho with
    | 0, _ => pd_X10_addRetract_0
    | n + 1, h => absurd h (by omega)
set_option maxRecDepth 100000 in
theorem pd_X10_switchOn_0 : ((px_is pm_X10_switchOn).getD 0 []).all (fun e => decide (decode (px_cc pm_X10_switchOn) e.1 = .ok (e.2.1, e.2.2))) = true := by decide +kernel
set_option maxRecDepth 100000 in
theorem pd_X10_switchOn_1 : ((px_is pm_X10_switchOn).getD 1 []).all (fun e => decide (decode (px_cc pm_X10_switchOn) e.1 = .ok (e.2.1, e.2.2))) = true := by decide +kernel
theorem pd_X10_switchOn : px_okD pm_X10_switchOn = true := by
  unfold px_okD
  exact px_by_rows 2 rfl fun o ho => match o, ho with
    | 0, _ => pd_X10_switchOn_0
    | 1, _ => pd_X10_switchOn_1
    | n + 2, h => absurd h (by omega)
set_option maxRecDepth 100000 in
theorem pd_X10_switchOff_0 : ((px_is pm_X10_switchOff).getD 0 []).all (fun e => decide (decode (px_cc pm_X10_switchOff) e.1 = .ok (e.2.1, e.2.2))) = true := by decide +kernel
theorem pd_X10_switchOff : px_okD pm_X10_switchOff = true := by
  unfold px_okD
  exact px_by_rows 1 rfl fun o ho => match o, ho with
    | 0, _ => pd_X10_switchOff_0
    | n + 1, h => absurd h (by omega)
set_option maxRecDepth 100000 in
theorem pd_X10_state_0 : ((px_is pm_X10_state).getD 0 []).all (fun e => decide (decode (px_cc pm_X10_state) e.1 = .ok (e.2.1, e.2.2))) = true := by decide +kernel
set_option maxRecDepth 100000 in
theorem pd_X10_state_1 : ((px_is pm_X10_state).getD 1 []).all (fun e => decide (decode (px_cc pm_X10_state) e.1 = .ok (e.2.1, e.2.2))) = true := by decide +kernel
set_option maxRecDepth 100000 in
theorem pd_X10_state_2 : ((px_is pm_X10_state).getD 2 []).all (fun e => decide (decode (px_cc pm_X10_state) e.1 = .ok (e.2.1, e.2.2))) = true := by decide +kernel
theorem pd_X10_state : px_okD pm_X10_state = true := by
  unfold px_okD
  exact px_by_rows 3 rfl fun o ho => match o, ho with
    | 0, _ => pd_X10_state_0
    | 1, _ => pd_X10_state_1
    | 2, _ => pd_X10_state_2
    | n + 3, h => absurd h (by omega)
set_option maxRecDepth 100000 in
theorem pd_X10_takeBack_0 : ((px_is pm_X10_takeBack).getD 0 []).all (fun e => decide (decode (px_cc pm_X10_takeBack) e.1 = .ok (e.2.1, e.2.2))) = true := by decide +kernel
theorem pd_X10_takeBack : px_okD pm_X10_takeBack = true := by
  unfold px_okD
  exact px_by_rows 1 rfl fun o ho => match o, ho with
    | 0, _ => pd_X10_takeBack_0
    | n + 1, h => absurd h (by omega)
set_option maxRecDepth 100000 in
theorem pd_X10_retract_0 : ((px_is pm_X10_retract).getD 0 []).all (fun e => decide (decode (px_cc pm_X10_retract) e.1 = .ok (e.2.1, e.2.2))) = true := by decide +kernel
theorem pd_X10_retract : px_okD pm_X10_retract = true := by
  unfold px_okD
  exact px_by_rows 1 rfl fun o ho => match o, ho with
    | 0, _ => pd_X10_retract_0
    | n + 1, h => absurd h (by omega)
set_option maxRecDepth 100000 in
theorem pd_X10_fire_0 : ((px_is pm_X10_fire).getD 0 []).all (fun e => decide (decode (px_cc pm_X10_fire) e.1 = .ok (e.2.1, e.2.2))) = true := by decide +kernel
theorem pd_X10_fire : px_okD pm_X10_fire = true := by
  unfold px_okD
  exact px_by_rows 1 rfl fun o ho => match o, ho with
    | 0, _ => pd_X10_fire_0
    | n + 1, h => absurd h (by omega)
set_option maxRecDepth 100000 in
theorem pd_X10_rules_0 : ((px_is pm_X10_rules).getD 0 []).all (fun e => decide (decode (px_cc pm_X10_rules) e.1 = .ok (e.2.1, e.2.2))) = true := by decide +kernel
theorem pd_X10_rules : px_okD pm_X10_rules = true := by
  unfold px_okD
  exact px_by_rows 1 rfl fun o ho => match o, ho with
    | 0, _ => pd_X10_rules_0
    | n + 1, h => absurd h (by omega)
set_option maxRecDepth 100000 in
theorem pd_X10_has_0 : ((px_is pm_X10_has).getD 0 []).all (fun e => decide (decode (px_cc pm_X10_has) e.1 = .ok (e.2.1, e.2.2))) = true := by decide +kernel
theorem pd_X10_has : px_okD pm_X10_has = true := by
  unfold px_okD
  exact px_by_rows 1 rfl fun o ho => match o, ho with
    | 0, _ => pd_X10_has_0
    | n + 1, h => absurd h (by omega)
set_option maxRecDepth 100000 in
theorem pd_X10_isOn_0 : ((px_is pm_X10_isOn).getD 0 []).all (fun e => decide (decode (px_cc pm_X10_isOn) e.1 = .ok (e.2.1, e.2.2))) = true := by decide +kernel
theorem pd_X10_isOn : px_okD pm_X10_isOn = true := by
  unfold px_okD
  exact px_by_rows 1 rfl fun o ho => match o, ho with
    | 0, _ => pd_X10_isOn_0
    | n + 1, h => absurd h (by omega)
set_option maxRecDepth 100000 in
theorem pd_X10_isSound_0 : ((px_is pm_X10_isSound).getD 0 []).all (fun e => decide (decode (px_cc pm_X10_isSound) e.1 = .ok (e.2.1, e.2.2))) = true := by decide +kernel
theorem pd_X10_isSound : px_okD pm_X10_isSound = true := by
  unfold px_okD
  exact px_by_rows 1 rfl fun o ho => match o, ho with
    | 0, _ => pd_X10_isSound_0
    | n + 1, h => absurd h (by omega)
set_option maxRecDepth 100000 in
theorem pd_X10_urgency_0 : ((px_is pm_X10_urgency).getD 0 []).all (fun e => decide (decode (px_cc pm_X10_urgency) e.1 = .ok (e.2.1, e.2.2))) = true := by decide +kernel
theorem pd_X10_urgency : px_okD pm_X10_urgency = true := by
  unfold px_okD
  exact px_by_rows 1 rfl fun o ho => match o, ho with
    | 0, _ => pd_X10_urgency_0
    | n + 1, h => absurd h (by omega)
set_option maxRecDepth 100000 in
theorem pd_X10_conditions_0 : ((px_is pm_X10_conditions).getD 0 []).all (fun e => decide (decode (px_cc pm_X10_conditions) e.1 = .ok (e.2.1, e.2.2))) = true := by decide +kernel
theorem pd_X10_conditions : px_okD pm_X10_conditions = true := by
  unfold px_okD
  exact px_by_rows 1 rfl fun o ho => match o, ho with
    | 0, _ => pd_X10_conditions_0
    | n + 1, h => absurd h (by omega)
set_option maxRecDepth 100000 in
theorem pd_X10_actions_0 : ((px_is pm_X10_actions).getD 0 []).all (fun e => decide (decode (px_cc pm_X10_actions) e.1 = .ok (e.2.1, e.2.2))) = true := by decide +kernel
theorem pd_X10_actions : px_okD pm_X10_actions = true := by
  unfold px_okD
  exact px_by_rows 1 rfl fun o ho => match o, ho with
    | 0, _ => pd_X10_actions_0
    | n + 1, h => absurd h (by omega)
set_option maxRecDepth 100000 in
theorem pd_X10_candidates_0 : ((px_is pm_X10_candidates).getD 0 []).all (fun e => decide (decode (px_cc pm_X10_candidates) e.1 = .ok (e.2.1, e.2.2))) = true := by decide +kernel
set_option maxRecDepth 100000 in
theorem pd_X10_candidates_1 : ((px_is pm_X10_candidates).getD 1 []).all (fun e => decide (decode (px_cc pm_X10_candidates) e.1 = .ok (e.2.1, e.2.2))) = true := by decide +kernel
theorem pd_X10_candidates : px_okD pm_X10_candidates = true := by
  unfold px_okD
  exact px_by_rows 2 rfl fun o ho => match o, ho with
    | 0, _ => pd_X10_candidates_0
    | 1, _ => pd_X10_candidates_1
    | n + 2, h => absurd h (by omega)
set_option maxRecDepth 100000 in
theorem pd_X10_firings_0 : ((px_is pm_X10_firings).getD 0 []).all (fun e => decide (decode (px_cc pm_X10_firings) e.1 = .ok (e.2.1, e.2.2))) = true := by decide +kernel
theorem pd_X10_firings : px_okD pm_X10_firings = true := by
  unfold px_okD
  exact px_by_rows 1 rfl fun o ho => match o, ho with
    | 0, _ => pd_X10_firings_0
    | n + 1, h => absurd h (by omega)
set_option maxRecDepth 100000 in
theorem pd_X10_isFact_0 : ((px_is pm_X10_isFact).getD 0 []).all (fun e => decide (decode (px_cc pm_X10_isFact) e.1 = .ok (e.2.1, e.2.2))) = true := by decide +kernel
theorem pd_X10_isFact : px_okD pm_X10_isFact = true := by
  unfold px_okD
  exact px_by_rows 1 rfl fun o ho => match o, ho with
    | 0, _ => pd_X10_isFact_0
    | n + 1, h => absurd h (by omega)
set_option maxRecDepth 100000 in
theorem pd_X10_facts_0 : ((px_is pm_X10_facts).getD 0 []).all (fun e => decide (decode (px_cc pm_X10_facts) e.1 = .ok (e.2.1, e.2.2))) = true := by decide +kernel
theorem pd_X10_facts : px_okD pm_X10_facts = true := by
  unfold px_okD
  exact px_by_rows 1 rfl fun o ho => match o, ho with
    | 0, _ => pd_X10_facts_0
    | n + 1, h => absurd h (by omega)
set_option maxRecDepth 100000 in
theorem pd_X10_next_0 : ((px_is pm_X10_next).getD 0 []).all (fun e => decide (decode (px_cc pm_X10_next) e.1 = .ok (e.2.1, e.2.2))) = true := by decide +kernel
theorem pd_X10_next : px_okD pm_X10_next = true := by
  unfold px_okD
  exact px_by_rows 1 rfl fun o ho => match o, ho with
    | 0, _ => pd_X10_next_0
    | n + 1, h => absurd h (by omega)
set_option maxRecDepth 100000 in
theorem pd_X10_isThere_0 : ((px_is pm_X10_isThere).getD 0 []).all (fun e => decide (decode (px_cc pm_X10_isThere) e.1 = .ok (e.2.1, e.2.2))) = true := by decide +kernel
theorem pd_X10_isThere : px_okD pm_X10_isThere = true := by
  unfold px_okD
  exact px_by_rows 1 rfl fun o ho => match o, ho with
    | 0, _ => pd_X10_isThere_0
    | n + 1, h => absurd h (by omega)
set_option maxRecDepth 100000 in
theorem pd_X10_find_0 : ((px_is pm_X10_find).getD 0 []).all (fun e => decide (decode (px_cc pm_X10_find) e.1 = .ok (e.2.1, e.2.2))) = true := by decide +kernel
theorem pd_X10_find : px_okD pm_X10_find = true := by
  unfold px_okD
  exact px_by_rows 1 rfl fun o ho => match o, ho with
    | 0, _ => pd_X10_find_0
    | n + 1, h => absurd h (by omega)
set_option maxRecDepth 100000 in
theorem pd_X10_kindOf_0 : ((px_is pm_X10_kindOf).getD 0 []).all (fun e => decide (decode (px_cc pm_X10_kindOf) e.1 = .ok (e.2.1, e.2.2))) = true := by decide +kernel
theorem pd_X10_kindOf : px_okD pm_X10_kindOf = true := by
  unfold px_okD
  exact px_by_rows 1 rfl fun o ho => match o, ho with
    | 0, _ => pd_X10_kindOf_0
    | n + 1, h => absurd h (by omega)
set_option maxRecDepth 100000 in
theorem pd_X10_valueOf_0 : ((px_is pm_X10_valueOf).getD 0 []).all (fun e => decide (decode (px_cc pm_X10_valueOf) e.1 = .ok (e.2.1, e.2.2))) = true := by decide +kernel
theorem pd_X10_valueOf : px_okD pm_X10_valueOf = true := by
  unfold px_okD
  exact px_by_rows 1 rfl fun o ho => match o, ho with
    | 0, _ => pd_X10_valueOf_0
    | n + 1, h => absurd h (by omega)
set_option maxRecDepth 100000 in
theorem pd_X10_isStated_0 : ((px_is pm_X10_isStated).getD 0 []).all (fun e => decide (decode (px_cc pm_X10_isStated) e.1 = .ok (e.2.1, e.2.2))) = true := by decide +kernel
theorem pd_X10_isStated : px_okD pm_X10_isStated = true := by
  unfold px_okD
  exact px_by_rows 1 rfl fun o ho => match o, ho with
    | 0, _ => pd_X10_isStated_0
    | n + 1, h => absurd h (by omega)
set_option maxRecDepth 100000 in
theorem pd_X10_supports_0 : ((px_is pm_X10_supports).getD 0 []).all (fun e => decide (decode (px_cc pm_X10_supports) e.1 = .ok (e.2.1, e.2.2))) = true := by decide +kernel
theorem pd_X10_supports : px_okD pm_X10_supports = true := by
  unfold px_okD
  exact px_by_rows 1 rfl fun o ho => match o, ho with
    | 0, _ => pd_X10_supports_0
    | n + 1, h => absurd h (by omega)
set_option maxRecDepth 100000 in
theorem pd_X10_reason_0 : ((px_is pm_X10_reason).getD 0 []).all (fun e => decide (decode (px_cc pm_X10_reason) e.1 = .ok (e.2.1, e.2.2))) = true := by decide +kernel
set_option maxRecDepth 100000 in
theorem pd_X10_reason_1 : ((px_is pm_X10_reason).getD 1 []).all (fun e => decide (decode (px_cc pm_X10_reason) e.1 = .ok (e.2.1, e.2.2))) = true := by decide +kernel
theorem pd_X10_reason : px_okD pm_X10_reason = true := by
  unfold px_okD
  exact px_by_rows 2 rfl fun o ho => match o, ho with
    | 0, _ => pd_X10_reason_0
    | 1, _ => pd_X10_reason_1
    | n + 2, h => absurd h (by omega)
set_option maxRecDepth 100000 in
theorem pd_X10_because_0 : ((px_is pm_X10_because).getD 0 []).all (fun e => decide (decode (px_cc pm_X10_because) e.1 = .ok (e.2.1, e.2.2))) = true := by decide +kernel
theorem pd_X10_because : px_okD pm_X10_because = true := by
  unfold px_okD
  exact px_by_rows 1 rfl fun o ho => match o, ho with
    | 0, _ => pd_X10_because_0
    | n + 1, h => absurd h (by omega)
set_option maxRecDepth 100000 in
theorem pd_X10_distances_0 : ((px_is pm_X10_distances).getD 0 []).all (fun e => decide (decode (px_cc pm_X10_distances) e.1 = .ok (e.2.1, e.2.2))) = true := by decide +kernel
set_option maxRecDepth 100000 in
theorem pd_X10_distances_1 : ((px_is pm_X10_distances).getD 1 []).all (fun e => decide (decode (px_cc pm_X10_distances) e.1 = .ok (e.2.1, e.2.2))) = true := by decide +kernel
set_option maxRecDepth 100000 in
theorem pd_X10_distances_2 : ((px_is pm_X10_distances).getD 2 []).all (fun e => decide (decode (px_cc pm_X10_distances) e.1 = .ok (e.2.1, e.2.2))) = true := by decide +kernel
set_option maxRecDepth 100000 in
theorem pd_X10_distances_3 : ((px_is pm_X10_distances).getD 3 []).all (fun e => decide (decode (px_cc pm_X10_distances) e.1 = .ok (e.2.1, e.2.2))) = true := by decide +kernel
theorem pd_X10_distances : px_okD pm_X10_distances = true := by
  unfold px_okD
  exact px_by_rows 4 rfl fun o ho => match o, ho with
    | 0, _ => pd_X10_distances_0
    | 1, _ => pd_X10_distances_1
    | 2, _ => pd_X10_distances_2
    | 3, _ => pd_X10_distances_3
    | n + 4, h => absurd h (by omega)
set_option maxRecDepth 100000 in
theorem pd_X10_distanceAt_0 : ((px_is pm_X10_distanceAt).getD 0 []).all (fun e => decide (decode (px_cc pm_X10_distanceAt) e.1 = .ok (e.2.1, e.2.2))) = true := by decide +kernel
theorem pd_X10_distanceAt : px_okD pm_X10_distanceAt = true := by
  unfold px_okD
  exact px_by_rows 1 rfl fun o ho => match o, ho with
    | 0, _ => pd_X10_distanceAt_0
    | n + 1, h => absurd h (by omega)
set_option maxRecDepth 100000 in
theorem pd_X10_distance_0 : ((px_is pm_X10_distance).getD 0 []).all (fun e => decide (decode (px_cc pm_X10_distance) e.1 = .ok (e.2.1, e.2.2))) = true := by decide +kernel
theorem pd_X10_distance : px_okD pm_X10_distance = true := by
  unfold px_okD
  exact px_by_rows 1 rfl fun o ho => match o, ho with
    | 0, _ => pd_X10_distance_0
    | n + 1, h => absurd h (by omega)
set_option maxRecDepth 100000 in
theorem pd_X10_useOf_0 : ((px_is pm_X10_useOf).getD 0 []).all (fun e => decide (decode (px_cc pm_X10_useOf) e.1 = .ok (e.2.1, e.2.2))) = true := by decide +kernel
set_option maxRecDepth 100000 in
theorem pd_X10_useOf_1 : ((px_is pm_X10_useOf).getD 1 []).all (fun e => decide (decode (px_cc pm_X10_useOf) e.1 = .ok (e.2.1, e.2.2))) = true := by decide +kernel
theorem pd_X10_useOf : px_okD pm_X10_useOf = true := by
  unfold px_okD
  exact px_by_rows 2 rfl fun o ho => match o, ho with
    | 0, _ => pd_X10_useOf_0
    | 1, _ => pd_X10_useOf_1
    | n + 2, h => absurd h (by omega)
set_option maxRecDepth 100000 in
theorem pd_X10_uses_0 : ((px_is pm_X10_uses).getD 0 []).all (fun e => decide (decode (px_cc pm_X10_uses) e.1 = .ok (e.2.1, e.2.2))) = true := by decide +kernel
theorem pd_X10_uses : px_okD pm_X10_uses = true := by
  unfold px_okD
  exact px_by_rows 1 rfl fun o ho => match o, ho with
    | 0, _ => pd_X10_uses_0
    | n + 1, h => absurd h (by omega)
set_option maxRecDepth 100000 in
theorem pd_X10_matchesOf_0 : ((px_is pm_X10_matchesOf).getD 0 []).all (fun e => decide (decode (px_cc pm_X10_matchesOf) e.1 = .ok (e.2.1, e.2.2))) = true := by decide +kernel
theorem pd_X10_matchesOf : px_okD pm_X10_matchesOf = true := by
  unfold px_okD
  exact px_by_rows 1 rfl fun o ho => match o, ho with
    | 0, _ => pd_X10_matchesOf_0
    | n + 1, h => absurd h (by omega)
set_option maxRecDepth 100000 in
theorem pd_X10_matches_0 : ((px_is pm_X10_matches).getD 0 []).all (fun e => decide (decode (px_cc pm_X10_matches) e.1 = .ok (e.2.1, e.2.2))) = true := by decide +kernel
theorem pd_X10_matches : px_okD pm_X10_matches = true := by
  unfold px_okD
  exact px_by_rows 1 rfl fun o ho => match o, ho with
    | 0, _ => pd_X10_matches_0
    | n + 1, h => absurd h (by omega)
set_option maxRecDepth 100000 in
theorem pd_X10_matchOf_0 : ((px_is pm_X10_matchOf).getD 0 []).all (fun e => decide (decode (px_cc pm_X10_matchOf) e.1 = .ok (e.2.1, e.2.2))) = true := by decide +kernel
set_option maxRecDepth 100000 in
theorem pd_X10_matchOf_1 : ((px_is pm_X10_matchOf).getD 1 []).all (fun e => decide (decode (px_cc pm_X10_matchOf) e.1 = .ok (e.2.1, e.2.2))) = true := by decide +kernel
theorem pd_X10_matchOf : px_okD pm_X10_matchOf = true := by
  unfold px_okD
  exact px_by_rows 2 rfl fun o ho => match o, ho with
    | 0, _ => pd_X10_matchOf_0
    | 1, _ => pd_X10_matchOf_1
    | n + 2, h => absurd h (by omega)
set_option maxRecDepth 100000 in
theorem pd_X10_factOf_0 : ((px_is pm_X10_factOf).getD 0 []).all (fun e => decide (decode (px_cc pm_X10_factOf) e.1 = .ok (e.2.1, e.2.2))) = true := by decide +kernel
theorem pd_X10_factOf : px_okD pm_X10_factOf = true := by
  unfold px_okD
  exact px_by_rows 1 rfl fun o ho => match o, ho with
    | 0, _ => pd_X10_factOf_0
    | n + 1, h => absurd h (by omega)
set_option maxRecDepth 100000 in
theorem pd_X10_hasFired_0 : ((px_is pm_X10_hasFired).getD 0 []).all (fun e => decide (decode (px_cc pm_X10_hasFired) e.1 = .ok (e.2.1, e.2.2))) = true := by decide +kernel
theorem pd_X10_hasFired : px_okD pm_X10_hasFired = true := by
  unfold px_okD
  exact px_by_rows 1 rfl fun o ho => match o, ho with
    | 0, _ => pd_X10_hasFired_0
    | n + 1, h => absurd h (by omega)
set_option maxRecDepth 100000 in
theorem pd_X10_variableOf_0 : ((px_is pm_X10_variableOf).getD 0 []).all (fun e => decide (decode (px_cc pm_X10_variableOf) e.1 = .ok (e.2.1, e.2.2))) = true := by decide +kernel
theorem pd_X10_variableOf : px_okD pm_X10_variableOf = true := by
  unfold px_okD
  exact px_by_rows 1 rfl fun o ho => match o, ho with
    | 0, _ => pd_X10_variableOf_0
    | n + 1, h => absurd h (by omega)
set_option maxRecDepth 100000 in
theorem pd_X10_agenda_0 : ((px_is pm_X10_agenda).getD 0 []).all (fun e => decide (decode (px_cc pm_X10_agenda) e.1 = .ok (e.2.1, e.2.2))) = true := by decide +kernel
theorem pd_X10_agenda : px_okD pm_X10_agenda = true := by
  unfold px_okD
  exact px_by_rows 1 rfl fun o ho => match o, ho with
    | 0, _ => pd_X10_agenda_0
    | n + 1, h => absurd h (by omega)
set_option maxRecDepth 100000 in
theorem pd_X10_ofFirst_0 : ((px_is pm_X10_ofFirst).getD 0 []).all (fun e => decide (decode (px_cc pm_X10_ofFirst) e.1 = .ok (e.2.1, e.2.2))) = true := by decide +kernel
theorem pd_X10_ofFirst : px_okD pm_X10_ofFirst = true := by
  unfold px_okD
  exact px_by_rows 1 rfl fun o ho => match o, ho with
    | 0, _ => pd_X10_ofFirst_0
    | n + 1, h => absurd h (by omega)
set_option maxRecDepth 100000 in
theorem pd_X10_nextRule_0 : ((px_is pm_X10_nextRule).getD 0 []).all (fun e => decide (decode (px_cc pm_X10_nextRule) e.1 = .ok (e.2.1, e.2.2))) = true := by decide +kernel
theorem pd_X10_nextRule : px_okD pm_X10_nextRule = true := by
  unfold px_okD
  exact px_by_rows 1 rfl fun o ho => match o, ho with
    | 0, _ => pd_X10_nextRule_0
    | n + 1, h => absurd h (by omega)
set_option maxRecDepth 100000 in
theorem pd_X10_nextFact_0 : ((px_is pm_X10_nextFact).getD 0 []).all (fun e => decide (decode (px_cc pm_X10_nextFact) e.1 = .ok (e.2.1, e.2.2))) = true := by decide +kernel
theorem pd_X10_nextFact : px_okD pm_X10_nextFact = true := by
  unfold px_okD
  exact px_by_rows 1 rfl fun o ho => match o, ho with
    | 0, _ => pd_X10_nextFact_0
    | n + 1, h => absurd h (by omega)
set_option maxRecDepth 100000 in
theorem pd_X10_fired_0 : ((px_is pm_X10_fired).getD 0 []).all (fun e => decide (decode (px_cc pm_X10_fired) e.1 = .ok (e.2.1, e.2.2))) = true := by decide +kernel
theorem pd_X10_fired : px_okD pm_X10_fired = true := by
  unfold px_okD
  exact px_by_rows 1 rfl fun o ho => match o, ho with
    | 0, _ => pd_X10_fired_0
    | n + 1, h => absurd h (by omega)
set_option maxRecDepth 100000 in
theorem pd_X10_meanSupports_0 : ((px_is pm_X10_meanSupports).getD 0 []).all (fun e => decide (decode (px_cc pm_X10_meanSupports) e.1 = .ok (e.2.1, e.2.2))) = true := by decide +kernel
theorem pd_X10_meanSupports : px_okD pm_X10_meanSupports = true := by
  unfold px_okD
  exact px_by_rows 1 rfl fun o ho => match o, ho with
    | 0, _ => pd_X10_meanSupports_0
    | n + 1, h => absurd h (by omega)
set_option maxRecDepth 100000 in
theorem pd_X10_fireAhead_0 : ((px_is pm_X10_fireAhead).getD 0 []).all (fun e => decide (decode (px_cc pm_X10_fireAhead) e.1 = .ok (e.2.1, e.2.2))) = true := by decide +kernel
theorem pd_X10_fireAhead : px_okD pm_X10_fireAhead = true := by
  unfold px_okD
  exact px_by_rows 1 rfl fun o ho => match o, ho with
    | 0, _ => pd_X10_fireAhead_0
    | n + 1, h => absurd h (by omega)
set_option maxRecDepth 100000 in
theorem pd_X10_factsBehind_0 : ((px_is pm_X10_factsBehind).getD 0 []).all (fun e => decide (decode (px_cc pm_X10_factsBehind) e.1 = .ok (e.2.1, e.2.2))) = true := by decide +kernel
theorem pd_X10_factsBehind : px_okD pm_X10_factsBehind = true := by
  unfold px_okD
  exact px_by_rows 1 rfl fun o ho => match o, ho with
    | 0, _ => pd_X10_factsBehind_0
    | n + 1, h => absurd h (by omega)
set_option maxRecDepth 100000 in
theorem pd_X10_firingsToRest_0 : ((px_is pm_X10_firingsToRest).getD 0 []).all (fun e => decide (decode (px_cc pm_X10_firingsToRest) e.1 = .ok (e.2.1, e.2.2))) = true := by decide +kernel
theorem pd_X10_firingsToRest : px_okD pm_X10_firingsToRest = true := by
  unfold px_okD
  exact px_by_rows 1 rfl fun o ho => match o, ho with
    | 0, _ => pd_X10_firingsToRest_0
    | n + 1, h => absurd h (by omega)
set_option maxRecDepth 100000 in
theorem pd_X10_wouldGo_0 : ((px_is pm_X10_wouldGo).getD 0 []).all (fun e => decide (decode (px_cc pm_X10_wouldGo) e.1 = .ok (e.2.1, e.2.2))) = true := by decide +kernel
theorem pd_X10_wouldGo : px_okD pm_X10_wouldGo = true := by
  unfold px_okD
  exact px_by_rows 1 rfl fun o ho => match o, ho with
    | 0, _ => pd_X10_wouldGo_0
    | n + 1, h => absurd h (by omega)
set_option maxRecDepth 100000 in
theorem pd_X10_wouldHold_0 : ((px_is pm_X10_wouldHold).getD 0 []).all (fun e => decide (decode (px_cc pm_X10_wouldHold) e.1 = .ok (e.2.1, e.2.2))) = true := by decide +kernel
theorem pd_X10_wouldHold : px_okD pm_X10_wouldHold = true := by
  unfold px_okD
  exact px_by_rows 1 rfl fun o ho => match o, ho with
    | 0, _ => pd_X10_wouldHold_0
    | n + 1, h => absurd h (by omega)
set_option maxRecDepth 100000 in
theorem pd_X10_add_0 : ((px_is pm_X10_add).getD 0 []).all (fun e => decide (decode (px_cc pm_X10_add) e.1 = .ok (e.2.1, e.2.2))) = true := by decide +kernel
theorem pd_X10_add : px_okD pm_X10_add = true := by
  unfold px_okD
  exact px_by_rows 1 rfl fun o ho => match o, ho with
    | 0, _ => pd_X10_add_0
    | n + 1, h => absurd h (by omega)
set_option maxRecDepth 100000 in
theorem pd_X10_addToSum_0 : ((px_is pm_X10_addToSum).getD 0 []).all (fun e => decide (decode (px_cc pm_X10_addToSum) e.1 = .ok (e.2.1, e.2.2))) = true := by decide +kernel
set_option maxRecDepth 100000 in
theorem pd_X10_addToSum_1 : ((px_is pm_X10_addToSum).getD 1 []).all (fun e => decide (decode (px_cc pm_X10_addToSum) e.1 = .ok (e.2.1, e.2.2))) = true := by decide +kernel
set_option maxRecDepth 100000 in
theorem pd_X10_addToSum_2 : ((px_is pm_X10_addToSum).getD 2 []).all (fun e => decide (decode (px_cc pm_X10_addToSum) e.1 = .ok (e.2.1, e.2.2))) = true := by decide +kernel
set_option maxRecDepth 100000 in
theorem pd_X10_addToSum_3 : ((px_is pm_X10_addToSum).getD 3 []).all (fun e => decide (decode (px_cc pm_X10_addToSum) e.1 = .ok (e.2.1, e.2.2))) = true := by decide +kernel
theorem pd_X10_addToSum : px_okD pm_X10_addToSum = true := by
  unfold px_okD
  exact px_by_rows 4 rfl fun o ho => match o, ho with
    | 0, _ => pd_X10_addToSum_0
    | 1, _ => pd_X10_addToSum_1
    | 2, _ => pd_X10_addToSum_2
    | 3, _ => pd_X10_addToSum_3
    | n + 4, h => absurd h (by omega)
set_option maxRecDepth 100000 in
theorem pd_X10_digest_0 : ((px_is pm_X10_digest).getD 0 []).all (fun e => decide (decode (px_cc pm_X10_digest) e.1 = .ok (e.2.1, e.2.2))) = true := by decide +kernel
set_option maxRecDepth 100000 in
theorem pd_X10_digest_1 : ((px_is pm_X10_digest).getD 1 []).all (fun e => decide (decode (px_cc pm_X10_digest) e.1 = .ok (e.2.1, e.2.2))) = true := by decide +kernel
set_option maxRecDepth 100000 in
theorem pd_X10_digest_2 : ((px_is pm_X10_digest).getD 2 []).all (fun e => decide (decode (px_cc pm_X10_digest) e.1 = .ok (e.2.1, e.2.2))) = true := by decide +kernel
set_option maxRecDepth 100000 in
theorem pd_X10_digest_3 : ((px_is pm_X10_digest).getD 3 []).all (fun e => decide (decode (px_cc pm_X10_digest) e.1 = .ok (e.2.1, e.2.2))) = true := by decide +kernel
set_option maxRecDepth 100000 in
theorem pd_X10_digest_4 : ((px_is pm_X10_digest).getD 4 []).all (fun e => decide (decode (px_cc pm_X10_digest) e.1 = .ok (e.2.1, e.2.2))) = true := by decide +kernel
set_option maxRecDepth 100000 in
theorem pd_X10_digest_5 : ((px_is pm_X10_digest).getD 5 []).all (fun e => decide (decode (px_cc pm_X10_digest) e.1 = .ok (e.2.1, e.2.2))) = true := by decide +kernel
theorem pd_X10_digest : px_okD pm_X10_digest = true := by
  unfold px_okD
  exact px_by_rows 6 rfl fun o ho => match o, ho with
    | 0, _ => pd_X10_digest_0
    | 1, _ => pd_X10_digest_1
    | 2, _ => pd_X10_digest_2
    | 3, _ => pd_X10_digest_3
    | 4, _ => pd_X10_digest_4
    | 5, _ => pd_X10_digest_5
    | n + 6, h => absurd h (by omega)
set_option maxRecDepth 100000 in
theorem pd_L_addRule_0 : ((px_is pm_L_addRule).getD 0 []).all (fun e => decide (decode (px_cc pm_L_addRule) e.1 = .ok (e.2.1, e.2.2))) = true := by decide +kernel
theorem pd_L_addRule : px_okD pm_L_addRule = true := by
  unfold px_okD
  exact px_by_rows 1 rfl fun o ho => match o, ho with
    | 0, _ => pd_L_addRule_0
    | n + 1, h => absurd h (by omega)
set_option maxRecDepth 100000 in
theorem pd_L_addCondition_0 : ((px_is pm_L_addCondition).getD 0 []).all (fun e => decide (decode (px_cc pm_L_addCondition) e.1 = .ok (e.2.1, e.2.2))) = true := by decide +kernel
theorem pd_L_addCondition : px_okD pm_L_addCondition = true := by
  unfold px_okD
  exact px_by_rows 1 rfl fun o ho => match o, ho with
    | 0, _ => pd_L_addCondition_0
    | n + 1, h => absurd h (by omega)
set_option maxRecDepth 100000 in
theorem pd_L_setTest_0 : ((px_is pm_L_setTest).getD 0 []).all (fun e => decide (decode (px_cc pm_L_setTest) e.1 = .ok (e.2.1, e.2.2))) = true := by decide +kernel
theorem pd_L_setTest : px_okD pm_L_setTest = true := by
  unfold px_okD
  exact px_by_rows 1 rfl fun o ho => match o, ho with
    | 0, _ => pd_L_setTest_0
    | n + 1, h => absurd h (by omega)
set_option maxRecDepth 100000 in
theorem pd_L_addTold_0 : ((px_is pm_L_addTold).getD 0 []).all (fun e => decide (decode (px_cc pm_L_addTold) e.1 = .ok (e.2.1, e.2.2))) = true := by decide +kernel
theorem pd_L_addTold : px_okD pm_L_addTold = true := by
  unfold px_okD
  exact px_by_rows 1 rfl fun o ho => match o, ho with
    | 0, _ => pd_L_addTold_0
    | n + 1, h => absurd h (by omega)
set_option maxRecDepth 100000 in
theorem pd_L_setValue_0 : ((px_is pm_L_setValue).getD 0 []).all (fun e => decide (decode (px_cc pm_L_setValue) e.1 = .ok (e.2.1, e.2.2))) = true := by decide +kernel
theorem pd_L_setValue : px_okD pm_L_setValue = true := by
  unfold px_okD
  exact px_by_rows 1 rfl fun o ho => match o, ho with
    | 0, _ => pd_L_setValue_0
    | n + 1, h => absurd h (by omega)
set_option maxRecDepth 100000 in
theorem pd_L_addRetract_0 : ((px_is pm_L_addRetract).getD 0 []).all (fun e => decide (decode (px_cc pm_L_addRetract) e.1 = .ok (e.2.1, e.2.2))) = true := by decide +kernel
theorem pd_L_addRetract : px_okD pm_L_addRetract = true := by
  unfold px_okD
  exact px_by_rows 1 rfl fun o ho => match o, ho with
    | 0, _ => pd_L_addRetract_0
    | n + 1, h => absurd h (by omega)
set_option maxRecDepth 100000 in
theorem pd_L_switchOn_0 : ((px_is pm_L_switchOn).getD 0 []).all (fun e => decide (decode (px_cc pm_L_switchOn) e.1 = .ok (e.2.1, e.2.2))) = true := by decide +kernel
theorem pd_L_switchOn : px_okD pm_L_switchOn = true := by
  unfold px_okD
  exact px_by_rows 1 rfl fun o ho => match o, ho with
    | 0, _ => pd_L_switchOn_0
    | n + 1, h => absurd h (by omega)
set_option maxRecDepth 100000 in
theorem pd_L_switchOff_0 : ((px_is pm_L_switchOff).getD 0 []).all (fun e => decide (decode (px_cc pm_L_switchOff) e.1 = .ok (e.2.1, e.2.2))) = true := by decide +kernel
theorem pd_L_switchOff : px_okD pm_L_switchOff = true := by
  unfold px_okD
  exact px_by_rows 1 rfl fun o ho => match o, ho with
    | 0, _ => pd_L_switchOff_0
    | n + 1, h => absurd h (by omega)
set_option maxRecDepth 100000 in
theorem pd_L_state_0 : ((px_is pm_L_state).getD 0 []).all (fun e => decide (decode (px_cc pm_L_state) e.1 = .ok (e.2.1, e.2.2))) = true := by decide +kernel
theorem pd_L_state : px_okD pm_L_state = true := by
  unfold px_okD
  exact px_by_rows 1 rfl fun o ho => match o, ho with
    | 0, _ => pd_L_state_0
    | n + 1, h => absurd h (by omega)
set_option maxRecDepth 100000 in
theorem pd_L_takeBack_0 : ((px_is pm_L_takeBack).getD 0 []).all (fun e => decide (decode (px_cc pm_L_takeBack) e.1 = .ok (e.2.1, e.2.2))) = true := by decide +kernel
theorem pd_L_takeBack : px_okD pm_L_takeBack = true := by
  unfold px_okD
  exact px_by_rows 1 rfl fun o ho => match o, ho with
    | 0, _ => pd_L_takeBack_0
    | n + 1, h => absurd h (by omega)
set_option maxRecDepth 100000 in
theorem pd_L_retract_0 : ((px_is pm_L_retract).getD 0 []).all (fun e => decide (decode (px_cc pm_L_retract) e.1 = .ok (e.2.1, e.2.2))) = true := by decide +kernel
theorem pd_L_retract : px_okD pm_L_retract = true := by
  unfold px_okD
  exact px_by_rows 1 rfl fun o ho => match o, ho with
    | 0, _ => pd_L_retract_0
    | n + 1, h => absurd h (by omega)
set_option maxRecDepth 100000 in
theorem pd_L_fire_0 : ((px_is pm_L_fire).getD 0 []).all (fun e => decide (decode (px_cc pm_L_fire) e.1 = .ok (e.2.1, e.2.2))) = true := by decide +kernel
theorem pd_L_fire : px_okD pm_L_fire = true := by
  unfold px_okD
  exact px_by_rows 1 rfl fun o ho => match o, ho with
    | 0, _ => pd_L_fire_0
    | n + 1, h => absurd h (by omega)
set_option maxRecDepth 100000 in
theorem pd_L_isOn_0 : ((px_is pm_L_isOn).getD 0 []).all (fun e => decide (decode (px_cc pm_L_isOn) e.1 = .ok (e.2.1, e.2.2))) = true := by decide +kernel
theorem pd_L_isOn : px_okD pm_L_isOn = true := by
  unfold px_okD
  exact px_by_rows 1 rfl fun o ho => match o, ho with
    | 0, _ => pd_L_isOn_0
    | n + 1, h => absurd h (by omega)
set_option maxRecDepth 100000 in
theorem pd_L_isSound_0 : ((px_is pm_L_isSound).getD 0 []).all (fun e => decide (decode (px_cc pm_L_isSound) e.1 = .ok (e.2.1, e.2.2))) = true := by decide +kernel
theorem pd_L_isSound : px_okD pm_L_isSound = true := by
  unfold px_okD
  exact px_by_rows 1 rfl fun o ho => match o, ho with
    | 0, _ => pd_L_isSound_0
    | n + 1, h => absurd h (by omega)
set_option maxRecDepth 100000 in
theorem pd_L_urgency_0 : ((px_is pm_L_urgency).getD 0 []).all (fun e => decide (decode (px_cc pm_L_urgency) e.1 = .ok (e.2.1, e.2.2))) = true := by decide +kernel
theorem pd_L_urgency : px_okD pm_L_urgency = true := by
  unfold px_okD
  exact px_by_rows 1 rfl fun o ho => match o, ho with
    | 0, _ => pd_L_urgency_0
    | n + 1, h => absurd h (by omega)
set_option maxRecDepth 100000 in
theorem pd_L_conditions_0 : ((px_is pm_L_conditions).getD 0 []).all (fun e => decide (decode (px_cc pm_L_conditions) e.1 = .ok (e.2.1, e.2.2))) = true := by decide +kernel
theorem pd_L_conditions : px_okD pm_L_conditions = true := by
  unfold px_okD
  exact px_by_rows 1 rfl fun o ho => match o, ho with
    | 0, _ => pd_L_conditions_0
    | n + 1, h => absurd h (by omega)
set_option maxRecDepth 100000 in
theorem pd_L_actions_0 : ((px_is pm_L_actions).getD 0 []).all (fun e => decide (decode (px_cc pm_L_actions) e.1 = .ok (e.2.1, e.2.2))) = true := by decide +kernel
theorem pd_L_actions : px_okD pm_L_actions = true := by
  unfold px_okD
  exact px_by_rows 1 rfl fun o ho => match o, ho with
    | 0, _ => pd_L_actions_0
    | n + 1, h => absurd h (by omega)
set_option maxRecDepth 100000 in
theorem pd_L_candidates_0 : ((px_is pm_L_candidates).getD 0 []).all (fun e => decide (decode (px_cc pm_L_candidates) e.1 = .ok (e.2.1, e.2.2))) = true := by decide +kernel
theorem pd_L_candidates : px_okD pm_L_candidates = true := by
  unfold px_okD
  exact px_by_rows 1 rfl fun o ho => match o, ho with
    | 0, _ => pd_L_candidates_0
    | n + 1, h => absurd h (by omega)
set_option maxRecDepth 100000 in
theorem pd_L_firings_0 : ((px_is pm_L_firings).getD 0 []).all (fun e => decide (decode (px_cc pm_L_firings) e.1 = .ok (e.2.1, e.2.2))) = true := by decide +kernel
theorem pd_L_firings : px_okD pm_L_firings = true := by
  unfold px_okD
  exact px_by_rows 1 rfl fun o ho => match o, ho with
    | 0, _ => pd_L_firings_0
    | n + 1, h => absurd h (by omega)
set_option maxRecDepth 100000 in
theorem pd_L_kindOf_0 : ((px_is pm_L_kindOf).getD 0 []).all (fun e => decide (decode (px_cc pm_L_kindOf) e.1 = .ok (e.2.1, e.2.2))) = true := by decide +kernel
theorem pd_L_kindOf : px_okD pm_L_kindOf = true := by
  unfold px_okD
  exact px_by_rows 1 rfl fun o ho => match o, ho with
    | 0, _ => pd_L_kindOf_0
    | n + 1, h => absurd h (by omega)
set_option maxRecDepth 100000 in
theorem pd_L_valueOf_0 : ((px_is pm_L_valueOf).getD 0 []).all (fun e => decide (decode (px_cc pm_L_valueOf) e.1 = .ok (e.2.1, e.2.2))) = true := by decide +kernel
theorem pd_L_valueOf : px_okD pm_L_valueOf = true := by
  unfold px_okD
  exact px_by_rows 1 rfl fun o ho => match o, ho with
    | 0, _ => pd_L_valueOf_0
    | n + 1, h => absurd h (by omega)
set_option maxRecDepth 100000 in
theorem pd_L_isStated_0 : ((px_is pm_L_isStated).getD 0 []).all (fun e => decide (decode (px_cc pm_L_isStated) e.1 = .ok (e.2.1, e.2.2))) = true := by decide +kernel
theorem pd_L_isStated : px_okD pm_L_isStated = true := by
  unfold px_okD
  exact px_by_rows 1 rfl fun o ho => match o, ho with
    | 0, _ => pd_L_isStated_0
    | n + 1, h => absurd h (by omega)
set_option maxRecDepth 100000 in
theorem pd_L_supports_0 : ((px_is pm_L_supports).getD 0 []).all (fun e => decide (decode (px_cc pm_L_supports) e.1 = .ok (e.2.1, e.2.2))) = true := by decide +kernel
theorem pd_L_supports : px_okD pm_L_supports = true := by
  unfold px_okD
  exact px_by_rows 1 rfl fun o ho => match o, ho with
    | 0, _ => pd_L_supports_0
    | n + 1, h => absurd h (by omega)
set_option maxRecDepth 100000 in
theorem pd_L_because_0 : ((px_is pm_L_because).getD 0 []).all (fun e => decide (decode (px_cc pm_L_because) e.1 = .ok (e.2.1, e.2.2))) = true := by decide +kernel
theorem pd_L_because : px_okD pm_L_because = true := by
  unfold px_okD
  exact px_by_rows 1 rfl fun o ho => match o, ho with
    | 0, _ => pd_L_because_0
    | n + 1, h => absurd h (by omega)
set_option maxRecDepth 100000 in
theorem pd_L_distance_0 : ((px_is pm_L_distance).getD 0 []).all (fun e => decide (decode (px_cc pm_L_distance) e.1 = .ok (e.2.1, e.2.2))) = true := by decide +kernel
theorem pd_L_distance : px_okD pm_L_distance = true := by
  unfold px_okD
  exact px_by_rows 1 rfl fun o ho => match o, ho with
    | 0, _ => pd_L_distance_0
    | n + 1, h => absurd h (by omega)
set_option maxRecDepth 100000 in
theorem pd_L_uses_0 : ((px_is pm_L_uses).getD 0 []).all (fun e => decide (decode (px_cc pm_L_uses) e.1 = .ok (e.2.1, e.2.2))) = true := by decide +kernel
theorem pd_L_uses : px_okD pm_L_uses = true := by
  unfold px_okD
  exact px_by_rows 1 rfl fun o ho => match o, ho with
    | 0, _ => pd_L_uses_0
    | n + 1, h => absurd h (by omega)
set_option maxRecDepth 100000 in
theorem pd_L_matches_0 : ((px_is pm_L_matches).getD 0 []).all (fun e => decide (decode (px_cc pm_L_matches) e.1 = .ok (e.2.1, e.2.2))) = true := by decide +kernel
theorem pd_L_matches : px_okD pm_L_matches = true := by
  unfold px_okD
  exact px_by_rows 1 rfl fun o ho => match o, ho with
    | 0, _ => pd_L_matches_0
    | n + 1, h => absurd h (by omega)
set_option maxRecDepth 100000 in
theorem pd_L_factOf_0 : ((px_is pm_L_factOf).getD 0 []).all (fun e => decide (decode (px_cc pm_L_factOf) e.1 = .ok (e.2.1, e.2.2))) = true := by decide +kernel
theorem pd_L_factOf : px_okD pm_L_factOf = true := by
  unfold px_okD
  exact px_by_rows 1 rfl fun o ho => match o, ho with
    | 0, _ => pd_L_factOf_0
    | n + 1, h => absurd h (by omega)
set_option maxRecDepth 100000 in
theorem pd_L_hasFired_0 : ((px_is pm_L_hasFired).getD 0 []).all (fun e => decide (decode (px_cc pm_L_hasFired) e.1 = .ok (e.2.1, e.2.2))) = true := by decide +kernel
theorem pd_L_hasFired : px_okD pm_L_hasFired = true := by
  unfold px_okD
  exact px_by_rows 1 rfl fun o ho => match o, ho with
    | 0, _ => pd_L_hasFired_0
    | n + 1, h => absurd h (by omega)
set_option maxRecDepth 100000 in
theorem pd_L_variableOf_0 : ((px_is pm_L_variableOf).getD 0 []).all (fun e => decide (decode (px_cc pm_L_variableOf) e.1 = .ok (e.2.1, e.2.2))) = true := by decide +kernel
theorem pd_L_variableOf : px_okD pm_L_variableOf = true := by
  unfold px_okD
  exact px_by_rows 1 rfl fun o ho => match o, ho with
    | 0, _ => pd_L_variableOf_0
    | n + 1, h => absurd h (by omega)
set_option maxRecDepth 100000 in
theorem pd_L_factsBehind_0 : ((px_is pm_L_factsBehind).getD 0 []).all (fun e => decide (decode (px_cc pm_L_factsBehind) e.1 = .ok (e.2.1, e.2.2))) = true := by decide +kernel
theorem pd_L_factsBehind : px_okD pm_L_factsBehind = true := by
  unfold px_okD
  exact px_by_rows 1 rfl fun o ho => match o, ho with
    | 0, _ => pd_L_factsBehind_0
    | n + 1, h => absurd h (by omega)
set_option maxRecDepth 100000 in
theorem pd_L_firingsToRest_0 : ((px_is pm_L_firingsToRest).getD 0 []).all (fun e => decide (decode (px_cc pm_L_firingsToRest) e.1 = .ok (e.2.1, e.2.2))) = true := by decide +kernel
theorem pd_L_firingsToRest : px_okD pm_L_firingsToRest = true := by
  unfold px_okD
  exact px_by_rows 1 rfl fun o ho => match o, ho with
    | 0, _ => pd_L_firingsToRest_0
    | n + 1, h => absurd h (by omega)
set_option maxRecDepth 100000 in
theorem pd_L_wouldGo_0 : ((px_is pm_L_wouldGo).getD 0 []).all (fun e => decide (decode (px_cc pm_L_wouldGo) e.1 = .ok (e.2.1, e.2.2))) = true := by decide +kernel
theorem pd_L_wouldGo : px_okD pm_L_wouldGo = true := by
  unfold px_okD
  exact px_by_rows 1 rfl fun o ho => match o, ho with
    | 0, _ => pd_L_wouldGo_0
    | n + 1, h => absurd h (by omega)
set_option maxRecDepth 100000 in
theorem pd_L_wouldHold_0 : ((px_is pm_L_wouldHold).getD 0 []).all (fun e => decide (decode (px_cc pm_L_wouldHold) e.1 = .ok (e.2.1, e.2.2))) = true := by decide +kernel
theorem pd_L_wouldHold : px_okD pm_L_wouldHold = true := by
  unfold px_okD
  exact px_by_rows 1 rfl fun o ho => match o, ho with
    | 0, _ => pd_L_wouldHold_0
    | n + 1, h => absurd h (by omega)
set_option maxRecDepth 100000 in
theorem pd_law_0 : ((px_is pm_law).getD 0 []).all (fun e => decide (decode (px_cc pm_law) e.1 = .ok (e.2.1, e.2.2))) = true := by decide +kernel
set_option maxRecDepth 100000 in
theorem pd_law_1 : ((px_is pm_law).getD 1 []).all (fun e => decide (decode (px_cc pm_law) e.1 = .ok (e.2.1, e.2.2))) = true := by decide +kernel
set_option maxRecDepth 100000 in
theorem pd_law_2 : ((px_is pm_law).getD 2 []).all (fun e => decide (decode (px_cc pm_law) e.1 = .ok (e.2.1, e.2.2))) = true := by decide +kernel
set_option maxRecDepth 100000 in
theorem pd_law_3 : ((px_is pm_law).getD 3 []).all (fun e => decide (decode (px_cc pm_law) e.1 = .ok (e.2.1, e.2.2))) = true := by decide +kernel
set_option maxRecDepth 100000 in
theorem pd_law_4 : ((px_is pm_law).getD 4 []).all (fun e => decide (decode (px_cc pm_law) e.1 = .ok (e.2.1, e.2.2))) = true := by decide +kernel
set_option maxRecDepth 100000 in
theorem pd_law_5 : ((px_is pm_law).getD 5 []).all (fun e => decide (decode (px_cc pm_law) e.1 = .ok (e.2.1, e.2.2))) = true := by decide +kernel
set_option maxRecDepth 100000 in
theorem pd_law_6 : ((px_is pm_law).getD 6 []).all (fun e => decide (decode (px_cc pm_law) e.1 = .ok (e.2.1, e.2.2))) = true := by decide +kernel
set_option maxRecDepth 100000 in
theorem pd_law_7 : ((px_is pm_law).getD 7 []).all (fun e => decide (decode (px_cc pm_law) e.1 = .ok (e.2.1, e.2.2))) = true := by decide +kernel
set_option maxRecDepth 100000 in
theorem pd_law_8 : ((px_is pm_law).getD 8 []).all (fun e => decide (decode (px_cc pm_law) e.1 = .ok (e.2.1, e.2.2))) = true := by decide +kernel
set_option maxRecDepth 100000 in
theorem pd_law_9 : ((px_is pm_law).getD 9 []).all (fun e => decide (decode (px_cc pm_law) e.1 = .ok (e.2.1, e.2.2))) = true := by decide +kernel
set_option maxRecDepth 100000 in
theorem pd_law_10 : ((px_is pm_law).getD 10 []).all (fun e => decide (decode (px_cc pm_law) e.1 = .ok (e.2.1, e.2.2))) = true := by decide +kernel
set_option maxRecDepth 100000 in
theorem pd_law_11 : ((px_is pm_law).getD 11 []).all (fun e => decide (decode (px_cc pm_law) e.1 = .ok (e.2.1, e.2.2))) = true := by decide +kernel
set_option maxRecDepth 100000 in
theorem pd_law_12 : ((px_is pm_law).getD 12 []).all (fun e => decide (decode (px_cc pm_law) e.1 = .ok (e.2.1, e.2.2))) = true := by decide +kernel
set_option maxRecDepth 100000 in
theorem pd_law_13 : ((px_is pm_law).getD 13 []).all (fun e => decide (decode (px_cc pm_law) e.1 = .ok (e.2.1, e.2.2))) = true := by decide +kernel
set_option maxRecDepth 100000 in
theorem pd_law_14 : ((px_is pm_law).getD 14 []).all (fun e => decide (decode (px_cc pm_law) e.1 = .ok (e.2.1, e.2.2))) = true := by decide +kernel
set_option maxRecDepth 100000 in
theorem pd_law_15 : ((px_is pm_law).getD 15 []).all (fun e => decide (decode (px_cc pm_law) e.1 = .ok (e.2.1, e.2.2))) = true := by decide +kernel
set_option maxRecDepth 100000 in
theorem pd_law_16 : ((px_is pm_law).getD 16 []).all (fun e => decide (decode (px_cc pm_law) e.1 = .ok (e.2.1, e.2.2))) = true := by decide +kernel
set_option maxRecDepth 100000 in
theorem pd_law_17 : ((px_is pm_law).getD 17 []).all (fun e => decide (decode (px_cc pm_law) e.1 = .ok (e.2.1, e.2.2))) = true := by decide +kernel
set_option maxRecDepth 100000 in
theorem pd_law_18 : ((px_is pm_law).getD 18 []).all (fun e => decide (decode (px_cc pm_law) e.1 = .ok (e.2.1, e.2.2))) = true := by decide +kernel
set_option maxRecDepth 100000 in
theorem pd_law_19 : ((px_is pm_law).getD 19 []).all (fun e => decide (decode (px_cc pm_law) e.1 = .ok (e.2.1, e.2.2))) = true := by decide +kernel
set_option maxRecDepth 100000 in
theorem pd_law_20 : ((px_is pm_law).getD 20 []).all (fun e => decide (decode (px_cc pm_law) e.1 = .ok (e.2.1, e.2.2))) = true := by decide +kernel
set_option maxRecDepth 100000 in
theorem pd_law_21 : ((px_is pm_law).getD 21 []).all (fun e => decide (decode (px_cc pm_law) e.1 = .ok (e.2.1, e.2.2))) = true := by decide +kernel
set_option maxRecDepth 100000 in
theorem pd_law_22 : ((px_is pm_law).getD 22 []).all (fun e => decide (decode (px_cc pm_law) e.1 = .ok (e.2.1, e.2.2))) = true := by decide +kernel
set_option maxRecDepth 100000 in
theorem pd_law_23 : ((px_is pm_law).getD 23 []).all (fun e => decide (decode (px_cc pm_law) e.1 = .ok (e.2.1, e.2.2))) = true := by decide +kernel
set_option maxRecDepth 100000 in
theorem pd_law_24 : ((px_is pm_law).getD 24 []).all (fun e => decide (decode (px_cc pm_law) e.1 = .ok (e.2.1, e.2.2))) = true := by decide +kernel
set_option maxRecDepth 100000 in
theorem pd_law_25 : ((px_is pm_law).getD 25 []).all (fun e => decide (decode (px_cc pm_law) e.1 = .ok (e.2.1, e.2.2))) = true := by decide +kernel
set_option maxRecDepth 100000 in
theorem pd_law_26 : ((px_is pm_law).getD 26 []).all (fun e => decide (decode (px_cc pm_law) e.1 = .ok (e.2.1, e.2.2))) = true := by decide +kernel
set_option maxRecDepth 100000 in
theorem pd_law_27 : ((px_is pm_law).getD 27 []).all (fun e => decide (decode (px_cc pm_law) e.1 = .ok (e.2.1, e.2.2))) = true := by decide +kernel
set_option maxRecDepth 100000 in
theorem pd_law_28 : ((px_is pm_law).getD 28 []).all (fun e => decide (decode (px_cc pm_law) e.1 = .ok (e.2.1, e.2.2))) = true := by decide +kernel
set_option maxRecDepth 100000 in
theorem pd_law_29 : ((px_is pm_law).getD 29 []).all (fun e => decide (decode (px_cc pm_law) e.1 = .ok (e.2.1, e.2.2))) = true := by decide +kernel
set_option maxRecDepth 100000 in
theorem pd_law_30 : ((px_is pm_law).getD 30 []).all (fun e => decide (decode (px_cc pm_law) e.1 = .ok (e.2.1, e.2.2))) = true := by decide +kernel
set_option maxRecDepth 100000 in
theorem pd_law_31 : ((px_is pm_law).getD 31 []).all (fun e => decide (decode (px_cc pm_law) e.1 = .ok (e.2.1, e.2.2))) = true := by decide +kernel
set_option maxRecDepth 100000 in
theorem pd_law_32 : ((px_is pm_law).getD 32 []).all (fun e => decide (decode (px_cc pm_law) e.1 = .ok (e.2.1, e.2.2))) = true := by decide +kernel
set_option maxRecDepth 100000 in
theorem pd_law_33 : ((px_is pm_law).getD 33 []).all (fun e => decide (decode (px_cc pm_law) e.1 = .ok (e.2.1, e.2.2))) = true := by decide +kernel
set_option maxRecDepth 100000 in
theorem pd_law_34 : ((px_is pm_law).getD 34 []).all (fun e => decide (decode (px_cc pm_law) e.1 = .ok (e.2.1, e.2.2))) = true := by decide +kernel
set_option maxRecDepth 100000 in
theorem pd_law_35 : ((px_is pm_law).getD 35 []).all (fun e => decide (decode (px_cc pm_law) e.1 = .ok (e.2.1, e.2.2))) = true := by decide +kernel
set_option maxRecDepth 100000 in
theorem pd_law_36 : ((px_is pm_law).getD 36 []).all (fun e => decide (decode (px_cc pm_law) e.1 = .ok (e.2.1, e.2.2))) = true := by decide +kernel
set_option maxRecDepth 100000 in
theorem pd_law_37 : ((px_is pm_law).getD 37 []).all (fun e => decide (decode (px_cc pm_law) e.1 = .ok (e.2.1, e.2.2))) = true := by decide +kernel
set_option maxRecDepth 100000 in
theorem pd_law_38 : ((px_is pm_law).getD 38 []).all (fun e => decide (decode (px_cc pm_law) e.1 = .ok (e.2.1, e.2.2))) = true := by decide +kernel
set_option maxRecDepth 100000 in
theorem pd_law_39 : ((px_is pm_law).getD 39 []).all (fun e => decide (decode (px_cc pm_law) e.1 = .ok (e.2.1, e.2.2))) = true := by decide +kernel
set_option maxRecDepth 100000 in
theorem pd_law_40 : ((px_is pm_law).getD 40 []).all (fun e => decide (decode (px_cc pm_law) e.1 = .ok (e.2.1, e.2.2))) = true := by decide +kernel
set_option maxRecDepth 100000 in
theorem pd_law_41 : ((px_is pm_law).getD 41 []).all (fun e => decide (decode (px_cc pm_law) e.1 = .ok (e.2.1, e.2.2))) = true := by decide +kernel
set_option maxRecDepth 100000 in
theorem pd_law_42 : ((px_is pm_law).getD 42 []).all (fun e => decide (decode (px_cc pm_law) e.1 = .ok (e.2.1, e.2.2))) = true := by decide +kernel
set_option maxRecDepth 100000 in
theorem pd_law_43 : ((px_is pm_law).getD 43 []).all (fun e => decide (decode (px_cc pm_law) e.1 = .ok (e.2.1, e.2.2))) = true := by decide +kernel
theorem pd_law : px_okD pm_law = true := by
  unfold px_okD
  exact px_by_rows 44 rfl fun o ho => match o, ho with
    | 0, _ => pd_law_0
    | 1, _ => pd_law_1
    | 2, _ => pd_law_2
    | 3, _ => pd_law_3
    | 4, _ => pd_law_4
    | 5, _ => pd_law_5
    | 6, _ => pd_law_6
    | 7, _ => pd_law_7
    | 8, _ => pd_law_8
    | 9, _ => pd_law_9
    | 10, _ => pd_law_10
    | 11, _ => pd_law_11
    | 12, _ => pd_law_12
    | 13, _ => pd_law_13
    | 14, _ => pd_law_14
    | 15, _ => pd_law_15
    | 16, _ => pd_law_16
    | 17, _ => pd_law_17
    | 18, _ => pd_law_18
    | 19, _ => pd_law_19
    | 20, _ => pd_law_20
    | 21, _ => pd_law_21
    | 22, _ => pd_law_22
    | 23, _ => pd_law_23
    | 24, _ => pd_law_24
    | 25, _ => pd_law_25
    | 26, _ => pd_law_26
    | 27, _ => pd_law_27
    | 28, _ => pd_law_28
    | 29, _ => pd_law_29
    | 30, _ => pd_law_30
    | 31, _ => pd_law_31
    | 32, _ => pd_law_32
    | 33, _ => pd_law_33
    | 34, _ => pd_law_34
    | 35, _ => pd_law_35
    | 36, _ => pd_law_36
    | 37, _ => pd_law_37
    | 38, _ => pd_law_38
    | 39, _ => pd_law_39
    | 40, _ => pd_law_40
    | 41, _ => pd_law_41
    | 42, _ => pd_law_42
    | 43, _ => pd_law_43
    | n + 44, h => absurd h (by omega)
theorem px_mt_dec : ∀ M ∈ px_mt, px_okD M = true := by
  unfold px_mt
  refine List.forall_mem_cons.mpr ⟨pd_X0_init, ?_⟩
  refine List.forall_mem_cons.mpr ⟨pd_X0_append, ?_⟩
  refine List.forall_mem_cons.mpr ⟨pd_X0_isRetract, ?_⟩
  refine List.forall_mem_cons.mpr ⟨pd_X0_isSupport, ?_⟩
  refine List.forall_mem_cons.mpr ⟨pd_X0_kindOfTold, ?_⟩
  refine List.forall_mem_cons.mpr ⟨pd_X0_conditionOf, ?_⟩
  refine List.forall_mem_cons.mpr ⟨pd_X0_replaceValue, ?_⟩
  refine List.forall_mem_cons.mpr ⟨pd_X0_restOn, ?_⟩
  refine List.forall_mem_cons.mpr ⟨pd_X0_toldValue, ?_⟩
  refine List.forall_mem_cons.mpr ⟨pd_X1_init, ?_⟩
  refine List.forall_mem_cons.mpr ⟨pd_X1_append, ?_⟩
  refine List.forall_mem_cons.mpr ⟨pd_X1_replaceTest, ?_⟩
  refine List.forall_mem_cons.mpr ⟨pd_X1_bindVariables, ?_⟩
  refine List.forall_mem_cons.mpr ⟨pd_X1_areBoundAhead, ?_⟩
  refine List.forall_mem_cons.mpr ⟨pd_X1_isEach, ?_⟩
  refine List.forall_mem_cons.mpr ⟨pd_X1_conditionAt, ?_⟩
  refine List.forall_mem_cons.mpr ⟨pd_X1_placeFor, ?_⟩
  refine List.forall_mem_cons.mpr ⟨pd_X1_kindAt, ?_⟩
  refine List.forall_mem_cons.mpr ⟨pd_X1_binderOf, ?_⟩
  refine List.forall_mem_cons.mpr ⟨pd_X1_pass, ?_⟩
  refine List.forall_mem_cons.mpr ⟨pd_X1_compares, ?_⟩
  refine List.forall_mem_cons.mpr ⟨pd_X1_countsAreSo, ?_⟩
  refine List.forall_mem_cons.mpr ⟨pd_X1_countCandidates, ?_⟩
  refine List.forall_mem_cons.mpr ⟨pd_X1_passNumbers, ?_⟩
  refine List.forall_mem_cons.mpr ⟨pd_X2_init, ?_⟩
  refine List.forall_mem_cons.mpr ⟨pd_X2_become, ?_⟩
  refine List.forall_mem_cons.mpr ⟨pd_X2_placeOf, ?_⟩
  refine List.forall_mem_cons.mpr ⟨pd_X2_placeLike, ?_⟩
  refine List.forall_mem_cons.mpr ⟨pd_X2_placeAfter, ?_⟩
  refine List.forall_mem_cons.mpr ⟨pd_X2_countOf, ?_⟩
  refine List.forall_mem_cons.mpr ⟨pd_X2_placeByAge, ?_⟩
  refine List.forall_mem_cons.mpr ⟨pd_X2_numberAt, ?_⟩
  refine List.forall_mem_cons.mpr ⟨pd_X2_valueAt, ?_⟩
  refine List.forall_mem_cons.mpr ⟨pd_X2_freePlace, ?_⟩
  refine List.forall_mem_cons.mpr ⟨pd_X2_findOrCreate, ?_⟩
  refine List.forall_mem_cons.mpr ⟨pd_X2_create, ?_⟩
  refine List.forall_mem_cons.mpr ⟨pd_X2_drop, ?_⟩
  refine List.forall_mem_cons.mpr ⟨pd_X3_init, ?_⟩
  refine List.forall_mem_cons.mpr ⟨pd_X3_become, ?_⟩
  refine List.forall_mem_cons.mpr ⟨pd_X3_matchAt, ?_⟩
  refine List.forall_mem_cons.mpr ⟨pd_X3_isMatch, ?_⟩
  refine List.forall_mem_cons.mpr ⟨pd_X3_isSpent, ?_⟩
  refine List.forall_mem_cons.mpr ⟨pd_X3_isStillSpent, ?_⟩
  refine List.forall_mem_cons.mpr ⟨pd_X3_markFired, ?_⟩
  refine List.forall_mem_cons.mpr ⟨pd_X3_rankOf, ?_⟩
  refine List.forall_mem_cons.mpr ⟨pd_X3_forget, ?_⟩
  refine List.forall_mem_cons.mpr ⟨pd_X3_findAnew, ?_⟩
  refine List.forall_mem_cons.mpr ⟨pd_X3_widthOf, ?_⟩
  refine List.forall_mem_cons.mpr ⟨pd_X3_choose, ?_⟩
  refine List.forall_mem_cons.mpr ⟨pd_X3_keep, ?_⟩
  refine List.forall_mem_cons.mpr ⟨pd_X3_bear, ?_⟩
  refine List.forall_mem_cons.mpr ⟨pd_X3_supportsFact, ?_⟩
  refine List.forall_mem_cons.mpr ⟨pd_X3_toldBy, ?_⟩
  refine List.forall_mem_cons.mpr ⟨pd_X3_support, ?_⟩
  refine List.forall_mem_cons.mpr ⟨pd_X3_hasPlace, ?_⟩
  refine List.forall_mem_cons.mpr ⟨pd_X3_placeAt, ?_⟩
  refine List.forall_mem_cons.mpr ⟨pd_X4_init, ?_⟩
  refine List.forall_mem_cons.mpr ⟨pd_X4_isWellMade, ?_⟩
  refine List.forall_mem_cons.mpr ⟨pd_X5_init, ?_⟩
  refine List.forall_mem_cons.mpr ⟨pd_X5_become, ?_⟩
  refine List.forall_mem_cons.mpr ⟨pd_X5_stateFact, ?_⟩
  refine List.forall_mem_cons.mpr ⟨pd_X5_removeFact, ?_⟩
  refine List.forall_mem_cons.mpr ⟨pd_X5_settle, ?_⟩
  refine List.forall_mem_cons.mpr ⟨pd_X5_dropLoose, ?_⟩
  refine List.forall_mem_cons.mpr ⟨pd_X5_fireUpTo, ?_⟩
  refine List.forall_mem_cons.mpr ⟨pd_X5_remember, ?_⟩
  refine List.forall_mem_cons.mpr ⟨pd_X5_dropFiring, ?_⟩
  refine List.forall_mem_cons.mpr ⟨pd_X5_tell, ?_⟩
  refine List.forall_mem_cons.mpr ⟨pd_X5_countWaiting, ?_⟩
  refine List.forall_mem_cons.mpr ⟨pd_X5_firstWaiting, ?_⟩
  refine List.forall_mem_cons.mpr ⟨pd_X5_goesAhead, ?_⟩
  refine List.forall_mem_cons.mpr ⟨pd_X5_urgencyOf, ?_⟩
  refine List.forall_mem_cons.mpr ⟨pd_X5_factAt, ?_⟩
  refine List.forall_mem_cons.mpr ⟨pd_X5_variableIn, ?_⟩
  refine List.forall_mem_cons.mpr ⟨pd_X5_countSupports, ?_⟩
  refine List.forall_mem_cons.mpr ⟨pd_X5_firstReason, ?_⟩
  refine List.forall_mem_cons.mpr ⟨pd_X5_countUses, ?_⟩
  refine List.forall_mem_cons.mpr ⟨pd_X5_findDistances, ?_⟩
  refine List.forall_mem_cons.mpr ⟨pd_X5_reach, ?_⟩
  refine List.forall_mem_cons.mpr ⟨pd_X5_isNearer, ?_⟩
  refine List.forall_mem_cons.mpr ⟨pd_X6_init, ?_⟩
  refine List.forall_mem_cons.mpr ⟨pd_X6_addRule, ?_⟩
  refine List.forall_mem_cons.mpr ⟨pd_X6_addCondition, ?_⟩
  refine List.forall_mem_cons.mpr ⟨pd_X6_setTest, ?_⟩
  refine List.forall_mem_cons.mpr ⟨pd_X6_addTold, ?_⟩
  refine List.forall_mem_cons.mpr ⟨pd_X6_setValue, ?_⟩
  refine List.forall_mem_cons.mpr ⟨pd_X6_addRetract, ?_⟩
  refine List.forall_mem_cons.mpr ⟨pd_X6_switchOn, ?_⟩
  refine List.forall_mem_cons.mpr ⟨pd_X6_switchOff, ?_⟩
  refine List.forall_mem_cons.mpr ⟨pd_X6_state, ?_⟩
  refine List.forall_mem_cons.mpr ⟨pd_X6_takeBack, ?_⟩
  refine List.forall_mem_cons.mpr ⟨pd_X6_retract, ?_⟩
  refine List.forall_mem_cons.mpr ⟨pd_X6_fire, ?_⟩
  refine List.forall_mem_cons.mpr ⟨pd_X6_rules, ?_⟩
  refine List.forall_mem_cons.mpr ⟨pd_X6_isOn, ?_⟩
  refine List.forall_mem_cons.mpr ⟨pd_X6_isSound, ?_⟩
  refine List.forall_mem_cons.mpr ⟨pd_X6_urgency, ?_⟩
  refine List.forall_mem_cons.mpr ⟨pd_X6_conditions, ?_⟩
  refine List.forall_mem_cons.mpr ⟨pd_X6_actions, ?_⟩
  refine List.forall_mem_cons.mpr ⟨pd_X6_candidates, ?_⟩
  refine List.forall_mem_cons.mpr ⟨pd_X6_firings, ?_⟩
  refine List.forall_mem_cons.mpr ⟨pd_X6_facts, ?_⟩
  refine List.forall_mem_cons.mpr ⟨pd_X6_next, ?_⟩
  refine List.forall_mem_cons.mpr ⟨pd_X6_isThere, ?_⟩
  refine List.forall_mem_cons.mpr ⟨pd_X6_find, ?_⟩
  refine List.forall_mem_cons.mpr ⟨pd_X6_kindOf, ?_⟩
  refine List.forall_mem_cons.mpr ⟨pd_X6_valueOf, ?_⟩
  refine List.forall_mem_cons.mpr ⟨pd_X6_isStated, ?_⟩
  refine List.forall_mem_cons.mpr ⟨pd_X6_supports, ?_⟩
  refine List.forall_mem_cons.mpr ⟨pd_X6_because, ?_⟩
  refine List.forall_mem_cons.mpr ⟨pd_X6_distance, ?_⟩
  refine List.forall_mem_cons.mpr ⟨pd_X6_uses, ?_⟩
  refine List.forall_mem_cons.mpr ⟨pd_X6_matches, ?_⟩
  refine List.forall_mem_cons.mpr ⟨pd_X6_factOf, ?_⟩
  refine List.forall_mem_cons.mpr ⟨pd_X6_hasFired, ?_⟩
  refine List.forall_mem_cons.mpr ⟨pd_X6_variableOf, ?_⟩
  refine List.forall_mem_cons.mpr ⟨pd_X6_agenda, ?_⟩
  refine List.forall_mem_cons.mpr ⟨pd_X6_nextRule, ?_⟩
  refine List.forall_mem_cons.mpr ⟨pd_X6_nextFact, ?_⟩
  refine List.forall_mem_cons.mpr ⟨pd_X6_fired, ?_⟩
  refine List.forall_mem_cons.mpr ⟨pd_X6_meanSupports, ?_⟩
  refine List.forall_mem_cons.mpr ⟨pd_X6_factsBehind, ?_⟩
  refine List.forall_mem_cons.mpr ⟨pd_X6_firingsToRest, ?_⟩
  refine List.forall_mem_cons.mpr ⟨pd_X6_wouldGo, ?_⟩
  refine List.forall_mem_cons.mpr ⟨pd_X6_wouldHold, ?_⟩
  refine List.forall_mem_cons.mpr ⟨pd_X6_digest, ?_⟩
  refine List.forall_mem_cons.mpr ⟨pd_X6_digestOfRule, ?_⟩
  refine List.forall_mem_cons.mpr ⟨pd_X6_digestOfFact, ?_⟩
  refine List.forall_mem_cons.mpr ⟨pd_X6_needRule, ?_⟩
  refine List.forall_mem_cons.mpr ⟨pd_X6_needCondition, ?_⟩
  refine List.forall_mem_cons.mpr ⟨pd_X6_needFact, ?_⟩
  refine List.forall_mem_cons.mpr ⟨pd_X6_needMatch, ?_⟩
  refine List.forall_mem_cons.mpr ⟨pd_X6_needMost, ?_⟩
  refine List.forall_mem_cons.mpr ⟨pd_X6_isKind, ?_⟩
  refine List.forall_mem_cons.mpr ⟨pd_X6_isSlot, ?_⟩
  refine List.forall_mem_cons.mpr ⟨pd_X6_isValue, ?_⟩
  refine List.forall_mem_cons.mpr ⟨pd_X6_isTestNumber, ?_⟩
  refine List.forall_mem_cons.mpr ⟨pd_X7_init, ?_⟩
  refine List.forall_mem_cons.mpr ⟨pd_X7_add, ?_⟩
  refine List.forall_mem_cons.mpr ⟨pd_X7_get, ?_⟩
  refine List.forall_mem_cons.mpr ⟨pd_X7_set, ?_⟩
  refine List.forall_mem_cons.mpr ⟨pd_X7_remove, ?_⟩
  refine List.forall_mem_cons.mpr ⟨pd_X7_become, ?_⟩
  refine List.forall_mem_cons.mpr ⟨pd_X8_init, ?_⟩
  refine List.forall_mem_cons.mpr ⟨pd_X8_eaches, ?_⟩
  refine List.forall_mem_cons.mpr ⟨pd_X8_binds, ?_⟩
  refine List.forall_mem_cons.mpr ⟨pd_X8_isSound, ?_⟩
  refine List.forall_mem_cons.mpr ⟨pd_X8_placeOf, ?_⟩
  refine List.forall_mem_cons.mpr ⟨pd_X9_init, ?_⟩
  refine List.forall_mem_cons.mpr ⟨pd_X9_become, ?_⟩
  refine List.forall_mem_cons.mpr ⟨pd_X9_place, ?_⟩
  refine List.forall_mem_cons.mpr ⟨pd_X9_find, ?_⟩
  refine List.forall_mem_cons.mpr ⟨pd_X9_ofKind, ?_⟩
  refine List.forall_mem_cons.mpr ⟨pd_X9_fulfils, ?_⟩
  refine List.forall_mem_cons.mpr ⟨pd_X9_fits, ?_⟩
  refine List.forall_mem_cons.mpr ⟨pd_X9_count, ?_⟩
  refine List.forall_mem_cons.mpr ⟨pd_X9_search, ?_⟩
  refine List.forall_mem_cons.mpr ⟨pd_X9_take, ?_⟩
  refine List.forall_mem_cons.mpr ⟨pd_X9_order, ?_⟩
  refine List.forall_mem_cons.mpr ⟨pd_X9_isAhead, ?_⟩
  refine List.forall_mem_cons.mpr ⟨pd_X9_isBehind, ?_⟩
  refine List.forall_mem_cons.mpr ⟨pd_X9_findMatches, ?_⟩
  refine List.forall_mem_cons.mpr ⟨pd_X9_matchPlace, ?_⟩
  refine List.forall_mem_cons.mpr ⟨pd_X9_supports, ?_⟩
  refine List.forall_mem_cons.mpr ⟨pd_X9_settle, ?_⟩
  refine List.forall_mem_cons.mpr ⟨pd_X9_add, ?_⟩
  refine List.forall_mem_cons.mpr ⟨pd_X9_retract, ?_⟩
  refine List.forall_mem_cons.mpr ⟨pd_X9_falling, ?_⟩
  refine List.forall_mem_cons.mpr ⟨pd_X9_comesFirst, ?_⟩
  refine List.forall_mem_cons.mpr ⟨pd_X9_first, ?_⟩
  refine List.forall_mem_cons.mpr ⟨pd_X9_agenda, ?_⟩
  refine List.forall_mem_cons.mpr ⟨pd_X9_variables, ?_⟩
  refine List.forall_mem_cons.mpr ⟨pd_X9_fire, ?_⟩
  refine List.forall_mem_cons.mpr ⟨pd_X9_fireOne, ?_⟩
  refine List.forall_mem_cons.mpr ⟨pd_X9_tell, ?_⟩
  refine List.forall_mem_cons.mpr ⟨pd_X9_support, ?_⟩
  refine List.forall_mem_cons.mpr ⟨pd_X10_init, ?_⟩
  refine List.forall_mem_cons.mpr ⟨pd_X10_thrown, ?_⟩
  refine List.forall_mem_cons.mpr ⟨pd_X10_refuse, ?_⟩
  refine List.forall_mem_cons.mpr ⟨pd_X10_is, ?_⟩
  refine List.forall_mem_cons.mpr ⟨pd_X10_isRule, ?_⟩
  refine List.forall_mem_cons.mpr ⟨pd_X10_isCondition, ?_⟩
  refine List.forall_mem_cons.mpr ⟨pd_X10_isValue, ?_⟩
  refine List.forall_mem_cons.mpr ⟨pd_X10_addRule, ?_⟩
  refine List.forall_mem_cons.mpr ⟨pd_X10_addCondition, ?_⟩
  refine List.forall_mem_cons.mpr ⟨pd_X10_setTest, ?_⟩
  refine List.forall_mem_cons.mpr ⟨pd_X10_addAction, ?_⟩
  refine List.forall_mem_cons.mpr ⟨pd_X10_addTold, ?_⟩
  refine List.forall_mem_cons.mpr ⟨pd_X10_setValue, ?_⟩
  refine List.forall_mem_cons.mpr ⟨pd_X10_addRetract, ?_⟩
  refine List.forall_mem_cons.mpr ⟨pd_X10_switchOn, ?_⟩
  refine List.forall_mem_cons.mpr ⟨pd_X10_switchOff, ?_⟩
  refine List.forall_mem_cons.mpr ⟨pd_X10_state, ?_⟩
  refine List.forall_mem_cons.mpr ⟨pd_X10_takeBack, ?_⟩
  refine List.forall_mem_cons.mpr ⟨pd_X10_retract, ?_⟩
  refine List.forall_mem_cons.mpr ⟨pd_X10_fire, ?_⟩
  refine List.forall_mem_cons.mpr ⟨pd_X10_rules, ?_⟩
  refine List.forall_mem_cons.mpr ⟨pd_X10_has, ?_⟩
  refine List.forall_mem_cons.mpr ⟨pd_X10_isOn, ?_⟩
  refine List.forall_mem_cons.mpr ⟨pd_X10_isSound, ?_⟩
  refine List.forall_mem_cons.mpr ⟨pd_X10_urgency, ?_⟩
  refine List.forall_mem_cons.mpr ⟨pd_X10_conditions, ?_⟩
  refine List.forall_mem_cons.mpr ⟨pd_X10_actions, ?_⟩
  refine List.forall_mem_cons.mpr ⟨pd_X10_candidates, ?_⟩
  refine List.forall_mem_cons.mpr ⟨pd_X10_firings, ?_⟩
  refine List.forall_mem_cons.mpr ⟨pd_X10_isFact, ?_⟩
  refine List.forall_mem_cons.mpr ⟨pd_X10_facts, ?_⟩
  refine List.forall_mem_cons.mpr ⟨pd_X10_next, ?_⟩
  refine List.forall_mem_cons.mpr ⟨pd_X10_isThere, ?_⟩
  refine List.forall_mem_cons.mpr ⟨pd_X10_find, ?_⟩
  refine List.forall_mem_cons.mpr ⟨pd_X10_kindOf, ?_⟩
  refine List.forall_mem_cons.mpr ⟨pd_X10_valueOf, ?_⟩
  refine List.forall_mem_cons.mpr ⟨pd_X10_isStated, ?_⟩
  refine List.forall_mem_cons.mpr ⟨pd_X10_supports, ?_⟩
  refine List.forall_mem_cons.mpr ⟨pd_X10_reason, ?_⟩
  refine List.forall_mem_cons.mpr ⟨pd_X10_because, ?_⟩
  refine List.forall_mem_cons.mpr ⟨pd_X10_distances, ?_⟩
  refine List.forall_mem_cons.mpr ⟨pd_X10_distanceAt, ?_⟩
  refine List.forall_mem_cons.mpr ⟨pd_X10_distance, ?_⟩
  refine List.forall_mem_cons.mpr ⟨pd_X10_useOf, ?_⟩
  refine List.forall_mem_cons.mpr ⟨pd_X10_uses, ?_⟩
  refine List.forall_mem_cons.mpr ⟨pd_X10_matchesOf, ?_⟩
  refine List.forall_mem_cons.mpr ⟨pd_X10_matches, ?_⟩
  refine List.forall_mem_cons.mpr ⟨pd_X10_matchOf, ?_⟩
  refine List.forall_mem_cons.mpr ⟨pd_X10_factOf, ?_⟩
  refine List.forall_mem_cons.mpr ⟨pd_X10_hasFired, ?_⟩
  refine List.forall_mem_cons.mpr ⟨pd_X10_variableOf, ?_⟩
  refine List.forall_mem_cons.mpr ⟨pd_X10_agenda, ?_⟩
  refine List.forall_mem_cons.mpr ⟨pd_X10_ofFirst, ?_⟩
  refine List.forall_mem_cons.mpr ⟨pd_X10_nextRule, ?_⟩
  refine List.forall_mem_cons.mpr ⟨pd_X10_nextFact, ?_⟩
  refine List.forall_mem_cons.mpr ⟨pd_X10_fired, ?_⟩
  refine List.forall_mem_cons.mpr ⟨pd_X10_meanSupports, ?_⟩
  refine List.forall_mem_cons.mpr ⟨pd_X10_fireAhead, ?_⟩
  refine List.forall_mem_cons.mpr ⟨pd_X10_factsBehind, ?_⟩
  refine List.forall_mem_cons.mpr ⟨pd_X10_firingsToRest, ?_⟩
  refine List.forall_mem_cons.mpr ⟨pd_X10_wouldGo, ?_⟩
  refine List.forall_mem_cons.mpr ⟨pd_X10_wouldHold, ?_⟩
  refine List.forall_mem_cons.mpr ⟨pd_X10_add, ?_⟩
  refine List.forall_mem_cons.mpr ⟨pd_X10_addToSum, ?_⟩
  refine List.forall_mem_cons.mpr ⟨pd_X10_digest, ?_⟩
  refine List.forall_mem_cons.mpr ⟨pd_L_addRule, ?_⟩
  refine List.forall_mem_cons.mpr ⟨pd_L_addCondition, ?_⟩
  refine List.forall_mem_cons.mpr ⟨pd_L_setTest, ?_⟩
  refine List.forall_mem_cons.mpr ⟨pd_L_addTold, ?_⟩
  refine List.forall_mem_cons.mpr ⟨pd_L_setValue, ?_⟩
  refine List.forall_mem_cons.mpr ⟨pd_L_addRetract, ?_⟩
  refine List.forall_mem_cons.mpr ⟨pd_L_switchOn, ?_⟩
  refine List.forall_mem_cons.mpr ⟨pd_L_switchOff, ?_⟩
  refine List.forall_mem_cons.mpr ⟨pd_L_state, ?_⟩
  refine List.forall_mem_cons.mpr ⟨pd_L_takeBack, ?_⟩
  refine List.forall_mem_cons.mpr ⟨pd_L_retract, ?_⟩
  refine List.forall_mem_cons.mpr ⟨pd_L_fire, ?_⟩
  refine List.forall_mem_cons.mpr ⟨pd_L_isOn, ?_⟩
  refine List.forall_mem_cons.mpr ⟨pd_L_isSound, ?_⟩
  refine List.forall_mem_cons.mpr ⟨pd_L_urgency, ?_⟩
  refine List.forall_mem_cons.mpr ⟨pd_L_conditions, ?_⟩
  refine List.forall_mem_cons.mpr ⟨pd_L_actions, ?_⟩
  refine List.forall_mem_cons.mpr ⟨pd_L_candidates, ?_⟩
  refine List.forall_mem_cons.mpr ⟨pd_L_firings, ?_⟩
  refine List.forall_mem_cons.mpr ⟨pd_L_kindOf, ?_⟩
  refine List.forall_mem_cons.mpr ⟨pd_L_valueOf, ?_⟩
  refine List.forall_mem_cons.mpr ⟨pd_L_isStated, ?_⟩
  refine List.forall_mem_cons.mpr ⟨pd_L_supports, ?_⟩
  refine List.forall_mem_cons.mpr ⟨pd_L_because, ?_⟩
  refine List.forall_mem_cons.mpr ⟨pd_L_distance, ?_⟩
  refine List.forall_mem_cons.mpr ⟨pd_L_uses, ?_⟩
  refine List.forall_mem_cons.mpr ⟨pd_L_matches, ?_⟩
  refine List.forall_mem_cons.mpr ⟨pd_L_factOf, ?_⟩
  refine List.forall_mem_cons.mpr ⟨pd_L_hasFired, ?_⟩
  refine List.forall_mem_cons.mpr ⟨pd_L_variableOf, ?_⟩
  refine List.forall_mem_cons.mpr ⟨pd_L_factsBehind, ?_⟩
  refine List.forall_mem_cons.mpr ⟨pd_L_firingsToRest, ?_⟩
  refine List.forall_mem_cons.mpr ⟨pd_L_wouldGo, ?_⟩
  refine List.forall_mem_cons.mpr ⟨pd_L_wouldHold, ?_⟩
  exact fun _ h => absurd h List.not_mem_nil
theorem px_dec_of {M : px_M} (h : px_okD M = true) (pc : Nat) (i : Instr) (n : Nat) (hi : px_ins M pc = some (i, n)) : decode (px_cc M) pc = .ok (i, n) := by
  unfold px_okD at h
  unfold px_ins at hi
  obtain ⟨r, hr, hm⟩ := px_as2_mem (px_is M) (pc / 64) pc (i, n) hi
  rw [List.all_eq_true] at h
  have h1 := h r (List.mem_of_getElem? hr)
  rw [List.all_eq_true] at h1
  have h2 := h1 (pc, i, n) hm
  rw [decide_eq_true_eq] at h2
  exact h2
