/-! THE PURE MACHINE IS SOUND, 3: the ends of methods, calls, whole runs -/
/-- a method's start: the cells that are ours are these -/
def px_Pre (s0 : State) (D : va_G) (tc : List ClassId) (sc : Nat) (xs : List Int32) (h : List px_E) : State → Prop := fun U => px_U s0 U ∧ px_O s0 D tc sc xs h U.heap
def px_PC (s0 : State) (D : va_G) (tc : List ClassId) (sc : Nat) (xs : List Int32) (as : List Value) (h : List px_E) : Array Value → State → Prop := va_Pc (as.map (px_cv s0.heap.size sc)) (px_Pre s0 D tc sc xs h)
def px_End (s0 : State) (D : va_G) (tc : List ClassId) (sc : Nat) (xs : List Int32) (o : px_Out) (st t : State) : Prop := px_O s0 D tc sc xs o.2.1 t.heap ∧ t.heap.size = st.heap.size + o.2.2.1 ∧ ∀ q : Nat, q < s0.heap.size → t.heap[q]? = st.heap[q]?
def px_QC (s0 : State) (D : va_G) (tc : List ClassId) (sc : Nat) (xs : List Int32) (o : px_Out) : Array Value → State → Outcome → State → Prop := fun _ st oc t => ∃ v : Option Value, o.1 = .inl v ∧ oc = .returned (v.map (px_cv s0.heap.size sc)) ∧ px_End s0 D tc sc xs o st t
def px_XC (s0 : State) (D : va_G) (tc : List ClassId) (sc : Nat) (xs : List Int32) (o : px_Out) : String → State → State → Prop := fun E st t => ∃ (ci : Nat) (q : vw_C), o.1 = .inr ci ∧ px_cl[ci]? = some q ∧ E = q.1 ∧ px_isX ci = true ∧ px_End s0 D tc sc xs o st t
theorem px_blind {s0 : State} {D : va_G} {tc : List ClassId} {sc : Nat} {xs : List Int32} {as : List Value} {h : List px_E} : FrameBlind (px_PC s0 D tc sc xs as h) := fun _ _ _ _ h => h
theorem px_tk_s : ∀ (n : Nat) (acc st as rest : List Value), px_tk n acc st = some (as, rest) → ∃ bs, as = bs.reverse ++ acc ∧ st = bs ++ rest ∧ bs.length = n
  | 0, acc, st, as, rest, h => by
    unfold px_tk at h
    cases h
    exact ⟨[], rfl, rfl, rfl⟩
  | n + 1, acc, [], as, rest, h => by cases h
  | n + 1, acc, v :: r, as, rest, h => by
    unfold px_tk at h
    obtain ⟨bs, h1, h2, h3⟩ := px_tk_s n (v :: acc) r as rest h
    exact ⟨v :: bs, by rw [h1, List.reverse_cons, List.append_assoc]; rfl, by rw [h2]; rfl, by rw [List.length_cons, h3]⟩
theorem px_tk0 {n : Nat} {st as rest : List Value} (h : px_tk n [] st = some (as, rest)) : st = as.reverse ++ rest ∧ as.length = n := by
  obtain ⟨bs, h1, h2, h3⟩ := px_tk_s n [] st as rest h
  rw [List.append_nil] at h1
  rw [h1, List.reverse_reverse, List.length_reverse]
  exact ⟨h2, h3⟩
theorem px_hd_s : ∀ {hh : List (Nat × Nat × Nat × Nat)} {pc E a : Nat}, px_hd hh pc E = some a → ∃ pre f t suf, hh = pre ++ (f, t, a, E) :: suf ∧ f ≤ pc ∧ pc < t ∧ ∀ z ∈ pre, (z.1 ≤ pc ∧ pc < z.2.1) → z.2.2.2 ≠ E
  | [], _, _, _, h => by cases h
  | (f, t, a0, ci) :: r, pc, E, a, h => by
    unfold px_hd at h
    cases hb : (Nat.ble f pc && Nat.blt pc t && Nat.beq ci E) with
    | true =>
      rw [hb, cond_true] at h
      cases h
      simp only [Bool.and_eq_true] at hb
      refine ⟨[], f, t, r, ?_, px_ble hb.1.1, px_blt hb.1.2, fun z hz => nomatch hz⟩
      rw [px_beq hb.2]
      rfl
    | false =>
      rw [hb, cond_false] at h
      obtain ⟨pre, f2, t2, suf, h1, h2, h3, h4⟩ := px_hd_s h
      refine ⟨(f, t, a0, ci) :: pre, f2, t2, suf, by rw [h1]; rfl, h2, h3, fun z hz hc => ?_⟩
      rcases List.mem_cons.mp hz with rfl | hz
      · intro he
        dsimp only at hc he
        subst he
        have h5 : (Nat.ble f pc && Nat.blt pc t && Nat.beq ci ci) = true := by
          simp only [Bool.and_eq_true]
          exact ⟨⟨Nat.ble_eq_true_of_le hc.1, Nat.ble_eq_true_of_le hc.2⟩, Nat.beq_refl ci⟩
        rw [hb] at h5
        cases h5
      · exact h4 z hz hc
theorem px_isX_s {ci : Nat} (h : px_isX ci = true) : ci ∈ [11, 12, 13] := by
  unfold px_isX at h
  simp only [Bool.and_eq_true] at h
  have h1 := px_ble h.1
  have h2 := px_ble h.2
  have h3 : ci = 11 ∨ ci = 12 ∨ ci = 13 := by omega
  rcases h3 with rfl | rfl | rfl <;> decide
theorem px_hrow {M : px_M} {k : Nat} (hk : px_mt[k]? = some M) : px_Hr M := by
  obtain ⟨ps, hM⟩ := px_mt_ok hk
  unfold px_okM at hM
  simp only [Bool.and_eq_true] at hM
  obtain ⟨⟨⟨⟨⟨⟨⟨w1, -⟩, -⟩, -⟩, -⟩, -⟩, -⟩, w8⟩ := hM
  have hws := px_ats_s w1
  intro x hx
  have h2 := List.all_eq_true.mp w8 x hx
  simp only [Bool.and_eq_true, Bool.not_eq_true'] at h2
  obtain ⟨r, hr⟩ : ∃ r, px_cl[x.2.2.2]? = some r := by
    have h3 := px_isX_s h2.1
    simp only [List.mem_cons, List.not_mem_nil, or_false] at h3
    rcases h3 with h3 | h3 | h3 <;> rw [h3] <;> exact ⟨_, rfl⟩
  have hin : ∀ w ∈ ([.classLink (px_on (px_own M)) (px_xp x.2.2.2) r.1, .castable r.1 r.1] : List Cond), w ∈ px_hws M := fun w hw => by
    unfold px_hws
    refine List.mem_flatMap.mpr ⟨x, hx, ?_⟩
    rw [hr]
    exact hw
  exact ⟨r, hr, h2.1, fun h0 => by rw [h0] at h2; exact absurd h2.2 (by decide), hws _ (List.mem_append_right _ (hin _ List.mem_cons_self)), hws _ (List.mem_append_right _ (hin _ (List.mem_cons_of_mem _ List.mem_cons_self)))⟩
section PXS4
variable {p : Program} {l : Launch} {e : Env} {R : Room} {s0 s : State} {m : MethodId} {args : Array Value} {below : List Frame} {meth : Method} {c : Code} {H : Heap} {locs : List Loc} {cells slots : Nat} {Q : State → Prop} {D : va_G} {tc : List ClassId} {sc : Nat} {xs : List Int32} {M : px_M} {fr lo : Nat}
theorem px_call {mc ms pc : Nat} {ls : Array Slot} {st0 rest : List Value} {Qa : State → Outcome → State → Prop} {XC : String → State → State → Prop} {free : Addr → Prop} (hr : vx_Run p l e R s m args below meth c H locs cells slots mc ms (F0 m pc ls st0) rest Qa XC free)
    (kk : ∀ (v : Option Value) (st t : State) (L : List Loc), st.heap = H → Qa st (.returned v) t → (∀ q ∈ L, free q.base) → W p l e R s m args below meth c t.heap (locs ++ L) (cells + mc) (slots + ms) Q (F0 m (pc + 3) ls (v.toList ++ rest)))
    (kx : ∀ (E : String) (ce : Cell) (q : Addr) (st t : State) (L : List Loc), st.heap = H → XC E st t → (∀ z ∈ L, free z.base) → t.heap[q]? = some ce → ce.vm = .none → s.vm.findClass E = some ce.cls → vx_W p l e R s m args below meth c t.heap (locs ++ L) (cells + mc) (slots + ms) Q (F0 m pc ls rest) q) :
    W p l e R s m args below meth c H locs cells slots Q (F0 m pc ls st0) := by
  intro T hT X
  rcases hr T hT X with ⟨v, st₀, t, T', L, h0, X', hL, e1, e2, hq, st⟩ | ⟨q, st₀, t, T', L, E, ce, h0, X', hL, e1, e2, hx, hc, hv, hcl, st⟩
  · obtain ⟨t2, a1, b1⟩ := kk v st₀ t L h0 hq hL T' e1 X'
    exact ⟨t2, st t2 a1, b1⟩
  · obtain ⟨t2, a1, b1⟩ := kx E ce q st₀ t L h0 hx hL hc hv hcl T' e1 X'
    exact ⟨t2, st.trans a1, b1⟩
/-- the end of a method: what its answer has to be -/
def px_KE (s0 s : State) (args : Array Value) (below : List Frame) (D : va_G) (tc : List ClassId) (sc : Nat) (xs : List Int32) (Q : State → Prop) (cells slots : Nat) (z : Nat × Nat × (px_St ⊕ px_Re)) : Prop := ∀ (pcr : Nat) (res : Option Value ⊕ Nat) (hr : List px_E), z.2.2 = .inr (pcr, res, hr) → ∃ f : px_Out, Q = vx_MQ below (px_QC s0 D tc sc xs f) (px_XC s0 D tc sc xs f) args s f.2.2.1 f.2.2.2 (fun q => s0.heap.size ≤ q) ∧ f = (res, hr, cells + z.1, slots + z.2.1)
theorem px_I_end {h : List px_E} {o : px_Out} {t : State} {r : Option Value ⊕ Nat} {sl : Nat} (I : px_I s0 s D tc sc xs H locs cells h) (hge : s0.heap.size ≤ s.heap.size) (ho : o = (r, h, cells, sl)) (ht : t.heap = H) : px_End s0 D tc sc xs o s t := by
  subst ho
  refine ⟨by rw [ht]; exact I.1, by rw [ht]; exact I.2.1.symm, fun q hq => ?_⟩
  rw [ht]
  exact I.2.2.2.1 q (Nat.lt_of_lt_of_le hq hge) (Nat.not_le.mpr hq)
/-- behind a call: the world is the callee's -/
theorem px_I_call {h : List px_E} {o : px_Out} {st t : State} {L : List Loc} (I : px_I s0 s D tc sc xs H locs cells h) (hst : st.heap = H) (hE : px_End s0 D tc sc xs o st t) (hL : ∀ q ∈ L, s0.heap.size ≤ q.base) (hge : s0.heap.size ≤ s.heap.size) (hold : ∀ q : Nat, q < s.heap.size → ¬ s0.heap.size ≤ q → t.heap[q]? = s.heap[q]?) : px_I s0 s D tc sc xs t.heap (locs ++ L) (cells + o.2.2.1) o.2.1 := by
  obtain ⟨hO, hz, hF⟩ := hE
  rw [hst] at hz
  have h1 := I.2.1
  refine ⟨hO, by omega, by omega, hold, fun q hq => ?_⟩
  rcases List.mem_append.mp hq with h | h
  · exact I.2.2.2.2 q h
  · exact hL q h
theorem px_out {pc : Nat} {h : List px_E} {ls : Array Slot} {rest : List Value} {o : px_Out} {E : String} {ce : Cell} {q : Addr} {ci : Nat} {rq : vw_C} (J : px_J p l R s0 s m args meth c M fr lo) (I : px_I s0 s D tc sc xs H locs cells h) (hemp : (px_hh M).isEmpty = true) (ho : o = (.inr ci, h, cells, slots)) (hcq : px_cl[ci]? = some rq) (hE : E = rq.1) (hX : px_isX ci = true) (hcell : H[q]? = some ce) (hv : ce.vm = .none) (hcl : s.vm.findClass E = some ce.cls) :
    vx_W p l e R s m args below meth c H locs cells slots (vx_MQ below (px_QC s0 D tc sc xs o) (px_XC s0 D tc sc xs o) args s o.2.2.1 o.2.2.2 fun q => s0.heap.size ≤ q) (F0 m pc ls rest) q := by
  obtain ⟨hx, hb, hml, hown, hts, hU, hge, hst, hini, hret, hlk, htab, hdec, hfr2, hlo2⟩ := J
  refine vx_out (E := E) (fun x hx => ?_) hlk hcell hv hcl (fun t ht _ => ?_) I.2.2.2.2 (by rw [ho]; exact Nat.le_refl _) (by rw [ho]; exact Nat.le_refl _)
  · rw [htab.1] at hx
    unfold px_tb at hx
    rw [List.isEmpty_iff.mp hemp] at hx
    exact nomatch hx
  · exact ⟨ci, rq, by rw [ho], hcq, hE, hX, px_I_end I hge ho ht⟩
theorem px_back_ok {pc : Nat} {lv : px_L} {h : List px_E} {ls : Array Slot} {rest st0 : List Value} {a : Array Value} {o : px_Out} {z : Nat × Nat × (px_St ⊕ px_Re)} (Z : px_Z s0 D tc sc xs) (J : px_J p l R s0 s m args meth c M fr lo) (I : px_I s0 s D tc sc xs H locs cells h) (hl : lv_has ls (px_ml M) (lv.map (px_cq s0.heap.size sc))) (hz : px_back M pc lv rest o = some z)
    (hr : vx_Run p l e R s m args below meth c H locs cells slots o.2.2.1 o.2.2.2 (F0 m pc ls st0) (rest.map (px_cv s0.heap.size sc)) (px_QC s0 D tc sc xs o a) (px_XC s0 D tc sc xs o) fun q => s0.heap.size ≤ q)
    (kk : px_K p l e R s0 s m args below meth c cells slots Q D tc sc xs M z) (ke : px_KE s0 s args below D tc sc xs Q cells slots z) :
    W p l e R s m args below meth c H locs cells slots Q (F0 m pc ls st0) := by
  have J0 := J
  obtain ⟨hx, hb, hml, hown, hts, hU, hge, hst, hini, hret, hlk, htab, hdec, hfr2, hlo2⟩ := J
  have hold : ∀ {st t : State}, st.heap = H → (∀ q : Nat, q < s0.heap.size → t.heap[q]? = st.heap[q]?) → ∀ q : Nat, q < s.heap.size → ¬ s0.heap.size ≤ q → t.heap[q]? = s.heap[q]? := fun h0 h1 q h2 h3 => by
    rw [h1 q (Nat.not_le.mp h3), h0]
    exact I.2.2.2.1 q h2 h3
  refine px_call hr (fun v st t L h0 hq hL => ?_) (fun E ce q st t L h0 hxc hL hc hv hcl => ?_)
  · obtain ⟨w, h1, h2, hE⟩ := hq
    cases h2
    unfold px_back at hz
    rw [h1] at hz
    obtain rfl := Option.some.inj hz
    have k2 := kk _ _ _ _ t.heap (locs ++ L) ls rfl (px_I_call I h0 hE hL hge (hold h0 hE.2.2)) hl
    rw [List.map_append] at k2
    cases w with
    | none => exact k2
    | some w => exact k2
  · obtain ⟨ci, qc, h1, c1, rfl, hX, hE⟩ := hxc
    have I2 := px_I_call I h0 hE hL hge (hold h0 hE.2.2)
    unfold px_back at hz
    rw [h1] at hz
    dsimp only at hz
    unfold px_exc at hz
    have hrow := htab.2
    split at hz
    · rename_i a hh
      obtain ⟨pre, f1, t1, suf, g1, g2, g3, g4⟩ := px_hd_s hh
      obtain ⟨i5, hi5, hz1⟩ := px_wt_s hz
      obtain ⟨y5, hy5, hz2⟩ := px_wt_s hz1
      obtain ⟨hlt, hz3⟩ := px_ck_s hz2
      obtain rfl := Option.some.inj hz3
      have hmem : (f1, t1, a, ci) ∈ px_hh M := by rw [g1]; exact List.mem_append_right _ List.mem_cons_self
      obtain ⟨r1, r2, r3, r4, r5, r6⟩ := hrow _ hmem
      cases Option.some.inj (c1.symm.trans r2)
      have htb : c.exceptionTable.toList = pre.map (fun x => (⟨x.1, x.2.1, x.2.2.1, px_xp x.2.2.2⟩ : ExceptionTableEntry)) ++ ⟨f1, t1, a, px_xp ci⟩ :: suf.map (fun x => (⟨x.1, x.2.1, x.2.2.1, px_xp x.2.2.2⟩ : ExceptionTableEntry)) := by
        rw [htab.1]
        unfold tableOf px_tb
        rw [g1, List.map_map, List.map_append, List.map_cons]
        rfl
      refine vx_catch hown _ _ _ htb (fun x hx => ?_) (by show (decide _ && decide _) = true; rw [decide_eq_true g2, decide_eq_true g3]; rfl) r4 (hts _ (px_good_in r5 rfl)) (px_nest_use Z hU.1 r6 rfl) hc hv hcl ?_
      · obtain ⟨x0, hx0, rfl⟩ := List.mem_map.mp hx
        by_cases hcov : x0.1 ≤ pc ∧ pc < x0.2.1
        · have hne := g4 x0 hx0 hcov
          obtain ⟨v1, v2, v3, v4, v5, v6⟩ := hrow x0 (by rw [g1]; exact List.mem_append_left _ hx0)
          exact Or.inr ⟨v4, v1.1, hts _ (px_good_in v5 rfl), va_Nc.moved hU.1.alike (Z.2.2.2.2.2.2.2.1 ci (px_isX_s hX) x0.2.2.2 (px_isX_s v3) (fun h => hne h.symm) _ _ c1 v2)⟩
        · refine Or.inl ?_
          show (decide _ && decide _) = false
          by_cases h9 : x0.1 ≤ pc
          · rw [decide_eq_true h9, decide_eq_false (fun h8 => hcov ⟨h9, h8⟩)]; rfl
          · rw [decide_eq_false h9]; rfl
      · have hd5 := hdec _ _ _ hi5
        have hdrop : ∀ (ls1 : Array Slot) (v : Nat × Value) (L1 : List (Nat × Value)), lv_has ls1 (px_ml M) (v :: L1) → lv_has ls1 (px_ml M) L1 := fun ls1 v L1 h => ⟨h.1, h.2.1, fun q hq => h.2.2 q (List.mem_cons_of_mem _ hq)⟩
        have hmapk : ∀ i : Nat, (lv.map (px_cq s0.heap.size sc)).filter (fun q => !(q.1 == i) && !(q.1 + 1 == i && q.2.category == 2)) = (lv.filter (px_k1 i)).map (px_cq s0.heap.size sc) := fun i => by
          have h9 := px_s1_map s0.heap.size sc lv i .null .null rfl
          unfold px_s1 at h9
          rw [List.map_cons] at h9
          exact (List.cons.inj h9).2
        obtain ⟨i6, n6⟩ := i5
        unfold px_asx at hy5
        split at hy5
        · rename_i k6 hk6
          obtain ⟨h6, h7⟩ := px_ck_s hy5
          cases h7
          dsimp only at hk6 h6
          subst hk6
          cases px_beq h6
          refine lv_astore_n hx hb hd5 rfl hl (px_blt hlt) rfl fun ls1 hl1 => ?_
          have hl2 := hdrop _ _ _ hl1
          rw [hmapk] at hl2
          exact kk _ _ _ _ _ _ ls1 rfl I2 hl2
        · rename_i k6 hk6
          obtain ⟨h6, h7⟩ := px_ck_s hy5
          cases h7
          dsimp only at hk6 h6
          subst hk6
          cases px_beq h6
          refine lv_astore hx hb hd5 hl (px_blt hlt) rfl fun ls1 hl1 => ?_
          have hl2 := hdrop _ _ _ hl1
          rw [hmapk] at hl2
          exact kk _ _ _ _ _ _ ls1 rfl I2 hl2
        · cases hy5
    · obtain ⟨hemp, hz1⟩ := px_ck_s hz
      obtain rfl := Option.some.inj hz1
      obtain ⟨f, rfl, hf⟩ := ke _ _ _ rfl
      subst hf
      exact px_out J0 I2 hemp rfl c1 rfl hX hc hv hcl
theorem px_back_cost {pc : Nat} {lv : px_L} {rest : List Value} {o : px_Out} {z : Nat × Nat × (px_St ⊕ px_Re)} (hz : px_back M pc lv rest o = some z) : z.1 = o.2.2.1 ∧ z.2.1 = o.2.2.2 := by
  unfold px_back at hz
  split at hz
  · obtain rfl := Option.some.inj hz
    exact ⟨rfl, rfl⟩
  · unfold px_exc at hz
    split at hz
    · obtain ⟨i5, hi5, hz1⟩ := px_wt_s hz
      obtain ⟨y5, hy5, hz2⟩ := px_wt_s hz1
      obtain ⟨hlt, hz3⟩ := px_ck_s hz2
      obtain rfl := Option.some.inj hz3
      exact ⟨rfl, rfl⟩
    · obtain ⟨hlt, hz3⟩ := px_ck_s hz
      obtain rfl := Option.some.inj hz3
      exact ⟨rfl, rfl⟩
theorem px_cw_s {fr lo : Nat} {N : px_M} {rest : List Value} {k : Nat → Nat → px_Nx} {z : Nat × Nat × (px_St ⊕ px_Re)} (h : px_cw fr lo N rest k = some z) : ∃ f', fr = f' + 1 ∧ px_cat rest ≤ 8 ∧ px_ml N + 19 ≤ lo ∧ k f' (lo - (px_ml N + 19)) = some z := by
  unfold px_cw at h
  split at h
  · cases h
  · rename_i f'
    obtain ⟨h1, h2⟩ := px_ck_s h
    obtain ⟨h3, h4⟩ := px_ck_s h2
    exact ⟨f', rfl, px_ble h1, px_ble h3, h4⟩
/-- the calls' words -/
theorem px_okL0 {o i t : Nat} (h : px_okL o (i, (0, t)) = true) : Cond.methodLink (px_on o) i objectInit ∈ lw_tbl ∧ Cond.instanceMethod objectInit ∈ lw_tbl ∧ Cond.code objectInit ⟨#[0xb1]⟩ 1 none ∈ lw_tbl := by
  unfold px_okL at h
  split at h
  · have hw := px_ats_s h
    exact ⟨hw _ List.mem_cons_self, hw _ (List.mem_cons_of_mem _ List.mem_cons_self), hw _ (List.mem_cons_of_mem _ (List.mem_cons_of_mem _ List.mem_cons_self))⟩
  · cases h
theorem px_okL7 {o i t : Nat} (h : px_okL o (i, (7, t)) = true) : Cond.methodLink (px_on o) i arraycopyName ∈ lw_tbl ∧ Cond.native arraycopyName ∈ lw_tbl ∧ Cond.static arraycopyName ∈ lw_tbl ∧ Cond.initialized "java/lang/System" ∈ lw_tbl := by
  unfold px_okL at h
  split at h
  · have hw := px_ats_s h
    exact ⟨hw _ List.mem_cons_self, hw _ (List.mem_cons_of_mem _ List.mem_cons_self), hw _ (List.mem_cons_of_mem _ (List.mem_cons_of_mem _ List.mem_cons_self)), hw _ (List.mem_cons_of_mem _ (List.mem_cons_of_mem _ (List.mem_cons_of_mem _ List.mem_cons_self)))⟩
  · cases h
theorem px_okL1 {o i t : Nat} {N : px_M} (h : px_okL o (i, (1, t)) = true) (hN : px_mt[t]? = some N) : Cond.methodLink (px_on o) i (px_y N) ∈ lw_tbl ∧ Cond.instanceMethod (px_y N) ∈ lw_tbl ∧ Cond.selects (px_y N).cls (px_y N) (px_y N) ∈ lw_tbl ∧ (px_hh N).isEmpty = true := by
  unfold px_okL at h
  split at h
  · rename_i ps _
    dsimp only at h
    rw [hN] at h
    replace h : (px_ats ps [.methodLink (px_on o) i (px_y N), .instanceMethod (px_y N), .selects (px_y N).cls (px_y N) (px_y N)] && (px_hh N).isEmpty) = true := h
    rw [Bool.and_eq_true] at h
    have hw := px_ats_s h.1
    exact ⟨hw _ List.mem_cons_self, hw _ (List.mem_cons_of_mem _ List.mem_cons_self), hw _ (List.mem_cons_of_mem _ (List.mem_cons_of_mem _ List.mem_cons_self)), h.2⟩
  · cases h
theorem px_okL3 {o i t : Nat} {N : px_M} (h : px_okL o (i, (3, t)) = true) (hN : px_mt[t]? = some N) : Cond.methodLink (px_on o) i (px_y N) ∈ lw_tbl ∧ Cond.static (px_y N) ∈ lw_tbl ∧ (px_hh N).isEmpty = true := by
  unfold px_okL at h
  split at h
  · rename_i ps _
    dsimp only at h
    rw [hN] at h
    replace h : (px_ats ps [.methodLink (px_on o) i (px_y N), .static (px_y N)] && (px_hh N).isEmpty) = true := h
    rw [Bool.and_eq_true] at h
    have hw := px_ats_s h.1
    exact ⟨hw _ List.mem_cons_self, hw _ (List.mem_cons_of_mem _ List.mem_cons_self), h.2⟩
  · cases h
theorem px_okL4 {o i t : Nat} {N : px_M} (h : px_okL o (i, (4, t)) = true) (hN : px_mt[t]? = some N) : Cond.methodLink (px_on o) i (px_y N) ∈ lw_tbl ∧ Cond.static (px_y N) ∈ lw_tbl ∧ (px_hh N).isEmpty = false := by
  unfold px_okL at h
  split at h
  · rename_i ps _
    dsimp only at h
    rw [hN] at h
    replace h : (px_ats ps [.methodLink (px_on o) i (px_y N), .static (px_y N)] && !(px_hh N).isEmpty) = true := h
    rw [Bool.and_eq_true, Bool.not_eq_true'] at h
    have hw := px_ats_s h.1
    exact ⟨hw _ List.mem_cons_self, hw _ (List.mem_cons_of_mem _ List.mem_cons_self), h.2⟩
  · cases h
theorem px_okL5 {o i t : Nat} {N : px_M} (h : px_okL o (i, (5, t)) = true) (hN : px_mt[t]? = some N) : Cond.methodLink (px_on o) i (px_y N) ∈ lw_tbl ∧ Cond.instanceMethod (px_y N) ∈ lw_tbl ∧ px_ini N = true := by
  unfold px_okL at h
  split at h
  · rename_i ps _
    dsimp only at h
    rw [hN] at h
    replace h : (px_ats ps [.methodLink (px_on o) i (px_y N), .instanceMethod (px_y N)] && px_ini N) = true := h
    rw [Bool.and_eq_true] at h
    have hw := px_ats_s h.1
    exact ⟨hw _ List.mem_cons_self, hw _ (List.mem_cons_of_mem _ List.mem_cons_self), h.2⟩
  · cases h
theorem px_okL6 {o i t : Nat} {N : px_M} (h : px_okL o (i, (6, t)) = true) (hN : px_mt[t]? = some N) : Cond.methodLinkNest (px_on o) i (px_y N) (px_host (px_own N)) ∈ lw_tbl ∧ Cond.instanceMethod (px_y N) ∈ lw_tbl ∧ px_ini N = true := by
  unfold px_okL at h
  split at h
  · rename_i ps _
    dsimp only at h
    rw [hN] at h
    replace h : (px_ats ps [.methodLinkNest (px_on o) i (px_y N) (px_host (px_own N)), .instanceMethod (px_y N)] && px_ini N) = true := h
    rw [Bool.and_eq_true] at h
    have hw := px_ats_s h.1
    exact ⟨hw _ List.mem_cons_self, hw _ (List.mem_cons_of_mem _ List.mem_cons_self), h.2⟩
  · cases h
/-- a method's own words -/
theorem px_okM_s {k : Nat} {N : px_M} (h : px_mt[k]? = some N) : px_cwd N ∈ px_gw ∧ Cond.initialized (px_y N).cls ∈ px_gw ∧ plainName (px_y N).cls = true ∧ (px_y N).cls ≠ "java/lang/invoke/MethodHandle" ∧ (px_y N).cls ≠ "java/lang/invoke/VarHandle" ∧ (parseMethodDescriptor (px_y N).desc).map (fun d => d.parameters.length) = some (px_na N) ∧ (px_y N).cls = px_on (px_own N) ∧ (px_ini N = true → (px_y N).name = "<init>" ∧ px_rt N = none ∧ (px_hh N).isEmpty = true) := by
  obtain ⟨ps, hM⟩ := px_mt_ok h
  unfold px_okM at hM
  simp only [Bool.and_eq_true, decide_eq_true_eq, Bool.or_eq_true, Bool.not_eq_true'] at hM
  obtain ⟨⟨⟨⟨⟨⟨⟨w1, w2⟩, w3⟩, w4⟩, w5⟩, w6⟩, w7⟩, -⟩ := hM
  have hws := px_ats_s w1
  have hg : goodWord (px_cwd N) = true := by
    unfold px_cwd
    cases (px_hh N).isEmpty <;> rfl
  exact ⟨px_good_in (hws _ List.mem_cons_self) hg, px_good_in (hws _ (List.mem_cons_of_mem _ List.mem_cons_self)) rfl, w2, w3, w4, w5, w6, fun hi => w7.elim (fun h => by rw [hi] at h; cases h) fun h => ⟨h.1.1, h.1.2, h.2⟩⟩
theorem px_cwd0 {N : px_M} (h : (px_hh N).isEmpty = true) : px_cwd N = .code (px_y N) (px_cc N) (px_ml N) (px_rt N) := by
  unfold px_cwd
  rw [h]
  rfl
theorem px_cwd1 {N : px_M} (h : (px_hh N).isEmpty = false) : px_cwd N = .codeWith (px_y N) (px_cc N) (px_ml N) (px_rt N) (px_tb N) := by
  unfold px_cwd
  rw [h]
  rfl
/-- System.arraycopy of ints -/
theorem px_we_c {b sc : Nat} {tc : List ClassId} {t sp dp n : Nat} {l g : List Int32} (h1 : sp + n ≤ l.length) (h2 : dp + n ≤ g.length) : px_we b sc tc (.inl (t, .inl (g.take dp ++ ((l.drop sp).take n) ++ g.drop (dp + n)))) = .inl (tc.getD t 0, g.length, .inl (va_cpy (fun j => l.getD j 0) (fun j => g.getD j 0) sp dp n)) := by
  have hlen : (g.take dp ++ ((l.drop sp).take n) ++ g.drop (dp + n)).length = g.length := by
    simp only [List.length_append, List.length_take, List.length_drop]
    omega
  show (Sum.inl (tc.getD t 0, _, .inl fun j => _) : va_E) = _
  rw [hlen]
  refine congrArg (fun f : Nat → Int32 => (Sum.inl (tc.getD t 0, g.length, .inl f) : va_E)) (funext fun j => ?_)
  unfold va_cpy
  simp only [List.getD_eq_getElem?_getD]
  by_cases hj1 : j < dp
  · rw [if_neg (by omega), List.append_assoc, List.getElem?_append_left (by simp only [List.length_take]; omega), List.getElem?_take, if_pos hj1]
  · by_cases hj2 : j < dp + n
    · rw [if_pos (by omega), List.append_assoc, List.getElem?_append_right (by simp only [List.length_take]; omega), List.getElem?_append_left (by simp only [List.length_take, List.length_drop]; omega), List.getElem?_take, List.length_take, if_pos (by omega), List.getElem?_drop]
      rw [show min dp g.length = dp by omega]
    · rw [if_neg (by omega), List.getElem?_append_right (by simp only [List.length_append, List.length_take, List.length_drop]; omega), List.getElem?_drop]
      simp only [List.length_append, List.length_take, List.length_drop]
      rw [show dp + n + (j - (min dp g.length + min n (l.length - sp))) = j by omega]
theorem px_we_cl {b sc : Nat} {tc : List ClassId} {t sp dp n : Nat} {l g : List Int64} (h1 : sp + n ≤ l.length) (h2 : dp + n ≤ g.length) : px_we b sc tc (.inl (t, .inr (.inl (g.take dp ++ ((l.drop sp).take n) ++ g.drop (dp + n))))) = .inl (tc.getD t 0, g.length, .inr (.inl (va_cpy (fun j => l.getD j 0) (fun j => g.getD j 0) sp dp n))) := by
  have hlen : (g.take dp ++ ((l.drop sp).take n) ++ g.drop (dp + n)).length = g.length := by
    simp only [List.length_append, List.length_take, List.length_drop]
    omega
  show (Sum.inl (tc.getD t 0, _, .inr (.inl fun j => _)) : va_E) = _
  rw [hlen]
  refine congrArg (fun f : Nat → Int64 => (Sum.inl (tc.getD t 0, g.length, .inr (.inl f)) : va_E)) (funext fun j => ?_)
  unfold va_cpy
  simp only [List.getD_eq_getElem?_getD]
  by_cases hj1 : j < dp
  · rw [if_neg (by omega), List.append_assoc, List.getElem?_append_left (by simp only [List.length_take]; omega), List.getElem?_take, if_pos hj1]
  · by_cases hj2 : j < dp + n
    · rw [if_pos (by omega), List.append_assoc, List.getElem?_append_right (by simp only [List.length_take]; omega), List.getElem?_append_left (by simp only [List.length_take, List.length_drop]; omega), List.getElem?_take, List.length_take, if_pos (by omega), List.getElem?_drop]
      rw [show min dp g.length = dp by omega]
    · rw [if_neg (by omega), List.getElem?_append_right (by simp only [List.length_append, List.length_take, List.length_drop]; omega), List.getElem?_drop]
      simp only [List.length_append, List.length_take, List.length_drop]
      rw [show dp + n + (j - (min dp g.length + min n (l.length - sp))) = j by omega]
theorem px_cl_on {ci : Nat} {r : vw_C} (h : px_cl[ci]? = some r) : r.1 = px_on ci := by
  have h0 : (List.range 14).all (fun k => match px_cl[k]? with | some q => decide (q.1 = px_on k) | none => false) = true := by decide +kernel
  have hlt : ci < 14 := (List.getElem?_eq_some_iff.mp h).1
  have h1 := List.all_eq_true.mp h0 ci (List.mem_range.mpr hlt)
  rw [h] at h1
  exact of_decide_eq_true h1
def px_Ex (l : Launch) (s0 : State) (D : va_G) (tc : List ClassId) (sc : Nat) (xs : List Int32) (ex : px_M → List Value → List px_E → Nat → Nat → Option px_Out) : Prop := ∀ (N : px_M) (as : List Value) (h : List px_E) (f lo : Nat) (o : px_Out) (k : Nat), px_mt[k]? = some N → ex N as h f lo = some o →
  vx_Met l (px_y N) (px_cwd N :: px_gw) { frames := f, cells := o.2.2.1, slots := o.2.2.2, locals := lo } (px_PC s0 D tc sc xs as h) (px_QC s0 D tc sc xs o) (px_XC s0 D tc sc xs o) o.2.2.1 o.2.2.2 fun q => s0.heap.size ≤ q
theorem px_pre {h : List px_E} {as : List Value} (I : px_I s0 s D tc sc xs H locs cells h) (hU : px_U s0 s) (hge : s0.heap.size ≤ s.heap.size) : ∀ U : State, U.heap = H → s.WarmedH U.vm → px_PC s0 D tc sc xs as h (as.map (px_cv s0.heap.size sc)).toArray U := fun U hH hW =>
  ⟨rfl, ⟨State.WarmedH.trans hU.1 hW, fun q hq => by rw [hH, I.2.2.2.1 q (Nat.lt_of_lt_of_le hq hge) (Nat.not_le.mpr hq)]; exact hU.2 q hq⟩, by rw [hH]; exact I.1⟩
theorem px_g4_ok {len pc : Nat} {ins : Instr} {lv : px_L} {st : List Value} {h : List px_E} {ls : Array Slot} {z : Nat × Nat × (px_St ⊕ px_Re)} {ex : px_M → List Value → List px_E → Nat → Nat → Option px_Out} (Z : px_Z s0 D tc sc xs) (J : px_J p l R s0 s m args meth c M fr lo) (I : px_I s0 s D tc sc xs H locs cells h) (hd : decode (px_cc M) pc = .ok (ins, len)) (hg : px_g4 M fr lo ex ins len pc lv st h = some z) (hl : lv_has ls (px_ml M) (lv.map (px_cq s0.heap.size sc)))
    (hex : px_Ex l s0 D tc sc xs ex) (hR : cells + z.1 ≤ R.cells ∧ slots + z.2.1 ≤ R.slots)
    (kk : px_K p l e R s0 s m args below meth c cells slots Q D tc sc xs M z) (ke : px_KE s0 s args below D tc sc xs Q cells slots z) :
    W p l e R s m args below meth c H locs cells slots Q (F0 m pc ls (st.map (px_cv s0.heap.size sc))) := by
  have J0 := J
  obtain ⟨hx, hb, hml, hown, hts, hU, hge, hst, hini, hret, hlk, htab, hdec, hfr2, hlo2⟩ := J
  have hK : va_K D px_cl (tc.zip px_tys) s := Z.2.1.moved hU.1.alike
  have S : CallFix p m c (px_cc M) (px_ml M) s args px_gw (px_on (px_own M)) := ⟨hx, hb, hml, hown, hts⟩
  cases ins with
  | ireturn =>
    obtain ⟨hlen, hg1⟩ := px_ck_s hg
    cases px_beq hlen
    obtain ⟨x, r, rfl, hg2⟩ := px_pi_s hg1
    obtain ⟨hem, hg3⟩ := px_ck_s hg2
    obtain ⟨ty, hty, hg4⟩ := px_wt_s hg3
    obtain ⟨hfi, hg5⟩ := px_ck_s hg4
    obtain rfl := Option.some.inj hg5
    cases List.isEmpty_iff.mp hem
    obtain ⟨f, rfl, hf⟩ := ke _ _ _ rfl
    have hf1 : f.2.2.1 = cells := by rw [hf]; rfl
    have hf2 : f.2.2.2 = slots := by rw [hf]; rfl
    rw [hf1, hf2]
    exact vx_ret (W.zret hx hb (hret.trans hty) (px_fi_s (b := s0.heap.size) (sc := sc) hfi).1 (fun t ht _ => ⟨some (.int x), by rw [hf], rfl, px_I_end I hge hf ht⟩) I.2.2.2.2 hd)
  | lreturn =>
    obtain ⟨hlen, hg1⟩ := px_ck_s hg
    cases px_beq hlen
    obtain ⟨x, r, rfl, hg2⟩ := px_pl_s hg1
    obtain ⟨hem, hg3⟩ := px_ck_s hg2
    obtain ⟨hty, hg4⟩ := px_ck_s hg3
    obtain rfl := Option.some.inj hg4
    cases List.isEmpty_iff.mp hem
    obtain ⟨f, rfl, hf⟩ := ke _ _ _ rfl
    have hf1 : f.2.2.1 = cells := by rw [hf]; rfl
    have hf2 : f.2.2.2 = slots := by rw [hf]; rfl
    rw [hf1, hf2]
    exact vx_ret (W.lret hx hb (hret.trans (of_decide_eq_true hty)) (fun t ht _ => ⟨some (.long x), by rw [hf], rfl, px_I_end I hge hf ht⟩) I.2.2.2.2 hd)
  | dreturn =>
    obtain ⟨hlen, hg1⟩ := px_ck_s hg
    cases px_beq hlen
    obtain ⟨x, r, rfl, hg2⟩ := px_pd_s hg1
    obtain ⟨hem, hg3⟩ := px_ck_s hg2
    obtain ⟨hty, hg4⟩ := px_ck_s hg3
    obtain rfl := Option.some.inj hg4
    cases List.isEmpty_iff.mp hem
    obtain ⟨f, rfl, hf⟩ := ke _ _ _ rfl
    have hf1 : f.2.2.1 = cells := by rw [hf]; rfl
    have hf2 : f.2.2.2 = slots := by rw [hf]; rfl
    rw [hf1, hf2]
    exact vx_ret (W.dret hx hb (hret.trans (of_decide_eq_true hty)) (fun t ht _ => ⟨some (.double x), by rw [hf], rfl, px_I_end I hge hf ht⟩) I.2.2.2.2 hd)
  | areturn =>
    obtain ⟨hlen, hg1⟩ := px_ck_s hg
    cases px_beq hlen
    obtain ⟨x, r, rfl, hg2⟩ := px_pr_s hg1
    obtain ⟨hem, hg3⟩ := px_ck_s hg2
    obtain ⟨ty, hty, hg4⟩ := px_wt_s hg3
    obtain ⟨hfi, hg5⟩ := px_ck_s hg4
    obtain rfl := Option.some.inj hg5
    cases List.isEmpty_iff.mp hem
    obtain ⟨f, rfl, hf⟩ := ke _ _ _ rfl
    have hf1 : f.2.2.1 = cells := by rw [hf]; rfl
    have hf2 : f.2.2.2 = slots := by rw [hf]; rfl
    rw [hf1, hf2]
    refine vx_ret (W.aret hx hb (hret.trans hty) ?_ (Or.inr ⟨_, rfl⟩) (fun t ht _ => ⟨some (.ref x), by rw [hf], rfl, px_I_end I hge hf ht⟩) I.2.2.2.2 hd)
    cases ty with
    | object n => exact Or.inl ⟨n, rfl⟩
    | array n => exact Or.inr ⟨n, rfl⟩
    | _ => cases hfi
  | return_ =>
    obtain ⟨hlen, hg1⟩ := px_ck_s hg
    cases px_beq hlen
    obtain ⟨hem, hg2⟩ := px_ck_s hg1
    obtain ⟨hty, hg3⟩ := px_ck_s hg2
    obtain rfl := Option.some.inj hg3
    cases List.isEmpty_iff.mp hem
    obtain ⟨f, rfl, hf⟩ := ke _ _ _ rfl
    have hf1 : f.2.2.1 = cells := by rw [hf]; rfl
    have hf2 : f.2.2.2 = slots := by rw [hf]; rfl
    rw [hf1, hf2]
    exact vx_ret (W.vret hx hb (hret.trans (of_decide_eq_true hty)) (fun t ht _ => ⟨none, by rw [hf], rfl, px_I_end I hge hf ht⟩) I.2.2.2.2 hd)
  | athrow =>
    obtain ⟨hlen, hg1⟩ := px_ck_s hg
    cases px_beq hlen
    obtain ⟨a, r, rfl, hg2⟩ := px_pr_s hg1
    obtain ⟨ci, fs, ha, hg3⟩ := px_ob_s hg2
    obtain ⟨hX, hg4⟩ := px_ck_s hg3
    obtain ⟨hem, hg5⟩ := px_ck_s hg4
    obtain rfl := Option.some.inj hg5
    obtain ⟨f, rfl, hf⟩ := ke _ _ _ rfl
    obtain ⟨rq, hcq, cell, e1, e2, e3, -⟩ := I.1.1 _ _ (px_wd_get ha)
    have hcl : s.vm.findClass rq.1 = some cell.cls := by
      rw [e2]
      exact (hK.1 ci rq hcq).2.1
    exact vx_athrow hx hb hd (px_out J0 I hem hf hcq rfl hX e1 e3 hcl)
  | invokevirtual idx =>
    obtain ⟨hlen, hg1⟩ := px_ck_s hg
    cases px_beq hlen
    obtain ⟨q, hq, hg2⟩ := px_wt_s hg1
    obtain ⟨h1, hg3⟩ := px_ck_s hg2
    obtain ⟨N, hN, hg4⟩ := px_wt_s hg3
    obtain ⟨z0, hz0, hg5⟩ := px_wt_s hg4
    obtain ⟨b0, rest, hz1, hg6⟩ := px_pr_s hg5
    obtain ⟨ci, fs, ha, hg7⟩ := px_ob_s hg6
    obtain ⟨hci, hg8⟩ := px_ck_s hg7
    obtain ⟨f', rfl, hcat, hloc, hg9⟩ := px_cw_s hg8
    obtain ⟨o, ho, hback⟩ := px_wt_s hg9
    obtain ⟨q1, q2⟩ := q
    cases px_beq h1
    cases px_beq hci
    have hT := px_tk0 hz0
    rw [hz1] at hT
    obtain ⟨u1, u2, u3, u4⟩ := px_okL1 (px_tab px_mi_ok hq) hN
    obtain ⟨v1, v2, v3, v4, v5, v6, v7, v8⟩ := px_okM_s hN
    have hc := px_back_cost hback
    rw [hc.1, hc.2] at hR
    have hcwd := px_cwd0 u4
    have hMet := hex N _ h _ _ o _ hN ho
    obtain ⟨rq, hcq, -⟩ := I.1.1 _ _ (px_wd_get ha)
    have hcn : rq.1 = (px_y N).cls := (px_cl_on hcq).trans v7.symm
    refine px_back_ok Z J0 I hl hback (vx_runV (As := z0.1.map (px_cv s0.heap.size sc)) (n := px_na N) S hMet (cwV (px_na N) hts (px_gw_good fun w hw => ?_) (by rw [hcwd]) rfl rfl ⟨rfl, v4, v5, v6⟩ ⟨hfr2, by show 8 + (px_ml N + 11) + (lo - (px_ml N + 19)) ≤ R.locals; omega⟩) ⟨px_blind, (by rw [← hcn]; exact va_recv hK I.1.1 hcq (px_wd_get ha)), px_pre I hU hge⟩ rfl (by rw [List.length_map]; exact hT.2) hl.1 ?_ ?_ hd hR) kk ke
    · rcases List.mem_append.mp hw with hw | hw
      · simp only [List.mem_cons, List.not_mem_nil, or_false] at hw
        rcases hw with rfl | rfl | rfl | rfl
        · exact px_good_in u1 rfl
        · exact px_good_in u2 rfl
        · exact px_good_in u3 rfl
        · exact v2
      · rcases List.mem_cons.mp hw with rfl | hw
        · exact v1
        · exact hw
    · show st.map (px_cv s0.heap.size sc) = (z0.1.map (px_cv s0.heap.size sc)).reverse ++ .ref (s0.heap.size + b0) :: rest.map (px_cv s0.heap.size sc)
      rw [hT.1, List.map_append, List.map_reverse]
      rfl
    · show 2 * 0 + _ ≤ 8
      rw [px_cat_map]
      omega
  | invokespecial idx =>
    obtain ⟨hlen, hg1⟩ := px_ck_s hg
    cases px_beq hlen
    obtain ⟨q, hq, hg2⟩ := px_wt_s hg1
    cases h0 : Nat.beq q.1 0 with
    | true =>
      rw [h0, cond_true] at hg2
      obtain ⟨a, r, rfl, hg3⟩ := px_pr_s hg2
      obtain ⟨hf0, hg4⟩ := px_ck_s hg3
      obtain ⟨hl0, hg5⟩ := px_ck_s hg4
      obtain rfl := Option.some.inj hg5
      obtain ⟨q1, q2⟩ := q
      cases px_beq h0
      obtain ⟨u1, u2, u3⟩ := px_okL0 (px_tab px_mi_ok hq)
      have hf1 := px_blt hf0
      have hl1 := px_ble hl0
      exact W.objInit hx hb hown (hts _ (px_good_in u1 rfl)) (hts _ (px_good_in u2 rfl)) (hts _ (px_good_in u3 rfl)) rfl (hl.1.trans hml.symm) rfl hd (by omega) (by show 2 * 0 + _ + 12 ≤ _; rw [px_cat_map]; omega) (kk _ _ _ _ H locs ls rfl I hl)
    | false =>
      rw [h0, cond_false] at hg2
      cases h5 : (Nat.beq q.1 5 || Nat.beq q.1 6) with
      | false => rw [h5, cond_false] at hg2; cases hg2
      | true =>
        rw [h5, cond_true] at hg2
        obtain ⟨N, hN, hg4⟩ := px_wt_s hg2
        obtain ⟨z0, hz0, hg5⟩ := px_wt_s hg4
        obtain ⟨b0, rest, hz1, hg6⟩ := px_pr_s hg5
        obtain ⟨hni, hg8⟩ := px_ck_s hg6
        obtain ⟨f', rfl, hcat, hloc, hg9⟩ := px_cw_s hg8
        obtain ⟨o, ho, hback⟩ := px_wt_s hg9
        obtain ⟨q1, q2⟩ := q
        have hT := px_tk0 hz0
        rw [hz1] at hT
        obtain ⟨v1, v2, v3, v4, v5, v6, v7, v8⟩ := px_okM_s hN
        obtain ⟨y1, y2, y3⟩ := v8 hni
        have hc := px_back_cost hback
        rw [hc.1, hc.2] at hR
        have hcwd := px_cwd0 y3
        rw [y2] at hcwd
        have hMet := hex N _ h _ _ o _ hN ho
        have hstk : st.map (px_cv s0.heap.size sc) = (z0.1.map (px_cv s0.heap.size sc)).reverse ++ .ref (s0.heap.size + b0) :: rest.map (px_cv s0.heap.size sc) := by
          rw [hT.1, List.map_append, List.map_reverse]
          rfl
        have hws : ∀ w ∈ px_cwd N :: px_gw, w ∈ px_gw := fun w hw => by
          rcases List.mem_cons.mp hw with rfl | hw
          · exact v1
          · exact hw
        have hroom : f' + 1 ≤ R.frames ∧ 8 + (px_ml N + 11) + (lo - (px_ml N + 19)) ≤ R.locals := ⟨hfr2, by omega⟩
        have hcat2 : 2 * (F0 m pc ls (st.map (px_cv s0.heap.size sc))).monitorRoom + ((rest.map (px_cv s0.heap.size sc)).map fun v => v.category).sum ≤ 8 := by
          show 2 * 0 + _ ≤ 8
          rw [px_cat_map]
          omega
        rw [Bool.or_eq_true] at h5
        rcases h5 with h5 | h5
        · cases px_beq h5
          obtain ⟨u1, u2, u3⟩ := px_okL5 (px_tab px_mi_ok hq) hN
          exact px_back_ok Z J0 I hl hback (vx_runI (As := z0.1.map (px_cv s0.heap.size sc)) (n := px_na N) S hMet (cwI (px_na N) hts (px_gw_good hws) (by rw [hcwd]) rfl rfl (hts _ v2) (hts _ (px_good_in u1 rfl)) (hts _ (px_good_in u2 rfl)) y1 ⟨v4, v5, v6⟩ hroom) ⟨px_blind, px_pre I hU hge⟩ rfl (by rw [List.length_map]; exact hT.2) hl.1 hstk hcat2 hd hR) kk ke
        · cases px_beq h5
          obtain ⟨u1, u2, u3⟩ := px_okL6 (px_tab px_mi_ok hq) hN
          exact px_back_ok Z J0 I hl hback (vx_runIN (As := z0.1.map (px_cv s0.heap.size sc)) (n := px_na N) S hMet ⟨va_cnB (px_na N) hts (px_gw_good hws) (by rw [hcwd]) rfl rfl (va_Nw.of rfl (px_nest_use Z hU.1 u1 rfl (args := #[]))) (hts _ v2) ⟨v4, v5, v6⟩ hroom, y1, hts _ (px_good_in u2 rfl)⟩ ⟨px_blind, px_pre I hU hge⟩ rfl (by rw [List.length_map]; exact hT.2) hl.1 hstk hcat2 hd hR) kk ke
  | invokestatic idx =>
    obtain ⟨hlen, hg1⟩ := px_ck_s hg
    cases px_beq hlen
    obtain ⟨q, hq, hg2⟩ := px_wt_s hg1
    cases h5 : (Nat.beq q.1 3 || Nat.beq q.1 4) with
    | true =>
      rw [h5, cond_true] at hg2
      obtain ⟨N, hN, hg4⟩ := px_wt_s hg2
      obtain ⟨z0, hz0, hg5⟩ := px_wt_s hg4
      obtain ⟨f', rfl, hcat, hloc, hg9⟩ := px_cw_s hg5
      obtain ⟨o, ho, hback⟩ := px_wt_s hg9
      obtain ⟨q1, q2⟩ := q
      have hT := px_tk0 hz0
      obtain ⟨v1, v2, v3, v4, v5, v6, v7, v8⟩ := px_okM_s hN
      have hc := px_back_cost hback
      rw [hc.1, hc.2] at hR
      have hMet := hex N _ h _ _ o _ hN ho
      have hstk : st.map (px_cv s0.heap.size sc) = (z0.1.map (px_cv s0.heap.size sc)).reverse ++ z0.2.map (px_cv s0.heap.size sc) := by
        rw [hT.1, List.map_append, List.map_reverse]
      have hroom : f' + 1 ≤ R.frames ∧ 8 + (px_ml N + 11) + (lo - (px_ml N + 19)) ≤ R.locals := ⟨hfr2, by omega⟩
      have hcat2 : 2 * (F0 m pc ls (st.map (px_cv s0.heap.size sc))).monitorRoom + ((z0.2.map (px_cv s0.heap.size sc)).map fun v => v.category).sum ≤ 8 := by
        show 2 * 0 + _ ≤ 8
        rw [px_cat_map]
        omega
      have hws : Cond.methodLink (px_on (px_own M)) idx (px_y N) ∈ lw_tbl → Cond.static (px_y N) ∈ lw_tbl → GoodIn px_gw (va_wsS (px_on (px_own M)) idx (px_y N) (px_cwd N :: px_gw)) := fun u1 u2 => px_gw_good fun w hw => by
        rcases List.mem_append.mp hw with hw | hw
        · simp only [List.mem_cons, List.not_mem_nil, or_false] at hw
          rcases hw with rfl | rfl | rfl
          · exact px_good_in u1 rfl
          · exact px_good_in u2 rfl
          · exact v2
        · rcases List.mem_cons.mp hw with rfl | hw
          · exact v1
          · exact hw
      rw [Bool.or_eq_true] at h5
      rcases h5 with h5 | h5
      · cases px_beq h5
        obtain ⟨u1, u2, u3⟩ := px_okL3 (px_tab px_mi_ok hq) hN
        exact px_back_ok Z J0 I hl hback (vx_runS (As := z0.1.map (px_cv s0.heap.size sc)) (n := px_na N) S hMet (va_cwS (px_na N) hts (hws u1 u2) (by rw [px_cwd0 u3]) rfl rfl ⟨v4, v5, v6⟩ hroom) ⟨px_blind, px_pre I hU hge⟩ rfl (by rw [List.length_map]; exact hT.2) hl.1 hstk hcat2 hd hR) kk ke
      · cases px_beq h5
        obtain ⟨u1, u2, u3⟩ := px_okL4 (px_tab px_mi_ok hq) hN
        exact px_back_ok Z J0 I hl hback (vx_runSX (As := z0.1.map (px_cv s0.heap.size sc)) (n := px_na N) S hMet (vx_cwSW (px_na N) hts (hws u1 u2) (by rw [px_cwd1 u3]) rfl rfl ⟨v4, v5, v6⟩ hroom) ⟨px_blind, px_pre I hU hge⟩ rfl (by rw [List.length_map]; exact hT.2) hl.1 hstk hcat2 hd hR) kk ke
    | false =>
      rw [h5, cond_false] at hg2
      cases h7 : Nat.beq q.1 7 with
      | false => rw [h7, cond_false] at hg2; cases hg2
      | true =>
        rw [h7, cond_true] at hg2
        obtain ⟨n, r, rfl, hg3⟩ := px_pi_s hg2
        obtain ⟨dp, r, rfl, hg4⟩ := px_pi_s hg3
        obtain ⟨bb, r, rfl, hg5⟩ := px_pr_s hg4
        obtain ⟨sp, r, rfl, hg6⟩ := px_pi_s hg5
        obtain ⟨a, r, rfl, hg7⟩ := px_pr_s hg6
        obtain ⟨t, x, ha, hg8⟩ := px_at_s hg7
        obtain ⟨u, y, hbb, hg9⟩ := px_at_s hg8
        obtain ⟨htu, hg10⟩ := px_ck_s hg9
        rcases px_or_s hg10 with hg10 | hg10
        · obtain ⟨hty, hg11⟩ := px_ck_s hg10
          obtain ⟨g1, rfl, hg12⟩ := px_ai_s hg11
          obtain ⟨g2, rfl, hg13⟩ := px_ai_s hg12
          obtain ⟨hneg, hg14⟩ := px_ck_s hg13
          obtain ⟨hs4, hg15⟩ := px_ck_s hg14
          obtain ⟨hs5, hg16⟩ := px_ck_s hg15
          obtain ⟨hbo, hg17⟩ := px_ck_s hg16
          obtain ⟨hf0, hg18⟩ := px_ck_s hg17
          obtain ⟨hl0, hg19⟩ := px_ck_s hg18
          obtain rfl := Option.some.inj hg19
          obtain ⟨q1, q2⟩ := q
          cases px_beq h7
          cases px_beq htu
          obtain ⟨u1, u2, u3, u4⟩ := px_okL7 (px_tab px_mi_ok hq)
          simp only [Bool.and_eq_true, Bool.not_eq_true', decide_eq_false_iff_not] at hneg
          have hf1 := px_blt hf0
          have hl1 := px_ble hl0
          have h4 := px_ble hs4
          have h5' := px_ble hs5
          have hbl : bb < h.length := (List.getElem?_eq_some_iff.mp hbb).1
          have hnw : nativeFrameWords "java/lang/System" "arraycopy" 5 = 7 := by decide +kernel
          have hcat2 : ((r.map (px_cv s0.heap.size sc)).map fun v => v.category).sum + (nativeFrameWords "java/lang/System" "arraycopy" 5 + 11) ≤ R.locals := by
            rw [px_cat_map, hnw]
            unfold px_acw at hl1
            omega
          have kk2 : ∀ (H1 : Heap) (locs1 : List Loc), va_P D px_cl ((px_wd s0.heap.size sc tc h).set bb (s0.heap.size + bb, .inl (tc.getD t 0, g2.length, .inl (va_cpy (fun j => g1.getD j 0) (fun j => g2.getD j 0) sp.toNatClampNeg dp.toNatClampNeg n.toNatClampNeg)))) H1 → va_D (fun q => s0.heap.size ≤ q) ((px_wd s0.heap.size sc tc h).set bb (s0.heap.size + bb, .inl (tc.getD t 0, g2.length, .inl (va_cpy (fun j => g1.getD j 0) (fun j => g2.getD j 0) sp.toNatClampNeg dp.toNatClampNeg n.toNatClampNeg)))) → va_S (fun q => s0.heap.size ≤ q) s.heap H1 locs1 → W p l e R s m args below meth c H1 locs1 cells slots Q (F0 m (pc + 3) ls (r.map (px_cv s0.heap.size sc))) := fun H1 locs1 hP1 hD1 hS1 => px_bound fun hsz => kk _ _ _ _ H1 locs1 ls rfl (px_I_set I hbl (px_we_c h4 h5') hP1 hS1 (px_same I hbl hP1 hsz)) hl
          cases hi : px_isT t .int with
          | true => exact va_copyi (ty := .int) hx hb (hml.trans hl.1.symm) hown (hts _ (px_good_in u1 rfl)) (hts _ (px_good_in u2 rfl)) (hts _ (px_good_in u3 rfl)) (hts _ (px_good_in u4 rfl)) hK I.1.1 px_wd_D I.2.2 a bb t t (px_wd_get ha) (px_wd_get hbb) (px_tys_at Z.1 (px_isT_s hi)) (px_tys_at Z.1 (px_isT_s hi)) rfl hneg.1.2 hneg.2 hneg.1.1 h4 h5' (fun _ _ => rfl) (by omega) hcat2 hd kk2
          | false =>
            rw [hi, Bool.false_or] at hty
            rw [hi, Bool.false_or] at hbo
            refine va_copyi (ty := .boolean) hx hb (hml.trans hl.1.symm) hown (hts _ (px_good_in u1 rfl)) (hts _ (px_good_in u2 rfl)) (hts _ (px_good_in u3 rfl)) (hts _ (px_good_in u4 rfl)) hK I.1.1 px_wd_D I.2.2 a bb t t (px_wd_get ha) (px_wd_get hbb) (px_tys_at Z.1 (px_isT_s hty)) (px_tys_at Z.1 (px_isT_s hty)) rfl hneg.1.2 hneg.2 hneg.1.1 h4 h5' (fun i hi2 => ?_) (by omega) hcat2 hd kk2
            have hlt : sp.toNatClampNeg + i < g1.length := by omega
            have h9 := List.all_eq_true.mp hbo _ (List.getElem_mem hlt)
            show fits .boolean (.int (g1.getD (sp.toNatClampNeg + i) 0)) = true
            rw [List.getD_eq_getElem?_getD, List.getElem?_eq_getElem hlt]
            simp only [Bool.or_eq_true, decide_eq_true_eq] at h9
            show (_ == 0 || _ == 1) = true
            rcases h9 with h9 | h9
            · rw [Option.getD_some, h9]; rfl
            · rw [Option.getD_some, h9]; rfl
        · obtain ⟨hty, hg11⟩ := px_ck_s hg10
          obtain ⟨g1, rfl, hg12⟩ := px_al_s hg11
          obtain ⟨g2, rfl, hg13⟩ := px_al_s hg12
          obtain ⟨hneg, hg14⟩ := px_ck_s hg13
          obtain ⟨hs4, hg15⟩ := px_ck_s hg14
          obtain ⟨hs5, hg16⟩ := px_ck_s hg15
          obtain ⟨hf0, hg18⟩ := px_ck_s hg16
          obtain ⟨hl0, hg19⟩ := px_ck_s hg18
          obtain rfl := Option.some.inj hg19
          obtain ⟨q1, q2⟩ := q
          cases px_beq h7
          cases px_beq htu
          obtain ⟨u1, u2, u3, u4⟩ := px_okL7 (px_tab px_mi_ok hq)
          simp only [Bool.and_eq_true, Bool.not_eq_true', decide_eq_false_iff_not] at hneg
          have hf1 := px_blt hf0
          have hl1 := px_ble hl0
          have h4 := px_ble hs4
          have h5' := px_ble hs5
          have hbl : bb < h.length := (List.getElem?_eq_some_iff.mp hbb).1
          have hnw : nativeFrameWords "java/lang/System" "arraycopy" 5 = 7 := by decide +kernel
          have hcat2 : ((r.map (px_cv s0.heap.size sc)).map fun v => v.category).sum + (nativeFrameWords "java/lang/System" "arraycopy" 5 + 11) ≤ R.locals := by
            rw [px_cat_map, hnw]
            unfold px_acw at hl1
            omega
          exact va_copyl (ty := .long) hx hb (hml.trans hl.1.symm) hown (hts _ (px_good_in u1 rfl)) (hts _ (px_good_in u2 rfl)) (hts _ (px_good_in u3 rfl)) (hts _ (px_good_in u4 rfl)) hK I.1.1 px_wd_D I.2.2 a bb t t (px_wd_get ha) (px_wd_get hbb) (px_tys_at Z.1 (px_isT_s hty)) (px_tys_at Z.1 (px_isT_s hty)) rfl hneg.1.2 hneg.2 hneg.1.1 h4 h5' (fun _ _ => rfl) (by omega) hcat2 hd fun H1 locs1 hP1 hD1 hS1 => px_bound fun hsz => kk _ _ _ _ H1 locs1 ls rfl (px_I_set I hbl (px_we_cl h4 h5') hP1 hS1 (px_same I hbl hP1 hsz)) hl
  | _ => exact (px_no hg).elim
end PXS4
