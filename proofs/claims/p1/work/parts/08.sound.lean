/-! 'new E("text")' by ldc_w: vx_makeS turned to it -/
section PXMW
variable {p : Program} {l : Launch} {e : Env} {R : Room} {s : State} {m : MethodId} {args : Array Value} {below : List Frame} {meth : Method} {c : Code} {H : Heap} {locs : List Loc} {cells slots : Nat} {Q : State → Prop}
variable {ls : Array Slot} {rest : List Value} {D : va_G} {cl : List vw_C} {tys : List (ClassId × FieldType)} {ws : va_W}
set_option maxHeartbeats 4000000 in
theorem px_makeSW {cc : ByteArray} {pc : Nat} (hexec : p.tables.exec = Jvm.exec) (hb : c.code = cc) (hl : l.stackTraces = false) {own cls text : String} {names : List String} {ik is ic sa ci : Nat} {A : Nat → Prop} {T0 : u_T}
    (hown : s.vm.findClass own = some m.cls) (hcls : Bundle.fit cls = true) (hnames : ∀ n ∈ names, Bundle.fit n = true)
    (hk : (Cond.classLink own ik cls).before args s = true) (hini : (Cond.initialized cls).before args s = true) (hstr : vk_R own is text sa s) (hat : ∀ w ∈ vx_atS own ic cls names, w.before args s = true)
    (hgood : ∀ w ∈ Cond.classLink own ik cls :: Cond.initialized cls :: vx_atS own ic cls names, vx_ot w = true)
    (hU : vx_Zq Bundle.tN "UNASSIGNED_STACK" Bundle.steD A s s.heap) (hN : vx_Zq Bundle.tN "SUPPRESSED_SENTINEL" Bundle.listD A s s.heap) (hS : va_S A s.heap H locs) (hsize : ls.size = c.maxLocals)
    (d0 : decode cc pc = .ok (.new ik, 3)) (d3 : decode cc (pc + 3) = .ok (.dup, 1)) (d4 : decode cc (pc + 4) = .ok (.ldc_w is, 3)) (d6 : decode cc (pc + 7) = .ok (.invokespecial ic, 3))
    (hK : va_K D cl tys s) (hP : va_P D cl ws H) (hD : va_D A ws) (hA : ∀ q, s.heap.size ≤ q → A q) (hc : cl[ci]? = some (cls, T0, 0))
    (hRframes : names.length + 3 < R.frames) (hRlocals : (rest.map fun v => v.category).sum + (13 * (names.length + 1) + 43) ≤ R.locals) (hRcells : cells + 1 ≤ R.cells) (hRslots : slots + 6 ≤ R.slots)
    (kk : ∀ (q : Nat) (H1 : Heap), va_P D cl (ws ++ [(q, .inr (ci, []))]) H1 → va_D A (ws ++ [(q, .inr (ci, []))]) → va_S A s.heap H1 locs → W p l e R s m args below meth c H1 locs (cells + 1) (slots + 6) Q (F0 m (pc + 10) ls (.ref q :: rest))) :
    W p l e R s m args below meth c H locs cells slots Q (F0 m pc ls rest) := by
  intro T hT X
  subst hT
  have htr : e.platform.stackTraces = false := (show e.platform.stackTraces = l.stackTraces by rw [X.admits.platform]).trans hl
  have Y := vx_rebase X (R' := { frames := R.frames, locals := R.locals, cells := 1, slots := 6 }) (Nat.le_refl _) (Nat.le_refl _) hRcells hRslots
  obtain ⟨s', hA'⟩ : ∃ z, z = (T.setVm s.vm).setFrames (.invoking m args :: below) := ⟨_, rfl⟩
  rw [← hA'] at Y
  have hvm : s'.vm = s.vm := by rw [hA']; rfl
  have hhp : s'.heap = T.heap := by rw [hA']; rfl
  have hW0 : s.WarmedH s'.vm := by rw [hvm]; exact State.WarmedH.refl s
  have hat' : ∀ w ∈ vx_atS own ic cls names, w.before args s' = true := fun w hw => vx_ot_at hW0 hvm.symm (hgood w (List.mem_cons_of_mem _ (List.mem_cons_of_mem _ hw))) (hat w hw)
  have hk' : (Cond.classLink own ik cls).before args s' = true := vx_ot_at hW0 hvm.symm (hgood _ List.mem_cons_self) hk
  have hini' : (Cond.initialized cls).before args s' = true := vx_ot_at hW0 hvm.symm (hgood _ (List.mem_cons_of_mem _ List.mem_cons_self)) hini
  have hU' : vx_Zq Bundle.tN "UNASSIGNED_STACK" Bundle.steD A s' s'.heap := by rw [hhp]; exact vx_Zq.moved hW0.alike (hU.kept hS.2.1)
  have hN' : vx_Zq Bundle.tN "SUPPRESSED_SENTINEL" Bundle.listD A s' s'.heap := by rw [hhp]; exact vx_Zq.moved hW0.alike (hN.kept hS.2.1)
  have h : ∀ w ∈ Bundle.ownAtoms own ic cls names, w.before args s' = true := vx_own hat' (vx_isRefq hU'.1) (vx_isRefq hN'.1) hU'.2.word hN'.2.word
  have hown' : s'.vm.findClass own = some m.cls := by rw [hvm]; exact hown
  have hins : (Cond.instantiable cls 6).before args s' = true := h _ (by simp [Bundle.ownAtoms])
  obtain ⟨vm₁, cX, kX, hfX, hkX, -, -, X₁, st1⟩ := Y.newCold hexec (own := own) (C := cls) (index := ik) (n := 6) hown' hk' hins hini'
    (g := F0 m pc ls rest) rfl (by rw [hb]; exact d0) (Nat.le_refl _) (Nat.le_refl _)
  generalize hT1 : (T.setVm vm₁).pushCell { cls := cX, slots := kX.instanceTypes.map defaultValue, vm := .none } = T1 at X₁ st1
  have hcat : (Value.ref T.heap.size).category = 1 := rfl
  have hcellA : T1.heap[T.heap.size]? = some (freshCell cX kX) := by rw [← hT1]; exact State.heap_pushCell_size _ _
  have d3' : decode c.code (pc + 3) = .ok (.dup, 1) := by rw [hb]; exact d3
  have d4' : decode c.code (pc + 4) = .ok (.ldc_w is, 3) := by rw [hb]; exact d4
  have hstr' : vk_R own is text sa s' := vk_R.warm hW0 hstr
  obtain ⟨V, ce, L, Z, hL, hlt, hcl9, hvm9, st⟩ := vx_ctorMadeS X₁ hexec htr (own := own) (cls := cls) (names := names) (ic := ic) hown' hcls hnames h (fun x hx => nomatch hx) hfX hkX hcellA (by rw [hhp]; exact Nat.le_refl _) (msg := .ref sa) rfl
    (g := { method := m, pc := pc + 7, locals := ls, stack := .ref sa :: .ref T.heap.size :: .ref T.heap.size :: rest, locked := none }) rfl hsize (rest := rest) rfl
    (by rw [hb]; exact d6) hRframes (by simp only [List.map_cons, List.sum_cons, hcat]; omega)
  have Z0 := Stand.forget (locs := []) Z (fun y hy => by rw [hL y hy, hhp]; exact Nat.le_refl _)
  obtain ⟨f1, f2⟩ := vx_frame Z0.same
  rw [hhp] at f1 f2
  have hcid : ce.cls = D.1 ci := by
    rw [hcl9]
    have h1 := (hK.1 ci _ hc).2.1
    rw [hvm] at hfX
    exact Option.some.inj (hfX.symm.trans h1)
  have hh : (V.setCell T.heap.size ce).heap[T.heap.size]? = some ce := heapAt_setCell_self (s := V) ce hlt
  subst hA'
  have X5 := vx_back9 X Y Z0
  have X6 : Stand p l e R s m args below meth c (V.setCell T.heap.size ce) locs (cells + 1) (slots + 6) := { X5 with same := X5.same.mono (by omega) (by omega) }
  have hk9 : ∀ (k : Nat) (x : Nat × va_E), ws[k]? = some x → (V.setCell T.heap.size ce).heap[x.1]? = T.heap[x.1]? := fun k x hx => f2 x.1 ((hP k x hx).lt) (fun z hz => nomatch hz)
  obtain ⟨t, a1, b1⟩ := kk T.heap.size (V.setCell T.heap.size ce).heap ((hP.kept hk9).app (fun k x hx => by
      have hz : k < 1 := (List.getElem?_eq_some_iff.mp hx).1
      rw [show k = 0 by omega] at hx
      cases hx
      exact ⟨_, hc, ce, hh, hcid, hvm9, fun k hk => absurd hk (Nat.not_lt_zero k)⟩)) (hD.push hP rfl (hA _ hS.1)) ⟨Nat.le_trans hS.1 f1, fun q h1 h2 => (f2 q (Nat.lt_of_lt_of_le h1 hS.1) (fun z hz => nomatch hz)).trans (hS.2.1 q h1 h2), hS.2.2⟩ _ rfl X6
  refine ⟨t, st1 _ ?_, b1⟩
  show Steps p.tables e below (T1.setTop { method := m, pc := pc + 3, locals := ls, stack := .ref T.heap.size :: rest, locked := none }) _
  jvm_step X₁.here [X₁.here.top, hexec, d3', Value.category]
  exact X₁.ldcStringW hexec (own := own) (text := text) (index := is) (a := sa) hown' hstr'.1 hstr'.2
    (g := { method := m, pc := pc + 4, locals := ls, stack := .ref T.heap.size :: .ref T.heap.size :: rest, locked := none }) rfl d4' _ (st _ a1)
end PXMW
/-! THE PURE MACHINE IS SOUND, 2: the world of our own cells, fields, arrays, new cells -/
def px_we (b sc : Nat) (tc : List ClassId) (e : px_E) : va_E := match e with
  | .inl (t, .inl l) => .inl (tc.getD t 0, l.length, .inl fun j => l.getD j 0)
  | .inl (t, .inr (.inl l)) => .inl (tc.getD t 0, l.length, .inr (.inl fun j => l.getD j 0))
  | .inl (t, .inr (.inr l)) => .inl (tc.getD t 0, l.length, .inr (.inr (.inr (.inr fun j => (l.getD j none).map fun k => b + k))))
  | .inr (ci, fs) => .inr (ci, fs.map (px_cv b sc))
def px_wd (b sc : Nat) (tc : List ClassId) (h : List px_E) : va_W := h.mapIdx fun k e => (b + k, px_we b sc tc e)
theorem px_wd_get {b sc : Nat} {tc : List ClassId} {h : List px_E} {k : Nat} {e : px_E} (hk : h[k]? = some e) : (px_wd b sc tc h)[k]? = some (b + k, px_we b sc tc e) := by
  unfold px_wd
  rw [List.getElem?_mapIdx, hk]
  rfl
theorem px_wd_of {b sc : Nat} {tc : List ClassId} {h : List px_E} {k : Nat} {q : Nat × va_E} (hk : (px_wd b sc tc h)[k]? = some q) : ∃ e, h[k]? = some e ∧ q = (b + k, px_we b sc tc e) := by
  unfold px_wd at hk
  rw [List.getElem?_mapIdx] at hk
  cases hh : h[k]? with
  | none => rw [hh] at hk; cases hk
  | some e => rw [hh] at hk; exact ⟨e, rfl, (Option.some.inj hk).symm⟩
theorem px_wd_set {b sc : Nat} {tc : List ClassId} {h : List px_E} {k : Nat} (e : px_E) (hk : k < h.length) : (px_wd b sc tc h).set k (b + k, px_we b sc tc e) = px_wd b sc tc (h.set k e) := by
  refine List.ext_getElem? fun i => ?_
  unfold px_wd
  rw [List.getElem?_mapIdx]
  by_cases hi : i = k
  · subst hi
    rw [List.getElem?_set_self (by rw [List.length_mapIdx]; exact hk), List.getElem?_set_self hk]
    rfl
  · rw [List.getElem?_set_ne (Ne.symm hi), List.getElem?_set_ne (Ne.symm hi), List.getElem?_mapIdx]
theorem px_wd_push {b sc : Nat} {tc : List ClassId} {h : List px_E} (e : px_E) : px_wd b sc tc h ++ [(b + h.length, px_we b sc tc e)] = px_wd b sc tc (h ++ [e]) := by
  unfold px_wd
  rw [List.mapIdx_append]
  simp
theorem px_wd_len {b sc : Nat} {tc : List ClassId} {h : List px_E} : (px_wd b sc tc h).length = h.length := by
  unfold px_wd
  rw [List.length_mapIdx]
theorem px_wd_D {b sc : Nat} {tc : List ClassId} {h : List px_E} : va_D (fun q => b ≤ q) (px_wd b sc tc h) := by
  refine ⟨fun i j x y hi hj hxy => ?_, fun k q hk => ?_⟩
  · obtain ⟨e1, -, rfl⟩ := px_wd_of hi
    obtain ⟨e2, -, rfl⟩ := px_wd_of hj
    have hxy2 : b + i = b + j := hxy
    omega
  · obtain ⟨e1, -, rfl⟩ := px_wd_of hk
    exact Nat.le_add_right _ _
/-- what is so at the law's entry, and stays so -/
def px_Z (s0 : State) (D : va_G) (tc : List ClassId) (sc : Nat) (xs : List Int32) : Prop :=
  tc.length = px_tys.length ∧ va_K D px_cl (tc.zip px_tys) s0 ∧ (∀ w ∈ px_nwd, va_Nw w s0) ∧ (∀ t ci q, px_tec.getD t none = some ci → px_cl[ci]? = some q → va_AO q.1 s0) ∧ (∀ o i, px_str o i = true → ∃ tx sa, vk_R (px_on o) i tx sa s0) ∧
  vx_Zq Bundle.tN "UNASSIGNED_STACK" Bundle.steD (fun q => s0.heap.size ≤ q) s0 s0.heap ∧ vx_Zq Bundle.tN "SUPPRESSED_SENTINEL" Bundle.listD (fun q => s0.heap.size ≤ q) s0 s0.heap ∧
  (∀ c ∈ [11, 12, 13], ∀ d ∈ [11, 12, 13], c ≠ d → ∀ q r, px_cl[c]? = some q → px_cl[d]? = some r → va_Nc q.1 r.1 s0) ∧ va_X sc xs.length (fun j => xs.getD j 0) s0 s0.heap ∧ sc < s0.heap.size ∧
  (∀ (s : State) (a : Array Value), s0.WarmedH s.vm → (Cond.arrayOver (.array .int)).before a s = true)
/-- a state behind it: the tables warmer, nothing old changed -/
def px_U (s0 U : State) : Prop := s0.WarmedH U.vm ∧ ∀ q : Nat, q < s0.heap.size → U.heap[q]? = s0.heap[q]?
/-- the cells that are ours -/
def px_O (s0 : State) (D : va_G) (tc : List ClassId) (sc : Nat) (xs : List Int32) (h : List px_E) (H : Heap) : Prop := va_P D px_cl (px_wd s0.heap.size sc tc h) H ∧ H.size = s0.heap.size + h.length
/-- a point of a method's walk -/
def px_I (s0 s : State) (D : va_G) (tc : List ClassId) (sc : Nat) (xs : List Int32) (H : Heap) (locs : List Loc) (cells : Nat) (h : List px_E) : Prop := px_O s0 D tc sc xs h H ∧ s.heap.size + cells = H.size ∧ va_S (fun q => s0.heap.size ≤ q) s.heap H locs
/-- the rows of an exception table -/
def px_Hr (M : px_M) : Prop := ∀ x ∈ px_hh M, ∃ r : vw_C, px_cl[x.2.2.2]? = some r ∧ px_isX x.2.2.2 = true ∧ px_xp x.2.2.2 ≠ 0 ∧ Cond.classLink (px_on (px_own M)) (px_xp x.2.2.2) r.1 ∈ lw_tbl ∧ Cond.castable r.1 r.1 ∈ lw_tbl
/-- what a method's walk stands on -/
def px_J (p : Program) (l : Launch) (R : Room) (s0 s : State) (m : MethodId) (args : Array Value) (meth : Method) (c : Code) (M : px_M) (fr lo : Nat) : Prop :=
  p.tables.exec = Jvm.exec ∧ c.code = px_cc M ∧ c.maxLocals = px_ml M ∧ s.vm.findClass (px_on (px_own M)) = some m.cls ∧ (∀ w ∈ px_gw, w.before args s = true) ∧ px_U s0 s ∧ s0.heap.size ≤ s.heap.size ∧ l.stackTraces = false ∧
  (px_ini M = true → meth.name = "<init>") ∧ meth.sig.returnType = px_rt M ∧ meth.locks = false ∧ (c.exceptionTable.toList = tableOf (px_tb M) ∧ px_Hr M) ∧ (∀ pc i n, px_ins M pc = some (i, n) → decode (px_cc M) pc = .ok (i, n)) ∧ fr ≤ R.frames ∧ lo ≤ R.locals
theorem px_nw_moved {s0 s : State} (hW : s0.WarmedH s.vm) {w : Cond} (hk : px_okk w = true) (h : va_Nw w s0) : va_Nw w s := by
  cases w with
  | castable _ _ => exact va_Nw.warmC hW h
  | declares _ => exact va_Nw.warmD hW h
  | fieldLinkNest _ _ _ _ _ _ => exact va_Nw.warmF hW h
  | methodLinkNest _ _ _ _ => exact va_Nw.warmM hW h
  | _ => cases hk
theorem px_okk_on {w : Cond} (hk : px_okk w = true) : w.onTables = true := by
  cases w <;> first | rfl | cases hk
theorem px_nest_use {s0 s : State} {D : va_G} {tc : List ClassId} {sc : Nat} {xs : List Int32} (Z : px_Z s0 D tc sc xs) (hW : s0.WarmedH s.vm) {w : Cond} (h : w ∈ lw_tbl) (hk : px_okk w = true) {args : Array Value} : w.before args s = true :=
  va_Nw.use (px_okk_on hk) (px_nw_moved hW hk (Z.2.2.1 w (px_nest_in h hk)))
/-- the tables, in words -/
theorem px_okF_s {o i : Nat} {e : Nat × Nat × Bool × Bool} (h : px_okF o (i, e) = true) : ∃ (r : vw_C) (d : Nat × List Value × List FieldType) (ty : FieldType), px_cl[e.1]? = some r ∧ px_cd[e.1]? = some d ∧ e.1 < 11 ∧ e.2.1 < r.2.2 ∧ (r.2.1 e.2.1).1 = r.1 ∧ (r.2.1 e.2.1).2.2.2 = e.2.2.2 ∧ d.2.2[e.2.1]? = some ty ∧ parseFieldDescriptor (r.2.1 e.2.1).2.2.1 = some ty ∧
    (e.2.2.1 = true → Cond.fieldLinkNest (px_on o) i r.1 (r.2.1 e.2.1).2.1 (r.2.1 e.2.1).2.2.1 "RuleForgeModel" ∈ lw_tbl) ∧
    (e.2.2.1 = false → Cond.fieldLink (px_on o) i r.1 (r.2.1 e.2.1).2.1 (r.2.1 e.2.1).2.2.1 ∈ lw_tbl) := by
  unfold px_okF at h
  split at h
  · rename_i r d h1 h2
    simp only [Bool.and_eq_true, decide_eq_true_eq] at h
    obtain ⟨⟨⟨⟨⟨⟨h3, h4⟩, h5⟩, h6⟩, h7⟩, h8⟩, h9⟩ := h
    obtain ⟨ty, hty⟩ := Option.isSome_iff_exists.mp h7
    split at h9
    · have h10 := px_ats_s h9 _ List.mem_cons_self
      refine ⟨r, d, ty, h1, h2, px_blt h3, px_blt h4, h5, (eq_of_beq h6).symm, hty, h8.trans hty, fun q => ?_, fun q => ?_⟩
      · unfold px_wdF at h10
        rw [q, cond_true] at h10
        exact h10
      · unfold px_wdF at h10
        rw [q, cond_false] at h10
        exact h10
    · cases h9
  · cases h
theorem px_okC_s {ci : Nat} (hci : ci < 11) : ∃ (r : vw_C) (d : Nat × List Value × List FieldType), px_cl[ci]? = some r ∧ px_cd[ci]? = some d ∧ d.1 = r.2.2 ∧ d.2.1.length = r.2.2 ∧ d.2.2.length = r.2.2 ∧ r.1 = px_on ci ∧ (∀ w ∈ u_ws r.1 r.2.1 r.2.2, w ∈ px_gw) ∧
    (∀ k, k < r.2.2 → parseFieldDescriptor (r.2.1 k).2.2.1 = some (d.2.2.getD k .int)) ∧ (∀ k, k < r.2.2 → defaultValue (d.2.2.getD k .int) = vp_V d.2.1 k) ∧ (∀ a, a < r.2.2 → ∀ b, b < r.2.2 → a ≠ b → (r.2.1 a).2.1 ≠ (r.2.1 b).2.1) ∧
    Cond.instantiable r.1 r.2.2 ∈ px_gw ∧ Cond.initialized r.1 ∈ px_gw ∧ ∀ v ∈ d.2.1, ∀ k, v ≠ .ref k := by
  have h := px_cl_ok ci hci
  unfold px_okC at h
  split at h
  · rename_i r d h1 h2
    simp only [Bool.and_eq_true, decide_eq_true_eq] at h
    obtain ⟨⟨⟨⟨⟨⟨⟨h3, h4⟩, h5⟩, h5a⟩, h6⟩, h7⟩, h8⟩, h9⟩ := h
    have h6' : ∀ k, k < r.2.2 → _ := fun k hk => List.all_eq_true.mp h6 k (List.mem_range.mpr hk)
    simp only [Bool.and_eq_true, decide_eq_true_eq] at h6'
    have h7' := px_ats_s h7
    refine ⟨r, d, h1, h2, h3, h4, h5, h5a, fun w hw => px_good_in (h7' w (List.mem_append_left _ hw)) (List.all_eq_true.mp h8 w hw), fun k hk => ?_, fun k hk => ?_, fun a ha b hb hab => ?_, px_good_in (h7' _ (List.mem_append_right _ List.mem_cons_self)) rfl, px_good_in (h7' _ (List.mem_append_right _ (List.mem_cons_of_mem _ List.mem_cons_self))) rfl, fun v hv k hk => ?_⟩
    · obtain ⟨ty, hty⟩ := Option.isSome_iff_exists.mp (h6' k hk).1.1.1
      rw [(h6' k hk).1.1.2, List.getD_eq_getElem?_getD, hty]
      rfl
    · obtain ⟨ty, hty⟩ := Option.isSome_iff_exists.mp (h6' k hk).1.1.1
      have h10 := (h6' k hk).1.2
      rw [hty] at h10
      rw [List.getD_eq_getElem?_getD, hty]
      unfold vp_V
      rw [List.getD_eq_getElem?_getD, ← h10]
      rfl
    · have h11 := List.all_eq_true.mp (h6' a ha).2 b (List.mem_range.mpr hb)
      simp only [Bool.or_eq_true, decide_eq_true_eq] at h11
      exact fun z => h11.elim (fun e => hab e.symm) (fun e => e z.symm)
    · have h12 := List.all_eq_true.mp h9 v hv
      rw [hk] at h12
      cases h12
  · cases h
theorem px_fi_s {b sc : Nat} {ty : FieldType} {v : Value} (h : px_fi ty v = true) : narrow ty (px_cv b sc v) = px_cv b sc v ∧ fits ty (px_cv b sc v) = true := by
  cases ty <;> cases v <;> first | exact ⟨rfl, rfl⟩ | cases h | skip
  rename_i x
  unfold px_fi at h
  simp only [Bool.or_eq_true, decide_eq_true_eq] at h
  rcases h with rfl | rfl
  · exact ⟨rfl, rfl⟩
  · exact ⟨rfl, rfl⟩
theorem px_in_s {i : Int32} {n : Nat} (h : px_in i n = true) : vp_in i n ∧ i.toNatClampNeg < n := by
  unfold px_in at h
  simp only [Bool.and_eq_true, Bool.not_eq_true', decide_eq_false_iff_not] at h
  have h2 := px_blt h.2
  exact ⟨fun q => q.elim h.1 (fun z => absurd h2 (Nat.not_lt.mpr z)), h2⟩
theorem px_nar_s {x : Int32} (h : px_fi .boolean (.int x) = true) : vp_nar .boolean x = x := by
  unfold px_fi at h
  simp only [Bool.or_eq_true, decide_eq_true_eq] at h
  rcases h with rfl | rfl
  · rfl
  · rfl
theorem px_tys_at {tc : List ClassId} {t : Nat} {ty : FieldType} (hlen : tc.length = px_tys.length) (h : px_tys[t]? = some ty) : (tc.zip px_tys)[t]? = some (tc.getD t 0, ty) := by
  have hl := (List.getElem?_eq_some_iff.mp h).1
  have h1 : tc[t]? = some (tc.getD t 0) := by
    rw [List.getD_eq_getElem?_getD, List.getElem?_eq_getElem (by omega)]
    rfl
  exact List.getElem?_zip_eq_some.mpr ⟨h1, h⟩
theorem px_isT_s {t : Nat} {ty : FieldType} (h : px_isT t ty = true) : px_tys[t]? = some ty := of_decide_eq_true h
theorem px_setD {α : Type} (l : List α) (k : Nat) (x d : α) (hk : k < l.length) : (fun j => (l.set k x).getD j d) = fun j => if j = k then x else l.getD j d := by
  funext j
  simp only [List.getD_eq_getElem?_getD]
  by_cases hj : j = k
  · subst hj
    rw [if_pos rfl, List.getElem?_set_self hk]
    rfl
  · rw [if_neg hj, List.getElem?_set_ne (Ne.symm hj)]
theorem px_we_i {b sc : Nat} {tc : List ClassId} {t k : Nat} {l : List Int32} {x : Int32} (hk : k < l.length) : px_we b sc tc (.inl (t, .inl (l.set k x))) = .inl (tc.getD t 0, l.length, .inl (upd (fun j => l.getD j 0) k x)) := by
  unfold px_we upd
  dsimp only
  rw [px_setD l k x 0 hk, List.length_set]
theorem px_we_l {b sc : Nat} {tc : List ClassId} {t k : Nat} {l : List Int64} {x : Int64} (hk : k < l.length) : px_we b sc tc (.inl (t, .inr (.inl (l.set k x)))) = .inl (tc.getD t 0, l.length, .inr (.inl (vp_updL (fun j => l.getD j 0) k x))) := by
  unfold px_we vp_updL
  dsimp only
  rw [px_setD l k x 0 hk, List.length_set]
theorem px_we_q {b sc : Nat} {tc : List ClassId} {t k : Nat} {l : List (Option Nat)} {x : Nat} (hk : k < l.length) : px_we b sc tc (.inl (t, .inr (.inr (l.set k (some x))))) = .inl (tc.getD t 0, l.length, .inr (.inr (.inr (.inr (va_up (fun j => (l.getD j none).map fun k => b + k) k (some (b + x))))))) := by
  unfold px_we va_up
  dsimp only
  have h := px_setD l k (some x) none hk
  have h2 : (fun j => ((l.set k (some x)).getD j none).map fun k => b + k) = fun j => if j = k then some (b + x) else (l.getD j none).map fun k => b + k := by
    funext j
    rw [show (l.set k (some x)).getD j none = _ from congrFun h j]
    by_cases hj : j = k
    · rw [if_pos hj, if_pos hj]; rfl
    · rw [if_neg hj, if_neg hj]
  rw [h2, List.length_set]
theorem px_rv_s {b sc : Nat} (o : Option Nat) : va_rf (o.map fun k => b + k) = px_cv b sc (px_rv o) := by cases o <;> rfl
theorem px_O_push {s0 : State} {D : va_G} {tc : List ClassId} {sc : Nat} {xs : List Int32} {h : List px_E} {H H1 : Heap} {e : px_E} (O : px_O s0 D tc sc xs h H) (z1 : H1.size = H.size + 1) (o1 : ∀ q : Nat, q < H.size → H1[q]? = H[q]?) (he : va_at D px_cl (H.size, px_we s0.heap.size sc tc e) H1) : px_O s0 D tc sc xs (h ++ [e]) H1 := by
  refine ⟨?_, by rw [z1, O.2, List.length_append, List.length_singleton, Nat.add_assoc]⟩
  rw [← px_wd_push]
  refine (O.1.kept fun k q hq => o1 q.1 (O.1 k q hq).lt).app fun k q hq => ?_
  have hz : k < 1 := (List.getElem?_eq_some_iff.mp hq).1
  rw [show k = 0 by omega] at hq
  cases hq
  rw [← O.2]
  exact he
theorem px_I_push {s0 s : State} {D : va_G} {tc : List ClassId} {sc : Nat} {xs : List Int32} {h : List px_E} {H H1 : Heap} {locs : List Loc} {cells : Nat} {e : px_E} (I : px_I s0 s D tc sc xs H locs cells h) (z1 : H1.size = H.size + 1) (o1 : ∀ q : Nat, q < H.size → H1[q]? = H[q]?) (he : va_at D px_cl (H.size, px_we s0.heap.size sc tc e) H1) : px_I s0 s D tc sc xs H1 locs (cells + 1) (h ++ [e]) :=
  ⟨px_O_push I.1 z1 o1 he, by rw [z1, ← I.2.1, Nat.add_assoc], Nat.le_trans I.2.2.1 (by omega), fun x h1 h2 => (o1 x (Nat.lt_of_lt_of_le h1 I.2.2.1)).trans (I.2.2.2.1 x h1 h2), I.2.2.2.2⟩
theorem px_I_set {s0 s : State} {D : va_G} {tc : List ClassId} {sc : Nat} {xs : List Int32} {h : List px_E} {H H1 : Heap} {locs locs1 : List Loc} {cells : Nat} {k : Nat} {e : px_E} {f : va_E} (I : px_I s0 s D tc sc xs H locs cells h) (hk : k < h.length) (hf : px_we s0.heap.size sc tc e = f) (hP : va_P D px_cl ((px_wd s0.heap.size sc tc h).set k (s0.heap.size + k, f)) H1) (hS : va_S (fun q => s0.heap.size ≤ q) s.heap H1 locs1) (hz : H1.size = H.size) : px_I s0 s D tc sc xs H1 locs1 cells (h.set k e) := by
  subst hf
  rw [px_wd_set e hk] at hP
  exact ⟨⟨hP, by rw [hz, I.1.2, List.length_set]⟩, by rw [hz]; exact I.2.1, hS⟩
theorem px_bound {p : Program} {l : Launch} {e : Env} {R : Room} {s : State} {m : MethodId} {args : Array Value} {below : List Frame} {meth : Method} {c : Code} {H : Heap} {locs : List Loc} {cells slots : Nat} {Q : State → Prop} {g : JFrame} (k : H.size ≤ s.heap.size + cells → W p l e R s m args below meth c H locs cells slots Q g) : W p l e R s m args below meth c H locs cells slots Q g :=
  fun T hT X => k (by rw [← hT]; exact X.heapSize) T hT X
/-- nothing new: the heap's size, by the count of new cells -/
theorem px_same {s0 s : State} {D : va_G} {tc : List ClassId} {sc : Nat} {xs : List Int32} {h : List px_E} {H H1 : Heap} {locs : List Loc} {cells k : Nat} {f : va_E} (I : px_I s0 s D tc sc xs H locs cells h) (hk : k < h.length) (hP : va_P D px_cl ((px_wd s0.heap.size sc tc h).set k (s0.heap.size + k, f)) H1) (hsz : H1.size ≤ s.heap.size + cells) : H1.size = H.size := by
  have h1 := I.2.1
  have h2 := I.1.2
  have key : ∃ g, ((px_wd s0.heap.size sc tc h).set k (s0.heap.size + k, f))[h.length - 1]? = some (s0.heap.size + (h.length - 1), g) := by
    by_cases hj : h.length - 1 = k
    · refine ⟨f, ?_⟩
      rw [hj, List.getElem?_set_self (by rw [px_wd_len]; exact hk)]
    · rw [List.getElem?_set_ne (Ne.symm hj)]
      exact ⟨_, px_wd_get (List.getElem?_eq_getElem (by omega))⟩
  obtain ⟨g, hg⟩ := key
  have h3 : s0.heap.size + (h.length - 1) < H1.size := (hP _ _ hg).lt
  omega
/-- one new cell, at the heap's end -/
theorem px_fresh {s0 s : State} {D : va_G} {tc : List ClassId} {sc : Nat} {xs : List Int32} {h : List px_E} {H H1 : Heap} {locs locs1 : List Loc} {cells q : Nat} {f : px_E} (I : px_I s0 s D tc sc xs H locs cells h) (hP : va_P D px_cl (px_wd s0.heap.size sc tc h ++ [(q, px_we s0.heap.size sc tc f)]) H1) (hD : va_D (fun q => s0.heap.size ≤ q) (px_wd s0.heap.size sc tc h ++ [(q, px_we s0.heap.size sc tc f)])) (hS : va_S (fun q => s0.heap.size ≤ q) s.heap H1 locs1) (hsz : H1.size ≤ s.heap.size + (cells + 1)) :
    q = s0.heap.size + h.length ∧ px_I s0 s D tc sc xs H1 locs1 (cells + 1) (h ++ [f]) := by
  have h1 := I.2.1
  have h2 := I.1.2
  have hn : (px_wd s0.heap.size sc tc h ++ [(q, px_we s0.heap.size sc tc f)])[h.length]? = some (q, px_we s0.heap.size sc tc f) := by
    rw [List.getElem?_append_right (by rw [px_wd_len]; exact Nat.le_refl _), px_wd_len, Nat.sub_self]
    rfl
  have h3 : q < H1.size := (hP _ _ hn).lt
  have h4 : s0.heap.size ≤ q := hD.2 _ _ hn
  have h5 : ¬ q < s0.heap.size + h.length := fun hlt => by
    have hk : q - s0.heap.size < h.length := by omega
    have h6 : (px_wd s0.heap.size sc tc h ++ [(q, px_we s0.heap.size sc tc f)])[q - s0.heap.size]? = some (s0.heap.size + (q - s0.heap.size), px_we s0.heap.size sc tc (h[q - s0.heap.size]'hk)) := by
      rw [List.getElem?_append_left (by rw [px_wd_len]; exact hk)]
      exact px_wd_get (List.getElem?_eq_getElem hk)
    have h7 := hD.1 _ _ _ _ h6 hn (by show s0.heap.size + (q - s0.heap.size) = q; omega)
    omega
  have hq : q = s0.heap.size + h.length := by omega
  subst hq
  rw [px_wd_push] at hP
  refine ⟨rfl, ⟨hP, ?_⟩, ?_, hS⟩
  · rw [List.length_append, List.length_singleton]; omega
  · omega
section PXS3
variable {p : Program} {l : Launch} {e : Env} {R : Room} {s0 s : State} {m : MethodId} {args : Array Value} {below : List Frame} {meth : Method} {c : Code} {H : Heap} {locs : List Loc} {cells slots : Nat} {Q : State → Prop} {D : va_G} {tc : List ClassId} {sc : Nat} {xs : List Int32} {M : px_M} {fr lo : Nat}
/-- what a step's successor has to meet -/
def px_K (p : Program) (l : Launch) (e : Env) (R : Room) (s0 s : State) (m : MethodId) (args : Array Value) (below : List Frame) (meth : Method) (c : Code) (cells slots : Nat) (Q : State → Prop) (D : va_G) (tc : List ClassId) (sc : Nat) (xs : List Int32) (M : px_M) (z : Nat × Nat × (px_St ⊕ px_Re)) : Prop :=
  ∀ (pc1 : Nat) (lv1 : px_L) (st1 : List Value) (h1 : List px_E) (H1 : Heap) (locs1 : List Loc) (ls1 : Array Slot), z.2.2 = .inl (pc1, lv1, st1, h1) → px_I s0 s D tc sc xs H1 locs1 (cells + z.1) h1 → lv_has ls1 (px_ml M) (lv1.map (px_cq s0.heap.size sc)) → W p l e R s m args below meth c H1 locs1 (cells + z.1) (slots + z.2.1) Q (F0 m pc1 ls1 (st1.map (px_cv s0.heap.size sc)))
theorem px_getf {len pc a : Nat} {ci : Nat} {fs : List Value} {idx : Nat} {lv : px_L} {r : List Value} {h : List px_E} {ls : Array Slot} {q : Nat × Nat × Bool × Bool} {v : Value} (Z : px_Z s0 D tc sc xs) (J : px_J p l R s0 s m args meth c M fr lo) (I : px_I s0 s D tc sc xs H locs cells h) (hd : decode (px_cc M) pc = .ok (.getfield idx, 3)) (hl : lv_has ls (px_ml M) (lv.map (px_cq s0.heap.size sc)))
    (hq : px_as2 px_fl (px_own M) idx = some q) (ha : h[a]? = some (.inr (ci, fs))) (hci : ci = q.1) (hv : fs[q.2.1]? = some v) (kk : px_K p l e R s0 s m args below meth c cells slots Q D tc sc xs M (0, 0, .inl (pc + 3, lv, v :: r, h))) :
    W p l e R s m args below meth c H locs cells slots Q (F0 m pc ls ((Value.ref a :: r).map (px_cv s0.heap.size sc))) := by
  subst hci
  obtain ⟨hx, hb, -, hown, hts, hU, -⟩ := J
  obtain ⟨r1, d1, ty, c1, c2, c3, c4, c5, c6, c7, c8, c9, c10⟩ := px_okF_s (px_tab px_fl_ok hq)
  obtain ⟨r2, d2, e1, e2, e3, e4, e5, e6, hin, -⟩ := px_okC_s c3
  cases Option.some.inj (c1.symm.trans e1)
  have hK : va_K D px_cl (tc.zip px_tys) s := Z.2.1.moved hU.1.alike
  have hv' : (fs.map (px_cv s0.heap.size sc))[q.2.1]? = some (px_cv s0.heap.size sc v) := by rw [List.getElem?_map, hv]; rfl
  have k2 := kk _ _ _ _ H locs ls rfl I hl
  cases hn : q.2.2.1 with
  | true => exact va_getN (ref := (r1.2.1 q.2.1).1) hx hb hts hin hown hK I.1.1 a (px_wd_get ha) c1 q.2.1 c4 (by rw [c5]; exact px_nest_use Z hU.1 (c9 hn) rfl) (fun x hx => hx) hv' hd k2
  | false => exact va_get (ref := (r1.2.1 q.2.1).1) hx hb hts hin hown hK I.1.1 a (px_wd_get ha) c1 q.2.1 c4 (by rw [c5]; exact hts _ (px_good_in (c10 hn) rfl)) (fun x hx => hx) hv' hd k2
theorem px_putf {len pc a : Nat} {ci : Nat} {fs : List Value} {idx : Nat} {lv : px_L} {r : List Value} {h : List px_E} {ls : Array Slot} {q : Nat × Nat × Bool × Bool} {v : Value} {d : Nat × List Value × List FieldType} {ty : FieldType} (Z : px_Z s0 D tc sc xs) (J : px_J p l R s0 s m args meth c M fr lo) (I : px_I s0 s D tc sc xs H locs cells h) (hd : decode (px_cc M) pc = .ok (.putfield idx, 3)) (hl : lv_has ls (px_ml M) (lv.map (px_cq s0.heap.size sc)))
    (hq : px_as2 px_fl (px_own M) idx = some q) (ha : h[a]? = some (.inr (ci, fs))) (hci : ci = q.1) (hdd : px_cd[q.1]? = some d) (hty : d.2.2[q.2.1]? = some ty) (hfi : px_fi ty v = true) (hlt : q.2.1 < fs.length) (hfin : (!q.2.2.2 || (px_ini M && (!q.2.2.1 && Nat.beq q.1 (px_own M)))) = true) (kk : px_K p l e R s0 s m args below meth c cells slots Q D tc sc xs M (0, 0, .inl (pc + 3, lv, r, h.set a (.inr (ci, fs.set q.2.1 v))))) :
    W p l e R s m args below meth c H locs cells slots Q (F0 m pc ls ((v :: Value.ref a :: r).map (px_cv s0.heap.size sc))) := by
  subst hci
  obtain ⟨hx, hb, -, hown, hts, hU, -, -, hini, -⟩ := J
  obtain ⟨r1, d1, ty1, c1, c2, c3, c4, c5, c6, c7, c8, c9, c10⟩ := px_okF_s (px_tab px_fl_ok hq)
  obtain ⟨r2, d2, e1, e2, e3, e4, e5, e6, hin, hpar, hdef, hnm, -⟩ := px_okC_s c3
  cases Option.some.inj (c1.symm.trans e1)
  cases Option.some.inj (c2.symm.trans hdd)
  cases Option.some.inj (c7.symm.trans hty)
  have hK : va_K D px_cl (tc.zip px_tys) s := Z.2.1.moved hU.1.alike
  have hal : a < h.length := (List.getElem?_eq_some_iff.mp ha).1
  have hwe : px_we s0.heap.size sc tc (.inr (q.1, fs.set q.2.1 v)) = .inr (q.1, (fs.map (px_cv s0.heap.size sc)).set q.2.1 (px_cv s0.heap.size sc v)) := by
    show (Sum.inr (q.1, (fs.set q.2.1 v).map (px_cv s0.heap.size sc)) : va_E) = _
    rw [List.map_set]
  have k2 : ∀ (H1 : Heap) (locs1 : List Loc), va_P D px_cl ((px_wd s0.heap.size sc tc h).set a (s0.heap.size + a, .inr (q.1, (fs.map (px_cv s0.heap.size sc)).set q.2.1 (px_cv s0.heap.size sc v)))) H1 → va_D (fun q => s0.heap.size ≤ q) ((px_wd s0.heap.size sc tc h).set a (s0.heap.size + a, .inr (q.1, (fs.map (px_cv s0.heap.size sc)).set q.2.1 (px_cv s0.heap.size sc v)))) → va_S (fun q => s0.heap.size ≤ q) s.heap H1 locs1 → W p l e R s m args below meth c H1 locs1 cells slots Q (F0 m (pc + 3) ls (r.map (px_cv s0.heap.size sc))) := fun H1 locs1 hP1 hD1 hS1 => px_bound fun hsz => kk _ _ _ _ H1 locs1 ls rfl (px_I_set I hal hwe hP1 hS1 (px_same I hal hP1 hsz)) hl
  have hf2 := px_fi_s (b := s0.heap.size) (sc := sc) hfi
  have hl2 : q.2.1 < (fs.map (px_cv s0.heap.size sc)).length := by rw [List.length_map]; exact hlt
  cases hn : q.2.2.1 with
  | true =>
    cases hff : q.2.2.2 with
    | true => rw [hn, hff] at hfin; simp at hfin
    | false => exact va_putN (ref := (r1.2.1 q.2.1).1) hx hb hts hin _ hpar hnm hown hK I.1.1 px_wd_D I.2.2 a (px_wd_get ha) c1 q.2.1 c4 (by rw [c5]; exact px_nest_use Z hU.1 (c9 hn) rfl) (fun x hx => hx) (c6.trans hff) c8 hf2.1 hf2.2 hl2 hd k2
  | false =>
    cases hff : q.2.2.2 with
    | true =>
      rw [hn, hff] at hfin
      simp only [Bool.not_true, Bool.not_false, Bool.true_and, Bool.false_or, Bool.and_eq_true] at hfin
      have hin2 : meth.name = "<init>" := hini hfin.1
      have hown2 : r1.1 = px_on (px_own M) := by rw [e6, Nat.eq_of_beq_eq_true hfin.2]
      exact va_putF (ref := (r1.2.1 q.2.1).1) hx hb hts hin _ hpar hnm hown hK I.1.1 px_wd_D I.2.2 a (px_wd_get ha) c1 q.2.1 c4 (by rw [c5]; exact hts _ (px_good_in (c10 hn) rfl)) (fun x hx => hx) (c6.trans hff) hin2 (c5.trans hown2) c8 hf2.1 hf2.2 hl2 hd k2
    | false => exact va_put (ref := (r1.2.1 q.2.1).1) hx hb hts hin _ hpar hnm hown hK I.1.1 px_wd_D I.2.2 a (px_wd_get ha) c1 q.2.1 c4 (by rw [c5]; exact hts _ (px_good_in (c10 hn) rfl)) (fun x hx => hx) (c6.trans hff) c8 hf2.1 hf2.2 hl2 hd k2
theorem px_tec_s {t ci : Nat} (h : px_tec.getD t none = some ci) : ∃ q, px_cl[ci]? = some q ∧ px_tys[t]? = some (.object q.1) := by
  match t, h with
  | 0, h => cases h
  | 1, h => cases h
  | 2, h => cases h
  | 3, h => cases h; exact ⟨_, rfl, rfl⟩
  | 4, h => cases h; exact ⟨_, rfl, rfl⟩
  | 5, h => cases h
  | n + 6, h => cases h
theorem px_cat_map {b sc : Nat} (st : List Value) : ((st.map (px_cv b sc)).map fun v => v.category).sum = px_cat st := by
  unfold px_cat
  rw [List.map_map]
  refine congrArg _ (congrArg (fun f => st.map f) (funext fun v => ?_))
  exact px_cv_cat b sc v
theorem px_ldx_s {q : Instr × Nat} {k : Nat} (h : px_ldx q = some k) : q = (.ldc k, 2) := by
  obtain ⟨i, n⟩ := q
  unfold px_ldx at h
  split at h
  · rename_i k0 hk0
    obtain ⟨h1, h2⟩ := px_ck_s h
    cases px_beq h1
    cases h2
    dsimp only at hk0
    rw [hk0]
  · cases h
theorem px_isx_s {q : Instr × Nat} {k : Nat} (h : px_isx q = some k) : q = (.invokespecial k, 3) := by
  obtain ⟨i, n⟩ := q
  unfold px_isx at h
  split at h
  · rename_i k0 hk0
    obtain ⟨h1, h2⟩ := px_ck_s h
    cases px_beq h1
    cases h2
    dsimp only at hk0
    rw [hk0]
  · cases h
theorem px_repl {α : Type} (n : Nat) (x : α) : (fun j => (List.replicate n x).getD j x) = fun _ => x := by
  funext j
  rw [List.getD_eq_getElem?_getD, List.getElem?_replicate]
  split <;> rfl
theorem px_replD {α : Type} (n j : Nat) (x : α) : (List.replicate n x).getD j x = x := congrFun (px_repl n x) j
/-- a new array of ints, truth values, longs -/
theorem px_newa {atype : ArrayType} {ty : FieldType} {t pc : Nat} {n : Int32} {lv : px_L} {r : List Value} {h : List px_E} {ls : Array Slot} {x : px_A} (Z : px_Z s0 D tc sc xs) (J : px_J p l R s0 s m args meth c M fr lo) (I : px_I s0 s D tc sc xs H locs cells h) (hd : decode (px_cc M) pc = .ok (.newarray atype, 2)) (hl : lv_has ls (px_ml M) (lv.map (px_cq s0.heap.size sc)))
    (hw : Cond.arrayClass (newarray.typeOf atype) ∈ lw_tbl) (hty : newarray.typeOf atype = ty) (hra : ∀ cA, va_RA s cA ty → s.vm.findClass ("[" ++ ty.toString) = some cA) (ht : px_tys[t]? = some ty) (hn : decide (n < 0) = false) (hc : n.toNatClampNeg * componentBytes ty ≤ 536870912) (hx : ∀ cA : ClassId, va_at D px_cl (H.size, px_we s0.heap.size sc tc (.inl (t, x))) (H.push (arrV (tc.getD t 0) n.toNatClampNeg fun _ => defaultValue ty)) → True)
    (hwe : ∃ a0 : vp_A, px_we s0.heap.size sc tc (.inl (t, x)) = .inl (tc.getD t 0, a0) ∧ ∀ cA : ClassId, vp_cell cA a0 = arrV cA n.toNatClampNeg fun _ => defaultValue ty)
    (hR : cells + 1 ≤ R.cells ∧ slots + n.toNatClampNeg ≤ R.slots) (kk : px_K p l e R s0 s m args below meth c cells slots Q D tc sc xs M (1, n.toNatClampNeg, .inl (pc + 2, lv, .ref h.length :: r, h ++ [.inl (t, x)]))) :
    W p l e R s m args below meth c H locs cells slots Q (F0 m pc ls ((Value.int n :: r).map (px_cv s0.heap.size sc))) := by
  subst hty
  obtain ⟨hx, hb, -, hown, hts, hU, -⟩ := J
  have hK : va_K D px_cl (tc.zip px_tys) s := Z.2.1.moved hU.1.alike
  obtain ⟨a0, w1, w2⟩ := hwe
  refine va_newaK hx hb (hts _ (px_good_in hw rfl)) rfl hd rfl (of_decide_eq_false hn) rfl hc hR.1 hR.2 rfl fun H1 cA e1 z1 o1 hAr hNm => ?_
  have hcA : cA = tc.getD t 0 := Option.some.inj (hNm.symm.trans (hra _ (hK.2 _ _ (px_tys_at Z.1 ht)).2))
  have hI := px_I_push (e := .inl (t, x)) I z1 o1 (by
    rw [w1]
    show H1[H.size]? = some (vp_cell _ _)
    rw [w2, ← hcA]
    exact e1)
  have := kk _ _ _ _ H1 locs ls rfl hI hl
  rw [I.1.2]
  exact this
/-- a new object of ours -/
theorem px_newo {idx pc : Nat} {lv : px_L} {st : List Value} {h : List px_E} {ls : Array Slot} {q : Nat × Bool} {d : Nat × List Value × List FieldType} (Z : px_Z s0 D tc sc xs) (J : px_J p l R s0 s m args meth c M fr lo) (I : px_I s0 s D tc sc xs H locs cells h) (hd : decode (px_cc M) pc = .ok (.new idx, 3)) (hl : lv_has ls (px_ml M) (lv.map (px_cq s0.heap.size sc)))
    (hq : px_as2 px_nw (px_own M) idx = some q) (hf : q.2 = false) (hdd : px_cd[q.1]? = some d) (hR : cells + 1 ≤ R.cells ∧ slots + d.1 ≤ R.slots) (kk : px_K p l e R s0 s m args below meth c cells slots Q D tc sc xs M (1, d.1, .inl (pc + 3, lv, .ref h.length :: st, h ++ [.inr (q.1, d.2.1)]))) :
    W p l e R s m args below meth c H locs cells slots Q (F0 m pc ls (st.map (px_cv s0.heap.size sc))) := by
  obtain ⟨hx, hb, -, hown, hts, hU, -⟩ := J
  have hK : va_K D px_cl (tc.zip px_tys) s := Z.2.1.moved hU.1.alike
  have hN := px_tab px_nw_ok hq
  unfold px_okN at hN
  split at hN
  · rename_i r ps c1 c2
    simp only [Bool.and_eq_true, hf, cond_false] at hN
    have hw := px_ats_s hN.1
    obtain ⟨r2, d2, e1, e2, e3, e4, e5, e6, hin, hpar, hdef, hnm, hins, hini, hnr⟩ := px_okC_s (px_blt hN.2)
    cases Option.some.inj (c1.symm.trans e1)
    cases Option.some.inj (e2.symm.trans hdd)
    have hKn := hK.1 q.1 _ c1
    refine W.newcK hx hb hown (hts _ (px_good_in (hw _ List.mem_cons_self) rfl)) (hts _ hins) (hts _ hini) rfl hd hR.1 (by rw [← e3]; exact hR.2) hKn.2.1 rfl fun H1 kC hkC e1 z1 o1 => ?_
    have hmap : d.2.1.map (px_cv s0.heap.size sc) = d.2.1 := by
      refine (List.map_congr_left fun v hv => ?_).trans (List.map_id _)
      cases v with
      | ref k => exact absurd rfl (hnr _ hv k)
      | retAddr k =>
        obtain ⟨j, hj⟩ := List.getElem?_of_mem hv
        have h9 := hdef j (by rw [← e4]; exact (List.getElem?_eq_some_iff.mp hj).1)
        unfold vp_V at h9
        simp only [List.getD_eq_getElem?_getD] at h9
        rw [hj] at h9
        cases hh : (d.2.2[j]?).getD .int <;> rw [hh] at h9 <;> cases h9
      | _ => rfl
    have hI := px_I_push (e := .inr (q.1, d.2.1)) I z1 o1 (by
      show ∃ r : vw_C, _
      refine ⟨r, c1, ?_⟩
      show t_OB H.size _ _ _ H1 (vp_V (d.2.1.map (px_cv s0.heap.size sc)))
      rw [hmap]
      exact (u_born (fun k => d.2.2.getD k .int) hts hin hKn hkC e1 hpar).to hdef)
    have := kk _ _ _ _ H1 locs ls rfl hI hl
    rw [I.1.2, ← e3]
    exact this
  · cases hN
theorem px_ldw_s {q : Instr × Nat} {k : Nat} (h : px_ldw q = some k) : q = (.ldc_w k, 3) := by
  obtain ⟨i, n⟩ := q
  unfold px_ldw at h
  split at h
  · rename_i k0 hk0
    obtain ⟨h1, h2⟩ := px_ck_s h
    cases px_beq h1
    cases h2
    dsimp only at hk0
    rw [hk0]
  · cases h
/-- a new exception, made with a text -/
theorem px_newx {idx pc i4 ic : Nat} {lv : px_L} {st : List Value} {h : List px_E} {ls : Array Slot} {q : Nat × Bool} (Z : px_Z s0 D tc sc xs) (J : px_J p l R s0 s m args meth c M fr lo) (I : px_I s0 s D tc sc xs H locs cells h) (hd : decode (px_cc M) pc = .ok (.new idx, 3)) (hl : lv_has ls (px_ml M) (lv.map (px_cq s0.heap.size sc)))
    (hq : px_as2 px_nw (px_own M) idx = some q) (hf : q.2 = true) (d3 : decode (px_cc M) (pc + 3) = .ok (.dup, 1)) (d4 : decode (px_cc M) (pc + 4) = .ok (.ldc i4, 2)) (d6 : decode (px_cc M) (pc + 6) = .ok (.invokespecial ic, 3)) (hstr : px_str (px_own M) i4 = true) (hxi : px_as2 px_xi (px_own M) ic = some q.1) (hfr : 5 < fr) (hlo : px_cat st + 82 ≤ lo)
    (hR : cells + 1 ≤ R.cells ∧ slots + 6 ≤ R.slots) (kk : px_K p l e R s0 s m args below meth c cells slots Q D tc sc xs M (1, 6, .inl (pc + 9, lv, .ref h.length :: st, h ++ [.inr (q.1, [])]))) :
    W p l e R s m args below meth c H locs cells slots Q (F0 m pc ls (st.map (px_cv s0.heap.size sc))) := by
  obtain ⟨hx, hb, hml, hown, hts, hU, hge, hst, -, -, -, -, -, hfr2, hlo2⟩ := J
  have hK : va_K D px_cl (tc.zip px_tys) s := Z.2.1.moved hU.1.alike
  have hN := px_tab px_nw_ok hq
  unfold px_okN at hN
  split at hN
  · rename_i r ps c1 c2
    simp only [Bool.and_eq_true, hf, cond_true] at hN
    have hw := px_ats_s hN.1
    have hX := px_tab px_xi_ok hxi
    unfold px_okX at hX
    split at hX
    · rename_i r2 ps2 g1 g2
      cases Option.some.inj (c1.symm.trans g1)
      simp only [Bool.and_eq_true] at hX
      have hwx := px_ats_s hX.1
      have hgx := fun w hw => List.all_eq_true.mp hX.2 w hw
      simp only [Bool.and_eq_true, Bool.or_eq_true] at hgx
      obtain ⟨tx, sa, hR2⟩ := Z.2.2.2.2.1 _ _ hstr
      obtain ⟨r1, T1, n1⟩ := r
      have hn0 : n1 = 0 := Nat.eq_of_beq_eq_true hN.2.1.2
      subst hn0
      have hZ : ∀ {C n d : String}, vx_Zq C n d (fun q => s0.heap.size ≤ q) s0 s0.heap → vx_Zq C n d (fun q => s0.heap.size ≤ q) s s.heap := fun h => (h.kept fun a ha _ => hU.2 a ha).moved hU.1.alike
      refine vx_makeS (names := px_xn) hx hb hst hown hN.2.2 (by decide +kernel) (hts _ (px_good_in (hw _ List.mem_cons_self) rfl)) (hts _ (px_good_in (hw _ (List.mem_cons_of_mem _ List.mem_cons_self)) rfl)) (vk_R.warm hU.1 hR2) (fun w hw => ?_) (fun w hw => ?_) (hZ Z.2.2.2.2.2.1) (hZ Z.2.2.2.2.2.2.1) I.2.2 (hl.1.trans hml.symm) hd d3 d4 d6 hK I.1.1 px_wd_D (fun q hq => Nat.le_trans hge hq) c1 (Nat.lt_of_lt_of_le hfr hfr2) (by rw [px_cat_map]; exact Nat.le_trans hlo hlo2) hR.1 hR.2 fun q1 H1 hP1 hD1 hS1 => px_bound fun hsz => ?_
      · rcases (hgx w hw).1 with h1 | h1
        · exact hts _ (px_good_in (hwx w hw) h1)
        · exact px_nest_use Z hU.1 (hwx w hw) h1
      · rcases List.mem_cons.mp hw with rfl | hw
        · rfl
        · rcases List.mem_cons.mp hw with rfl | hw
          · rfl
          · exact (hgx w hw).2
      · obtain ⟨rfl, hI⟩ := px_fresh (f := .inr (q.1, [])) I hP1 hD1 hS1 hsz
        exact kk _ _ _ _ H1 locs ls rfl hI hl
    · cases hX
  · cases hN
/-- .. by ldc_w -/
theorem px_newxw {idx pc i4 ic : Nat} {lv : px_L} {st : List Value} {h : List px_E} {ls : Array Slot} {q : Nat × Bool} (Z : px_Z s0 D tc sc xs) (J : px_J p l R s0 s m args meth c M fr lo) (I : px_I s0 s D tc sc xs H locs cells h) (hd : decode (px_cc M) pc = .ok (.new idx, 3)) (hl : lv_has ls (px_ml M) (lv.map (px_cq s0.heap.size sc)))
    (hq : px_as2 px_nw (px_own M) idx = some q) (hf : q.2 = true) (d3 : decode (px_cc M) (pc + 3) = .ok (.dup, 1)) (d4 : decode (px_cc M) (pc + 4) = .ok (.ldc_w i4, 3)) (d6 : decode (px_cc M) (pc + 7) = .ok (.invokespecial ic, 3)) (hstr : px_str (px_own M) i4 = true) (hxi : px_as2 px_xi (px_own M) ic = some q.1) (hfr : 5 < fr) (hlo : px_cat st + 82 ≤ lo)
    (hR : cells + 1 ≤ R.cells ∧ slots + 6 ≤ R.slots) (kk : px_K p l e R s0 s m args below meth c cells slots Q D tc sc xs M (1, 6, .inl (pc + 10, lv, .ref h.length :: st, h ++ [.inr (q.1, [])]))) :
    W p l e R s m args below meth c H locs cells slots Q (F0 m pc ls (st.map (px_cv s0.heap.size sc))) := by
  obtain ⟨hx, hb, hml, hown, hts, hU, hge, hst, -, -, -, -, -, hfr2, hlo2⟩ := J
  have hK : va_K D px_cl (tc.zip px_tys) s := Z.2.1.moved hU.1.alike
  have hN := px_tab px_nw_ok hq
  unfold px_okN at hN
  split at hN
  · rename_i r ps c1 c2
    simp only [Bool.and_eq_true, hf, cond_true] at hN
    have hw := px_ats_s hN.1
    have hX := px_tab px_xi_ok hxi
    unfold px_okX at hX
    split at hX
    · rename_i r2 ps2 g1 g2
      cases Option.some.inj (c1.symm.trans g1)
      simp only [Bool.and_eq_true] at hX
      have hwx := px_ats_s hX.1
      have hgx := fun w hw => List.all_eq_true.mp hX.2 w hw
      simp only [Bool.and_eq_true, Bool.or_eq_true] at hgx
      obtain ⟨tx, sa, hR2⟩ := Z.2.2.2.2.1 _ _ hstr
      obtain ⟨r1, T1, n1⟩ := r
      have hn0 : n1 = 0 := Nat.eq_of_beq_eq_true hN.2.1.2
      subst hn0
      have hZ : ∀ {C n d : String}, vx_Zq C n d (fun q => s0.heap.size ≤ q) s0 s0.heap → vx_Zq C n d (fun q => s0.heap.size ≤ q) s s.heap := fun h => (h.kept fun a ha _ => hU.2 a ha).moved hU.1.alike
      refine px_makeSW (names := px_xn) hx hb hst hown hN.2.2 (by decide +kernel) (hts _ (px_good_in (hw _ List.mem_cons_self) rfl)) (hts _ (px_good_in (hw _ (List.mem_cons_of_mem _ List.mem_cons_self)) rfl)) (vk_R.warm hU.1 hR2) (fun w hw => ?_) (fun w hw => ?_) (hZ Z.2.2.2.2.2.1) (hZ Z.2.2.2.2.2.2.1) I.2.2 (hl.1.trans hml.symm) hd d3 d4 d6 hK I.1.1 px_wd_D (fun q hq => Nat.le_trans hge hq) c1 (Nat.lt_of_lt_of_le hfr hfr2) (by rw [px_cat_map]; exact Nat.le_trans hlo hlo2) hR.1 hR.2 fun q1 H1 hP1 hD1 hS1 => px_bound fun hsz => ?_
      · rcases (hgx w hw).1 with h1 | h1
        · exact hts _ (px_good_in (hwx w hw) h1)
        · exact px_nest_use Z hU.1 (hwx w hw) h1
      · rcases List.mem_cons.mp hw with rfl | hw
        · rfl
        · rcases List.mem_cons.mp hw with rfl | hw
          · rfl
          · exact (hgx w hw).2
      · obtain ⟨rfl, hI⟩ := px_fresh (f := .inr (q.1, [])) I hP1 hD1 hS1 hsz
        exact kk _ _ _ _ H1 locs ls rfl hI hl
    · cases hX
  · cases hN
/-- a new array of references, all null -/
theorem px_newq {idx t pc : Nat} {n : Int32} {lv : px_L} {r : List Value} {h : List px_E} {ls : Array Slot} (Z : px_Z s0 D tc sc xs) (J : px_J p l R s0 s m args meth c M fr lo) (I : px_I s0 s D tc sc xs H locs cells h) (hd : decode (px_cc M) pc = .ok (.anewarray idx, 3)) (hl : lv_has ls (px_ml M) (lv.map (px_cq s0.heap.size sc)))
    (hq : px_as2 px_an (px_own M) idx = some t) (hn : decide (n < 0) = false) (hc : n.toNatClampNeg ≤ 100000) (hR : cells + 1 ≤ R.cells ∧ slots + n.toNatClampNeg ≤ R.slots) (kk : px_K p l e R s0 s m args below meth c cells slots Q D tc sc xs M (1, n.toNatClampNeg, .inl (pc + 3, lv, .ref h.length :: r, h ++ [.inl (t, .inr (.inr (List.replicate n.toNatClampNeg none)))]))) :
    W p l e R s m args below meth c H locs cells slots Q (F0 m pc ls ((Value.int n :: r).map (px_cv s0.heap.size sc))) := by
  obtain ⟨hx, hb, -, hown, hts, hU, -⟩ := J
  have hK : va_K D px_cl (tc.zip px_tys) s := Z.2.1.moved hU.1.alike
  have hA := px_tab px_an_ok hq
  unfold px_okA at hA
  split at hA
  · rename_i ty ci ps g1 g2 g3
    split at hA
    · rename_i q c1
      simp only [Bool.and_eq_true, decide_eq_true_eq] at hA
      obtain ⟨hty, hw⟩ := hA
      subst hty
      have hw := px_ats_s hw
      have hover : va_AO q.1 s := va_AO.moved hU.1.alike (Z.2.2.2.1 t ci q g2 c1)
      refine W.anew hx hb hown (hts _ (px_good_in (hw _ List.mem_cons_self) rfl)) (va_AO.use hover) rfl hd rfl (of_decide_eq_false hn) (by omega) hR.1 hR.2 fun cA kA comp f1 f2 f3 f4 => ?_
      have hcA : cA = tc.getD t 0 := by
        obtain ⟨kA2, comp2, h1, h2, h3, h4⟩ := (hK.2 _ _ (px_tys_at Z.1 g1)).2
        exact Option.some.inj (f1.symm.trans h4)
      have hI := px_I_push (e := .inl (t, .inr (.inr (List.replicate n.toNatClampNeg none)))) (H1 := H.push { cls := cA, slots := Array.replicate n.toNatClampNeg .null, vm := .none }) I (by rw [Array.size_push]) (fun q hq => by rw [Array.getElem?_push, if_neg (Nat.ne_of_lt hq)]) (by
        show (H.push _)[H.size]? = some (vp_cell _ _)
        rw [vp_cell_q, Array.getElem?_push_size, arrV_new, hcA, List.length_replicate]
        refine congrArg some (congrArg _ (funext fun j => ?_))
        rw [congrFun (px_repl n.toNatClampNeg (none : Option Nat)) j]
        rfl)
      have := kk _ _ _ _ _ locs ls rfl hI hl
      rw [I.1.2]
      exact this
    · cases hA
  · cases hA
theorem px_am_s {o i : Nat} (h : px_as2 px_am o i = some 5) : o = 8 ∧ i = 9 := by
  obtain ⟨r, hr, hm⟩ := px_as2_mem px_am o i 5 h
  match o, hr with
  | 0, hr => cases hr; cases hm
  | 1, hr => cases hr; cases hm
  | 2, hr => cases hr; cases hm
  | 3, hr => cases hr; cases hm
  | 4, hr => cases hr; cases hm
  | 5, hr => cases hr; cases hm
  | 6, hr => cases hr; cases hm
  | 7, hr => cases hr; cases hm
  | 8, hr =>
    cases hr
    rcases List.mem_cons.mp hm with h1 | h1
    · cases h1; exact ⟨rfl, rfl⟩
    · cases h1
  | 9, hr => cases hr; cases hm
  | 10, hr => cases hr; cases hm
  | 11, hr => cases hr; cases hm
  | 12, hr => cases hr; cases hm
  | 13, hr => cases hr; cases hm
  | 14, hr => cases hr; cases hm
  | 15, hr => cases hr; cases hm
  | n + 16, hr => cases hr
theorem px_wam : Cond.classLink (px_on 8) 9 "[[I" ∈ lw_tbl := px_at1_s (q := (5, 194)) (by decide +kernel)
/-- new T[n][k] of ints -/
theorem px_marr {idx pc : Nat} {n k : Int32} {lv : px_L} {r : List Value} {h : List px_E} {ls : Array Slot} (Z : px_Z s0 D tc sc xs) (J : px_J p l R s0 s m args meth c M fr lo) (I : px_I s0 s D tc sc xs H locs cells h) (hd : decode (px_cc M) pc = .ok (.multianewarray idx 2, 4)) (hl : lv_has ls (px_ml M) (lv.map (px_cq s0.heap.size sc)))
    (hq : px_as2 px_am (px_own M) idx = some 5) (hn : decide (n < 0) = false) (hk : decide (k < 0) = false) (hc1 : n.toNatClampNeg ≤ 1000) (hc2 : k.toNatClampNeg ≤ 1000) (hR : cells + (1 + n.toNatClampNeg) ≤ R.cells ∧ slots + (n.toNatClampNeg + n.toNatClampNeg * k.toNatClampNeg) ≤ R.slots) (kk : px_K p l e R s0 s m args below meth c cells slots Q D tc sc xs M (1 + n.toNatClampNeg, n.toNatClampNeg + n.toNatClampNeg * k.toNatClampNeg, .inl (pc + 4, lv, .ref h.length :: r, h ++ (.inl (5, .inr (.inr ((List.range n.toNatClampNeg).map fun j => some (h.length + 1 + j)))) :: List.replicate n.toNatClampNeg (.inl (0, .inl (List.replicate k.toNatClampNeg 0))))))) :
    W p l e R s m args below meth c H locs cells slots Q (F0 m pc ls ((Value.int k :: Value.int n :: r).map (px_cv s0.heap.size sc))) := by
  obtain ⟨hx, hb, -, hown, hts, hU, -⟩ := J
  have hK : va_K D px_cl (tc.zip px_tys) s := Z.2.1.moved hU.1.alike
  obtain ⟨ho, rfl⟩ := px_am_s hq
  rw [ho] at hown
  intro T hT X
  subst hT
  obtain ⟨vm₁, cA, comp, hW, hfA, hfC, X1, st⟩ := px_mna X hx hown (hts _ (px_good_in px_wam rfl)) (Z.2.2.2.2.2.2.2.2.2.2 _ _ hU.1) (hts _ (px_good_in px_awI rfl))
    (g := F0 m pc ls ((Value.int k :: Value.int n :: r).map (px_cv s0.heap.size sc))) rfl (by rw [hb]; exact hd) rfl (of_decide_eq_false hn) (of_decide_eq_false hk) hc1 hc2 hR.1 hR.2
  have hcA : cA = tc.getD 5 0 := Option.some.inj (hfA.symm.trans (hK.2 5 _ (px_tys_at Z.1 (ty := .array .int) rfl)).2)
  have hcC : comp = tc.getD 0 0 := Option.some.inj (hfC.symm.trans (hK.2 0 _ (px_tys_at Z.1 (ty := .int) rfl)).2)
  obtain ⟨-, f1, -, f2, fo, fi⟩ := px_mS_is (T.setVm vm₁) cA comp n.toNatClampNeg k.toNatClampNeg n.toNatClampNeg
  generalize hH1 : (px_mS (T.setVm vm₁) cA comp n.toNatClampNeg k.toNatClampNeg n.toNatClampNeg).heap = H1 at f1 f2 fo fi
  have hsz : T.heap.size = s0.heap.size + h.length := I.1.2
  have f1' : H1.size = T.heap.size + 1 + n.toNatClampNeg := f1
  have hI2 : px_I s0 s D tc sc xs H1 locs (cells + (1 + n.toNatClampNeg)) (h ++ (.inl (5, .inr (.inr ((List.range n.toNatClampNeg).map fun j => some (h.length + 1 + j)))) :: List.replicate n.toNatClampNeg (.inl (0, .inl (List.replicate k.toNatClampNeg 0))))) := by
    refine ⟨⟨fun i q hq => ?_, ?_⟩, ?_, ?_, fun q h1 h2 => ?_, I.2.2.2.2⟩
    · obtain ⟨el, he, rfl⟩ := px_wd_of hq
      by_cases hi : i < h.length
      · rw [List.getElem?_append_left hi] at he
        exact (I.1.1 _ _ (px_wd_get he)).kept (fo _ (by show s0.heap.size + i < _; omega))
      · rw [List.getElem?_append_right (by omega)] at he
        obtain ⟨j, hj⟩ : ∃ j, i = h.length + j := ⟨i - h.length, by omega⟩
        subst hj
        rw [Nat.add_sub_cancel_left] at he
        cases j with
        | zero =>
          cases he
          show H1[s0.heap.size + (h.length + 0)]? = some (vp_cell (tc.getD 5 0) _)
          rw [vp_cell_q, ← hcA, Nat.add_zero, ← hsz]
          refine (show H1[T.heap.size]? = _ from f2).trans (congrArg some ?_)
          show arrV cA n.toNatClampNeg _ = arrV cA ((List.range n.toNatClampNeg).map fun j => some (h.length + 1 + j)).length _
          rw [List.length_map, List.length_range]
          unfold arrV
          refine congrArg (fun z => ({ cls := cA, slots := z, vm := .none } : Cell)) (congrArg Array.ofFn (funext fun j => ?_))
          refine (if_pos j.isLt).trans ?_
          show _ = va_rf (Option.map (fun k => s0.heap.size + k) (((List.range n.toNatClampNeg).map fun j => some (h.length + 1 + j)).getD j.val none))
          rw [List.getD_eq_getElem?_getD, List.getElem?_map, List.getElem?_range j.isLt]
          show Value.ref (T.heap.size + 1 + j.val) = Value.ref (s0.heap.size + (h.length + 1 + j.val))
          rw [hsz]
          exact congrArg Value.ref (show s0.heap.size + h.length + 1 + j.val = s0.heap.size + (h.length + 1 + j.val) by omega)
        | succ j =>
          rw [List.getElem?_cons_succ] at he
          have hjl : j < n.toNatClampNeg := by
            have h9 := (List.getElem?_eq_some_iff.mp he).1
            rw [List.length_replicate] at h9
            exact h9
          rw [List.getElem?_replicate, if_pos hjl] at he
          cases he
          show H1[s0.heap.size + (h.length + (j + 1))]? = some (vp_cell (tc.getD 0 0) _)
          rw [vp_cell_i, ← hcC, List.length_replicate, show s0.heap.size + (h.length + (j + 1)) = T.heap.size + 1 + j by omega]
          refine (show H1[T.heap.size + 1 + j]? = _ from fi j hjl).trans (congrArg some ?_)
          refine congrArg (arrV comp k.toNatClampNeg) (funext fun j => ?_)
          rw [px_replD]
          first | done | rfl
    · rw [f1', List.length_append, List.length_cons, List.length_replicate]
      omega
    · have h9 := I.2.1
      omega
    · have h9 := I.2.2.1
      omega
    · exact (fo q (Nat.lt_of_lt_of_le h1 I.2.2.1)).trans (I.2.2.2.1 q h1 h2)
  have X2 : Stand p l e R s m args below meth c (px_mS (T.setVm vm₁) cA comp n.toNatClampNeg k.toNatClampNeg n.toNatClampNeg) locs (cells + (1 + n.toNatClampNeg)) (slots + (n.toNatClampNeg + n.toNatClampNeg * k.toNatClampNeg)) := by
    rw [← Nat.add_assoc, ← Nat.add_assoc]
    refine X1.dropFresh fun x hx => ?_
    obtain ⟨j, -, rfl⟩ := List.mem_map.mp hx
    show s.heap.size ≤ T.heap.size
    have h9 := I.2.1
    omega
  obtain ⟨t, a1, b1⟩ := kk _ _ _ _ H1 locs ls rfl hI2 hl _ hH1 X2
  refine ⟨t, st t ?_, b1⟩
  rw [hsz]
  exact a1
theorem px_ps_s {st : List Value} {f : List Value → px_Nx} {g : px_Nx} {z : Nat × Nat × (px_St ⊕ px_Re)} (h : px_ps st f g = some z) : (∃ a r, st = .retAddr a :: r ∧ f r = some z) ∨ g = some z := by
  unfold px_ps at h
  split at h
  · exact Or.inl ⟨_, _, rfl, h⟩
  · exact Or.inr h
theorem px_script (Z : px_Z s0 D tc sc xs) (hU : px_U s0 s) (hge : s0.heap.size ≤ s.heap.size) : va_X sc xs.length (fun j => xs.getD j 0) s s.heap ∧ sc < s.heap.size ∧ ¬ s0.heap.size ≤ sc := by
  obtain ⟨hX, hlt, -⟩ := Z.2.2.2.2.2.2.2.2
  exact ⟨(hX.kept (hU.2 sc hlt)).moved hU.1.alike, Nat.lt_of_lt_of_le hlt hge, Nat.not_le.mpr hlt⟩
theorem px_g3_ok {len pc : Nat} {ins : Instr} {lv : px_L} {st : List Value} {h : List px_E} {ls : Array Slot} {z : Nat × Nat × (px_St ⊕ px_Re)} (Z : px_Z s0 D tc sc xs) (J : px_J p l R s0 s m args meth c M fr lo) (I : px_I s0 s D tc sc xs H locs cells h) (hd : decode (px_cc M) pc = .ok (ins, len)) (hg : px_g3 (some xs) M fr lo ins len pc lv st h = some z) (hl : lv_has ls (px_ml M) (lv.map (px_cq s0.heap.size sc)))
    (hR : cells + z.1 ≤ R.cells ∧ slots + z.2.1 ≤ R.slots) (kk : px_K p l e R s0 s m args below meth c cells slots Q D tc sc xs M z) :
    W p l e R s m args below meth c H locs cells slots Q (F0 m pc ls (st.map (px_cv s0.heap.size sc))) := by
  have J0 := J
  obtain ⟨hx, hb, hml, hown, hts, hU, hge, hst, hini, hret, hlk, htab, hdec, hfr2, hlo2⟩ := J
  have hK : va_K D px_cl (tc.zip px_tys) s := Z.2.1.moved hU.1.alike
  cases ins with
  | getfield idx =>
    obtain ⟨hlen, hg1⟩ := px_ck_s hg
    cases px_beq hlen
    obtain ⟨a, r, rfl, hg2⟩ := px_pr_s hg1
    obtain ⟨q, hq, hg3⟩ := px_wt_s hg2
    obtain ⟨ci, fs, ha, hg4⟩ := px_ob_s hg3
    obtain ⟨hci, hg5⟩ := px_ck_s hg4
    obtain ⟨v, hv, hg6⟩ := px_wt_s hg5
    obtain rfl := Option.some.inj hg6
    exact px_getf (len := 3) Z J0 I hd hl hq ha (px_beq hci) hv kk
  | putfield idx =>
    obtain ⟨hlen, hg1⟩ := px_ck_s hg
    cases px_beq hlen
    obtain ⟨v, r, rfl, hg2⟩ := px_pv_s hg1
    obtain ⟨a, r, rfl, hg3⟩ := px_pr_s hg2
    obtain ⟨q, hq, hg4⟩ := px_wt_s hg3
    obtain ⟨ci, fs, ha, hg5⟩ := px_ob_s hg4
    obtain ⟨hci, hg6⟩ := px_ck_s hg5
    obtain ⟨d, hdd, hg7⟩ := px_wt_s hg6
    obtain ⟨ty, hty, hg8⟩ := px_wt_s hg7
    obtain ⟨hfi, hg9⟩ := px_ck_s hg8
    obtain ⟨hlt, hg10⟩ := px_ck_s hg9
    obtain ⟨hfin, hg11⟩ := px_ck_s hg10
    obtain rfl := Option.some.inj hg11
    exact px_putf (len := 3) Z J0 I hd hl hq ha (px_beq hci) hdd hty hfi (px_blt hlt) hfin kk
  | iaload =>
    obtain ⟨hlen, hg1⟩ := px_ck_s hg
    cases px_beq hlen
    obtain ⟨i, r, rfl, hg2⟩ := px_pi_s hg1
    rcases px_ps_s hg2 with ⟨a, r2, rfl, hg3⟩ | hg2
    · obtain ⟨hin, hg4⟩ := px_ck_s hg3
      obtain rfl := Option.some.inj hg4
      obtain ⟨hX, hlt, hnA⟩ := px_script Z hU hge
      exact va_sld hx hb hX hlt hnA I.2.2 (px_in_s hin).1 hd (kk _ _ _ _ H locs ls rfl I hl)
    · obtain ⟨a, r, rfl, hg3⟩ := px_pr_s hg2
      obtain ⟨t, x, ha, hg4⟩ := px_at_s hg3
      obtain ⟨ht, hg5⟩ := px_ck_s hg4
      obtain ⟨g, rfl, hg6⟩ := px_ai_s hg5
      obtain ⟨hin, hg7⟩ := px_ck_s hg6
      obtain rfl := Option.some.inj hg7
      exact va_iald hx hb hK I.1.1 a t (px_wd_get ha) (px_tys_at Z.1 (px_isT_s ht)) (px_in_s hin).1 hd (kk _ _ _ _ H locs ls rfl I hl)
  | baload =>
    obtain ⟨hlen, hg1⟩ := px_ck_s hg
    cases px_beq hlen
    obtain ⟨i, r, rfl, hg2⟩ := px_pi_s hg1
    obtain ⟨a, r, rfl, hg3⟩ := px_pr_s hg2
    obtain ⟨t, x, ha, hg4⟩ := px_at_s hg3
    obtain ⟨ht, hg5⟩ := px_ck_s hg4
    obtain ⟨g, rfl, hg6⟩ := px_ai_s hg5
    obtain ⟨hin, hg7⟩ := px_ck_s hg6
    obtain rfl := Option.some.inj hg7
    exact va_zald hx hb hK I.1.1 a t (px_wd_get ha) (px_tys_at Z.1 (px_isT_s ht)) (px_in_s hin).1 hd (kk _ _ _ _ H locs ls rfl I hl)
  | laload =>
    obtain ⟨hlen, hg1⟩ := px_ck_s hg
    cases px_beq hlen
    obtain ⟨i, r, rfl, hg2⟩ := px_pi_s hg1
    obtain ⟨a, r, rfl, hg3⟩ := px_pr_s hg2
    obtain ⟨t, x, ha, hg4⟩ := px_at_s hg3
    obtain ⟨ht, hg5⟩ := px_ck_s hg4
    obtain ⟨g, rfl, hg6⟩ := px_al_s hg5
    obtain ⟨hin, hg7⟩ := px_ck_s hg6
    obtain rfl := Option.some.inj hg7
    exact va_lald hx hb hK I.1.1 a t (px_wd_get ha) (px_tys_at Z.1 (px_isT_s ht)) (px_in_s hin).1 hd (kk _ _ _ _ H locs ls rfl I hl)
  | iastore =>
    obtain ⟨hlen, hg1⟩ := px_ck_s hg
    cases px_beq hlen
    obtain ⟨v, r, rfl, hg2⟩ := px_pi_s hg1
    obtain ⟨i, r, rfl, hg3⟩ := px_pi_s hg2
    obtain ⟨a, r, rfl, hg4⟩ := px_pr_s hg3
    obtain ⟨t, x, ha, hg5⟩ := px_at_s hg4
    obtain ⟨ht, hg6⟩ := px_ck_s hg5
    obtain ⟨g, rfl, hg7⟩ := px_ai_s hg6
    obtain ⟨hin, hg8⟩ := px_ck_s hg7
    obtain rfl := Option.some.inj hg8
    have hal : a < h.length := (List.getElem?_eq_some_iff.mp ha).1
    refine va_iast hx hb hK I.1.1 px_wd_D I.2.2 a t (px_wd_get ha) (px_tys_at Z.1 (px_isT_s ht)) (px_in_s hin).1 hd fun H1 locs1 hP1 hD1 hS1 => px_bound fun hsz => ?_
    exact kk _ _ _ _ H1 locs1 ls rfl (px_I_set I hal (px_we_i (px_in_s hin).2) hP1 hS1 (px_same I hal hP1 hsz)) hl
  | bastore =>
    obtain ⟨hlen, hg1⟩ := px_ck_s hg
    cases px_beq hlen
    obtain ⟨v, r, rfl, hg2⟩ := px_pi_s hg1
    obtain ⟨i, r, rfl, hg3⟩ := px_pi_s hg2
    obtain ⟨a, r, rfl, hg4⟩ := px_pr_s hg3
    obtain ⟨t, x, ha, hg5⟩ := px_at_s hg4
    obtain ⟨ht, hg6⟩ := px_ck_s hg5
    obtain ⟨hfi, hg7⟩ := px_ck_s hg6
    obtain ⟨g, rfl, hg8⟩ := px_ai_s hg7
    obtain ⟨hin, hg9⟩ := px_ck_s hg8
    obtain rfl := Option.some.inj hg9
    have hal : a < h.length := (List.getElem?_eq_some_iff.mp ha).1
    refine va_zast hx hb hK I.1.1 px_wd_D I.2.2 a t (px_wd_get ha) (px_tys_at Z.1 (px_isT_s ht)) (px_in_s hin).1 hd fun H1 locs1 hP1 hD1 hS1 => px_bound fun hsz => ?_
    rw [px_nar_s hfi] at hP1
    exact kk _ _ _ _ H1 locs1 ls rfl (px_I_set I hal (px_we_i (px_in_s hin).2) hP1 hS1 (px_same I hal hP1 hsz)) hl
  | lastore =>
    obtain ⟨hlen, hg1⟩ := px_ck_s hg
    cases px_beq hlen
    obtain ⟨v, r, rfl, hg2⟩ := px_pl_s hg1
    obtain ⟨i, r, rfl, hg3⟩ := px_pi_s hg2
    obtain ⟨a, r, rfl, hg4⟩ := px_pr_s hg3
    obtain ⟨t, x, ha, hg5⟩ := px_at_s hg4
    obtain ⟨ht, hg6⟩ := px_ck_s hg5
    obtain ⟨g, rfl, hg7⟩ := px_al_s hg6
    obtain ⟨hin, hg8⟩ := px_ck_s hg7
    obtain rfl := Option.some.inj hg8
    have hal : a < h.length := (List.getElem?_eq_some_iff.mp ha).1
    refine va_last hx hb hK I.1.1 px_wd_D I.2.2 a t (px_wd_get ha) (px_tys_at Z.1 (px_isT_s ht)) (px_in_s hin).1 hd fun H1 locs1 hP1 hD1 hS1 => px_bound fun hsz => ?_
    exact kk _ _ _ _ H1 locs1 ls rfl (px_I_set I hal (px_we_l (px_in_s hin).2) hP1 hS1 (px_same I hal hP1 hsz)) hl
  | aaload =>
    obtain ⟨hlen, hg1⟩ := px_ck_s hg
    cases px_beq hlen
    obtain ⟨i, r, rfl, hg2⟩ := px_pi_s hg1
    obtain ⟨a, r, rfl, hg3⟩ := px_pr_s hg2
    obtain ⟨t, x, ha, hg4⟩ := px_at_s hg3
    obtain ⟨te, hte, hg5⟩ := px_wt_s hg4
    obtain ⟨g, rfl, hg6⟩ := px_aq_s hg5
    obtain ⟨hin, hg7⟩ := px_ck_s hg6
    obtain rfl := Option.some.inj hg7
    obtain ⟨rc, c1, c2⟩ := px_tec_s hte
    have k2 := kk _ _ _ _ H locs ls rfl I hl
    rw [List.map_cons, ← px_rv_s] at k2
    exact va_aldq hx hb hK I.1.1 a t (px_wd_get ha) (px_tys_at Z.1 c2) (px_in_s hin).1 hd k2
  | aastore =>
    obtain ⟨hlen, hg1⟩ := px_ck_s hg
    cases px_beq hlen
    obtain ⟨v, r, rfl, hg2⟩ := px_pr_s hg1
    obtain ⟨i, r, rfl, hg3⟩ := px_pi_s hg2
    obtain ⟨a, r, rfl, hg4⟩ := px_pr_s hg3
    obtain ⟨t, x, ha, hg5⟩ := px_at_s hg4
    obtain ⟨te, hte, hg6⟩ := px_wt_s hg5
    obtain ⟨ci, vs, hv, hg7⟩ := px_ob_s hg6
    obtain ⟨hci, hg8⟩ := px_ck_s hg7
    obtain ⟨g, rfl, hg9⟩ := px_aq_s hg8
    obtain ⟨hin, hg10⟩ := px_ck_s hg9
    obtain rfl := Option.some.inj hg10
    cases px_beq hci
    obtain ⟨rc, c1, c2⟩ := px_tec_s hte
    have hal : a < h.length := (List.getElem?_eq_some_iff.mp ha).1
    refine va_astq hx hb hK I.1.1 px_wd_D I.2.2 a t v te (px_wd_get ha) (px_tys_at Z.1 c2) (px_wd_get hv) c1 (px_in_s hin).1 hd fun H1 locs1 hP1 hD1 hS1 => px_bound fun hsz => ?_
    exact kk _ _ _ _ H1 locs1 ls rfl (px_I_set I hal (px_we_q (px_in_s hin).2) hP1 hS1 (px_same I hal hP1 hsz)) hl
  | arraylength =>
    obtain ⟨hlen, hg1⟩ := px_ck_s hg
    cases px_beq hlen
    rcases px_ps_s hg1 with ⟨a, r2, rfl, hg3⟩ | hg2
    · obtain rfl := Option.some.inj hg3
      obtain ⟨hX, hlt, hnA⟩ := px_script Z hU hge
      exact va_slen hx hb hX hlt hnA I.2.2 hd (kk _ _ _ _ H locs ls rfl I hl)
    · obtain ⟨a, r, rfl, hg3⟩ := px_pr_s hg2
      obtain ⟨t, x, ha, hg4⟩ := px_at_s hg3
      obtain ⟨ty, hty, hg5⟩ := px_wt_s hg4
      obtain rfl := Option.some.inj hg5
      rcases x with g | g | g
      · exact va_alen hx hb hK I.1.1 a t (px_wd_get ha) (px_tys_at Z.1 hty) rfl hd (kk _ _ _ _ H locs ls rfl I hl)
      · exact va_alen hx hb hK I.1.1 a t (px_wd_get ha) (px_tys_at Z.1 hty) rfl hd (kk _ _ _ _ H locs ls rfl I hl)
      · exact va_alen hx hb hK I.1.1 a t (px_wd_get ha) (px_tys_at Z.1 hty) rfl hd (kk _ _ _ _ H locs ls rfl I hl)
  | newarray at0 =>
    cases at0 with
    | int =>
      obtain ⟨hlen, hg1⟩ := px_ck_s hg
      cases px_beq hlen
      obtain ⟨n, r, rfl, hg2⟩ := px_pi_s hg1
      obtain ⟨hn, hg3⟩ := px_ck_s hg2
      obtain ⟨hc, hg4⟩ := px_ck_s hg3
      obtain rfl := Option.some.inj hg4
      have hc2 := px_ble hc
      refine px_newa (ty := .int) Z J0 I hd hl px_awI rfl (fun cA h => h) rfl (by simpa using hn) (by show n.toNatClampNeg * 4 ≤ _; omega) (fun _ _ => trivial) ⟨_, rfl, fun cA => ?_⟩ hR kk
      rw [vp_cell_i, List.length_replicate]
      refine congrArg _ (funext fun j => ?_)
      rw [px_replD]
      rfl
    | boolean =>
      obtain ⟨hlen, hg1⟩ := px_ck_s hg
      cases px_beq hlen
      obtain ⟨n, r, rfl, hg2⟩ := px_pi_s hg1
      obtain ⟨hn, hg3⟩ := px_ck_s hg2
      obtain ⟨hc, hg4⟩ := px_ck_s hg3
      obtain rfl := Option.some.inj hg4
      have hc2 := px_ble hc
      refine px_newa (ty := .boolean) Z J0 I hd hl px_awZ rfl (fun cA h => h) rfl (by simpa using hn) (by show n.toNatClampNeg * 1 ≤ _; omega) (fun _ _ => trivial) ⟨_, rfl, fun cA => ?_⟩ hR kk
      rw [vp_cell_i, List.length_replicate]
      refine congrArg _ (funext fun j => ?_)
      rw [px_replD]
      rfl
    | long =>
      obtain ⟨hlen, hg1⟩ := px_ck_s hg
      cases px_beq hlen
      obtain ⟨n, r, rfl, hg2⟩ := px_pi_s hg1
      obtain ⟨hn, hg3⟩ := px_ck_s hg2
      obtain ⟨hc, hg4⟩ := px_ck_s hg3
      obtain rfl := Option.some.inj hg4
      have hc2 := px_ble hc
      refine px_newa (ty := .long) Z J0 I hd hl px_awJ rfl (fun cA h => h) rfl (by simpa using hn) (by show n.toNatClampNeg * 8 ≤ _; omega) (fun _ _ => trivial) ⟨_, rfl, fun cA => ?_⟩ hR kk
      rw [vp_cell_l, List.length_replicate]
      refine congrArg _ (funext fun j => ?_)
      rw [px_replD]
      rfl
    | _ => exact (px_no hg).elim
  | anewarray idx =>
    obtain ⟨hlen, hg1⟩ := px_ck_s hg
    cases px_beq hlen
    obtain ⟨n, r, rfl, hg2⟩ := px_pi_s hg1
    obtain ⟨t, ht, hg3⟩ := px_wt_s hg2
    obtain ⟨hn, hg4⟩ := px_ck_s hg3
    obtain ⟨hc, hg5⟩ := px_ck_s hg4
    obtain rfl := Option.some.inj hg5
    exact px_newq Z J0 I hd hl ht (by simpa using hn) (px_ble hc) hR kk
  | new idx =>
    obtain ⟨hlen, hg1⟩ := px_ck_s hg
    cases px_beq hlen
    obtain ⟨q, hq, hg2⟩ := px_wt_s hg1
    cases hf : q.2 with
    | true =>
      rw [hf, cond_true] at hg2
      obtain ⟨hfr, hg3⟩ := px_ck_s hg2
      obtain ⟨hlo, hg4⟩ := px_ck_s hg3
      obtain ⟨i3, hi3, hg5⟩ := px_wt_s hg4
      obtain ⟨i4, hi4, hg6⟩ := px_wt_s hg5
      obtain ⟨h3, hg7⟩ := px_ck_s hg6
      have h3 := of_decide_eq_true h3
      subst h3
      rcases px_or_s hg7 with hg7 | hg7
      · obtain ⟨is, his, hg8⟩ := px_wt_s hg7
        obtain ⟨i6, hi6, hg9⟩ := px_wt_s hg8
        obtain ⟨hs, hg10⟩ := px_ck_s hg9
        obtain ⟨ic, hic, hg11⟩ := px_wt_s hg10
        obtain ⟨hxi, hg12⟩ := px_ck_s hg11
        obtain rfl := Option.some.inj hg12
        have h4 := px_ldx_s his
        have h6 := px_isx_s hic
        subst h4
        subst h6
        exact px_newx Z J0 I hd hl hq hf (hdec _ _ _ hi3) (hdec _ _ _ hi4) (hdec _ _ _ hi6) hs (of_decide_eq_true hxi) (px_blt hfr) (px_ble hlo) hR kk
      · obtain ⟨is, his, hg8⟩ := px_wt_s hg7
        obtain ⟨i6, hi6, hg9⟩ := px_wt_s hg8
        obtain ⟨hs, hg10⟩ := px_ck_s hg9
        obtain ⟨ic, hic, hg11⟩ := px_wt_s hg10
        obtain ⟨hxi, hg12⟩ := px_ck_s hg11
        obtain rfl := Option.some.inj hg12
        have h4 := px_ldw_s his
        have h6 := px_isx_s hic
        subst h4
        subst h6
        exact px_newxw Z J0 I hd hl hq hf (hdec _ _ _ hi3) (hdec _ _ _ hi4) (hdec _ _ _ hi6) hs (of_decide_eq_true hxi) (px_blt hfr) (px_ble hlo) hR kk
    | false =>
      rw [hf, cond_false] at hg2
      obtain ⟨d, hdd, hg3⟩ := px_wt_s hg2
      obtain rfl := Option.some.inj hg3
      exact px_newo Z J0 I hd hl hq hf hdd hR kk
  | ldc2_w idx =>
    obtain ⟨hlen, hg1⟩ := px_ck_s hg
    cases px_beq hlen
    obtain ⟨x, hq, hg2⟩ := px_wt_s hg1
    obtain rfl := Option.some.inj hg2
    have hw := px_tab px_kl_ok hq
    unfold px_okK at hw
    split at hw
    · exact lv_ldc2 hx hb hown (hts _ (px_good_in (px_ats_s hw _ List.mem_cons_self) rfl)) hd (kk _ _ _ _ H locs ls rfl I hl)
    · cases hw
  | ldc idx =>
    obtain ⟨hlen, hg1⟩ := px_ck_s hg
    cases px_beq hlen
    obtain ⟨x, hq, hg2⟩ := px_wt_s hg1
    obtain rfl := Option.some.inj hg2
    have hw := px_tab px_ki_ok hq
    unfold px_okI at hw
    split at hw
    · exact lv_ldc hx hb hown (hts _ (px_good_in (px_ats_s hw _ List.mem_cons_self) rfl)) hd (kk _ _ _ _ H locs ls rfl I hl)
    · cases hw
  | multianewarray idx dm =>
    match dm, hd, hg with
    | 2, hd, hg =>
      obtain ⟨hlen, hg1⟩ := px_ck_s hg
      cases px_beq hlen
      obtain ⟨k, r, rfl, hg2⟩ := px_pi_s hg1
      obtain ⟨n, r, rfl, hg3⟩ := px_pi_s hg2
      obtain ⟨t, ht, hg4⟩ := px_wt_s hg3
      obtain ⟨ht5, hg5⟩ := px_ck_s hg4
      obtain ⟨hn, hg6⟩ := px_ck_s hg5
      obtain ⟨hk, hg7⟩ := px_ck_s hg6
      obtain ⟨hc1, hg8⟩ := px_ck_s hg7
      obtain ⟨hc2, hg9⟩ := px_ck_s hg8
      obtain rfl := Option.some.inj hg9
      cases px_beq ht5
      exact px_marr Z J0 I hd hl ht (by simpa using hn) (by simpa using hk) (px_ble hc1) (px_ble hc2) hR kk
    | 0, hd, hg => exact (px_no hg).elim
    | 1, hd, hg => exact (px_no hg).elim
    | n + 3, hd, hg => exact (px_no hg).elim
  | _ => exact (px_no hg).elim
end PXS3
