/-! new T[n][k] OF INTS: the machine's walk over the narrow library -/
section PXMN
variable {p : Program} {l : Launch} {e : Env} {R : Room} {s : State} {m : MethodId} {args : Array Value} {below : List Frame} {meth : Method} {c : Code} {T : State} {locs : List Loc} {cells slots : Nat}
theorem px_ao2_alike {t : FieldType} {a a' : Array Value} {U U' : State} (hal : U.vm.Alike U'.vm) (h : (Cond.arrayOver (.array t)).before a U = true) :
    (Cond.arrayOver (.array t)).before a' U' = true := by
  simp only [Cond.before, Cond.holds, Cond.value] at h ⊢
  rw [hal.findClass]
  cases hf : U.vm.findClass (FieldType.array t).toString with
  | none => rw [hf] at h; simp at h
  | some comp =>
    rw [hf] at h
    simp only [Option.bind_some] at h ⊢
    rw [hal.findIdx_congr _ (fun _ _ _ _ => rfl)]
    generalize hF : (U.vm.classes.findIdx? fun (x : Class) => match x.kind with | .array component _ => component == comp | _ => false) = fi at h ⊢
    cases fi with
    | none => simp at h
    | some c =>
      simp only [Option.bind_some] at h ⊢
      cases hk : U.vm.classes[c]? with
      | none => rw [hk] at h; simp at h
      | some k =>
        obtain ⟨k', hk', ek⟩ := hal.2.2 _ _ hk
        rw [hk] at h
        rw [hk', hal.findClass]
        have ekind : k'.kind = k.kind := by rw [ek]
        simp only [Option.map_some] at h ⊢
        rw [ekind]
        exact h
/-- the rows' row, i of them laid -/
def px_mo (q : ClassId) (N h i : Nat) : Cell := arrV q N fun j => if j < i then .ref (h + 1 + j) else .null
theorem px_mo0 (q : ClassId) (N h : Nat) : px_mo q N h 0 = arrV q N fun _ => .null :=
  congrArg (arrV q N) (funext fun j => if_neg (Nat.not_lt_zero j))
theorem px_mo_set (q : ClassId) (N h i : Nat) : (px_mo q N h i).setSlot i (.ref (h + 1 + i)) = px_mo q N h (i + 1) := by
  unfold px_mo arrV Cell.setSlot
  refine congrArg (fun z => ({ cls := q, slots := z, vm := .none } : Cell)) (Array.ext_getElem? fun j => ?_)
  rw [Array.getElem?_setIfInBounds]
  simp only [Array.getElem?_ofFn, Array.size_ofFn]
  by_cases hj : i = j
  · subst hj
    rw [if_pos rfl]
    by_cases hN : i < N
    · rw [dif_pos hN, if_pos hN, if_pos (Nat.lt_succ_self i)]
    · rw [dif_neg hN, if_neg hN]
  · rw [if_neg hj]
    by_cases hN : j < N
    · rw [dif_pos hN, dif_pos hN]
      by_cases hji : j < i
      · rw [if_pos hji, if_pos (by omega)]
      · rw [if_neg hji, if_neg (by omega)]
    · rw [dif_neg hN, dif_neg hN]
/-- the state with i rows laid -/
def px_mS (T : State) (ca cb : ClassId) (N K : Nat) : Nat → State
  | 0 => T.pushCell (px_mo ca N T.heap.size 0)
  | i + 1 => ((px_mS T ca cb N K i).pushCell (arrV cb K fun _ => .int 0)).setCell T.heap.size (px_mo ca N T.heap.size (i + 1))
theorem px_mS_top (T : State) (f : JFrame) (ca cb : ClassId) (N K : Nat) : ∀ i, px_mS (T.setTop f) ca cb N K i = (px_mS T ca cb N K i).setTop f
  | 0 => rfl
  | i + 1 => by
    show ((px_mS (T.setTop f) ca cb N K i).pushCell _).setCell _ _ = _
    rw [px_mS_top T f ca cb N K i]
    rfl
/-- all that is so of it -/
theorem px_mS_is (T : State) (ca cb : ClassId) (N K : Nat) : ∀ i, (px_mS T ca cb N K i).vm = T.vm ∧ (px_mS T ca cb N K i).heap.size = T.heap.size + 1 + i ∧ (px_mS T ca cb N K i).slotsUsed = T.slotsUsed + N + i * K ∧
    (px_mS T ca cb N K i).heap[T.heap.size]? = some (px_mo ca N T.heap.size i) ∧ (∀ a : Nat, a < T.heap.size → (px_mS T ca cb N K i).heap[a]? = T.heap[a]?) ∧ (∀ j : Nat, j < i → (px_mS T ca cb N K i).heap[T.heap.size + 1 + j]? = some (arrV cb K fun _ => .int 0))
  | 0 => by
    refine ⟨rfl, by simp [px_mS], by simp [px_mS, px_mo, arrV_size], State.heap_pushCell_size _ _, fun a ha => State.heap_pushCell_of_lt _ _ ha, fun j hj => absurd hj (Nat.not_lt_zero j)⟩
  | i + 1 => by
    obtain ⟨i1, i2, i3, i4, i5, i6⟩ := px_mS_is T ca cb N K i
    have lt : ∀ a : Nat, a < T.heap.size + 1 + i → a < (px_mS T ca cb N K i).heap.size := fun a ha => by rw [i2]; exact ha
    have h0 : ((px_mS T ca cb N K i).pushCell (arrV cb K fun _ => .int 0)).heap[T.heap.size]? = some (px_mo ca N T.heap.size i) := by
      rw [State.heap_pushCell_of_lt (h := lt _ (by omega))]; exact i4
    refine ⟨i1, ?_, ?_, State.heap_setCell_self h0, fun a ha => ?_, fun j hj => ?_⟩
    · simp [px_mS, State.setCell, i2]; omega
    · simp [px_mS, i3, arrV_size, Nat.succ_mul]; omega
    · show (((px_mS T ca cb N K i).pushCell _).setCell T.heap.size _).heap[a]? = _
      rw [State.heap_setCell_other (show T.heap.size ≠ a by omega), State.heap_pushCell_of_lt (h := lt _ (by omega))]
      exact i5 a ha
    · show (((px_mS T ca cb N K i).pushCell _).setCell T.heap.size _).heap[T.heap.size + 1 + j]? = _
      rw [State.heap_setCell_other (show T.heap.size ≠ T.heap.size + 1 + j by omega)]
      by_cases e : j = i
      · subst e
        rw [← i2]
        exact State.heap_pushCell_size _ _
      · rw [State.heap_pushCell_of_lt (h := lt _ (by omega))]
        exact i6 j (by omega)
theorem px_mS_stand (X : Stand p l e R s m args below meth c T locs cells slots) (ca cb : ClassId) (N K : Nat) :
    ∀ i, Stand p l e R s m args below meth c (px_mS T ca cb N K i) (locs ++ (List.range i).map fun j => ⟨T.heap.size, j⟩) (cells + 1 + i) (slots + N + i * K)
  | 0 => by
    have h := X.pushed (px_mo ca N T.heap.size 0)
    rw [show (px_mo ca N T.heap.size 0).slots.size = N from arrV_size ..] at h
    rw [List.range_zero, List.map_nil, List.append_nil, Nat.zero_mul]
    exact h
  | i + 1 => by
    have h := (px_mS_stand X ca cb N K i).pushed (arrV cb K fun _ => .int 0)
    obtain ⟨-, i2, -, i4, -, -⟩ := px_mS_is T ca cb N K i
    have hlt : T.heap.size < (px_mS T ca cb N K i).heap.size := by rw [i2]; omega
    have h2 := h.stored (a := T.heap.size) (cell := px_mo ca N T.heap.size i) (by rw [State.heap_pushCell_of_lt (h := hlt)]; exact i4) i (.ref (T.heap.size + 1 + i))
    rw [px_mo_set, arrV_size, List.append_assoc] at h2
    rw [List.range_succ, List.map_append, Nat.succ_mul, ← Nat.add_assoc, ← Nat.add_assoc]
    exact h2
/-- one array of a default -/
theorem px_wna {E : CtlPost} {d : Bool} {acts : List Action} {s : State} {q co : ClassId} {k : Class} {ty : FieldType} {n : Nat} {v : Value} (hk : s.vm.classes[q]? = some k) (hkind : k.kind = .array co ty) (hl : ¬ n > e.platform.arrayLengthLimit) (hh : ¬ n * componentBytes ty > e.platform.maxHeapBytes)
    (hv : fits ty v = true) (hd : v.isDefault = true) {P : Addr → Pre} (h1 : s.heap.size < e.platform.maxCells) (h2 : s.slotsUsed + n ≤ e.platform.maxSlots) (hP : P s.heap.size d acts (s.pushCell (arrV q n fun _ => v))) : wp (Jvm.newArray q n v) P E e d acts s := by
  have hf : ∀ (i : Nat) (x : Value), (Array.replicate n v)[i]? = some x → s.fitsSlot q .none i x = true := fun i x hx => by
    rw [Array.getElem?_replicate] at hx
    split at hx
    · cases hx; simp [State.fitsSlot, State.slotType?, hk, hkind, hv]
    · cases hx
  have ha : allocActs (Array.replicate n v) s.heap.size acts = acts := by
    unfold allocActs
    rw [if_pos (by rw [Array.all_replicate]; split <;> simp [hd])]
  rw [← arrV_new] at hP
  simp only [Jvm.newArray, Jvm.arrayFits, wp_bind', W.ask, W.ite, hl, if_false, wp_pure', W.theClass, hk, hkind, hh, W.alloc, W.stop, Option.some.injEq, exists_eq_left', Array.size_replicate, ha]
  rw [if_neg (by omega)]
  exact ⟨h1, h2, hf, hP⟩
theorem px_range_cons {x i N : Nat} {r : List Nat} (h : x :: r = List.range' i (N - i)) : i < N ∧ x = i ∧ r = List.range' (i + 1) (N - (i + 1)) := by
  by_cases hi : i < N
  · rw [show N - i = (N - (i + 1)) + 1 by omega, List.range'_succ] at h
    exact ⟨hi, (List.cons.inj h).1, (List.cons.inj h).2⟩
  · rw [show N - i = 0 by omega] at h
    cases h
theorem px_range_nil {i N : Nat} (hi : i ≤ N) (h : [] = List.range' i (N - i)) : i = N := by
  by_cases hl : i < N
  · rw [show N - i = (N - (i + 1)) + 1 by omega, List.range'_succ] at h
    cases h
  · omega
/-- the whole of it -/
theorem px_wmk {E : CtlPost} {d : Bool} {acts : List Action} {s : State} {ca cb cc : ClassId} {k1 k2 : Class} {n k : Int32} (hk1 : s.vm.classes[ca]? = some k1) (hkind1 : k1.kind = .array cb (.array .int)) (hk2 : s.vm.classes[cb]? = some k2) (hkind2 : k2.kind = .array cc .int)
    (hn : ¬ n < 0) (hk : ¬ k < 0) (l1 : ¬ n.toNatClampNeg > e.platform.arrayLengthLimit) (h1 : ¬ n.toNatClampNeg * componentBytes (.array .int) > e.platform.maxHeapBytes) (l2 : ¬ k.toNatClampNeg > e.platform.arrayLengthLimit) (h2 : ¬ k.toNatClampNeg * componentBytes .int > e.platform.maxHeapBytes)
    (hc : s.heap.size + 1 + n.toNatClampNeg ≤ e.platform.maxCells) (hs : s.slotsUsed + n.toNatClampNeg + n.toNatClampNeg * k.toNatClampNeg ≤ e.platform.maxSlots) {P : Addr → Pre} (hP : ∀ d' acts', P s.heap.size d' acts' (px_mS s ca cb n.toNatClampNeg k.toNatClampNeg n.toNatClampNeg)) :
    wp (Op.multianewarray.make ca [n, k]) P E e d acts s := by
  have hz : ([k].find? (· < 0)) = none := by simp [hk]
  rw [Op.multianewarray.make]
  simp only [wp_bind', W.ite, hn, if_false, wp_pure', W.theClass, hk1, hkind1, Option.some.injEq, exists_eq_left']
  refine px_wna hk1 hkind1 l1 h1 rfl rfl (by omega) (by omega) ?_
  rw [← px_mo0 ca n.toNatClampNeg s.heap.size]
  simp only [hz]
  rw [ite_self, wp_bind', Std.Legacy.Range.forIn_eq_forIn_range', show ([:n.toNatClampNeg] : Std.Legacy.Range).size = n.toNatClampNeg by simp [Std.Legacy.Range.size]]
  show wp (forIn (List.range' 0 n.toNatClampNeg 1) PUnit.unit _) _ E e d acts _
  refine wp_forIn_inv (fun r s' => ∃ i, i ≤ n.toNatClampNeg ∧ r = List.range' i (n.toNatClampNeg - i) ∧ s' = px_mS s ca cb n.toNatClampNeg k.toNatClampNeg i) _ _ ⟨0, Nat.zero_le _, rfl, rfl⟩ ?_ ?_
  · rintro x r s' d' acts' P' ⟨i, -, hr, rfl⟩ hx
    obtain ⟨hi, rfl, hr2⟩ := px_range_cons hr
    obtain ⟨i1, i2, i3, i4, -, -⟩ := px_mS_is s ca cb n.toNatClampNeg k.toNatClampNeg x
    have hm : (x + 1) * k.toNatClampNeg ≤ n.toNatClampNeg * k.toNatClampNeg := Nat.mul_le_mul_right _ hi
    rw [Nat.succ_mul] at hm
    simp only [wp_bind']
    rw [Op.multianewarray.make]
    simp only [wp_bind', W.ite, hk, if_false, wp_pure', W.theClass, i1, hk2, hkind2, Option.some.injEq, exists_eq_left']
    refine px_wna (by rw [i1]; exact hk2) hkind2 l2 h2 rfl rfl (by rw [i2]; omega) (by rw [i3]; omega) ?_
    simp only [wp_bind', W.writeLoc, wp_pure']
    refine ⟨px_mo ca n.toNatClampNeg s.heap.size x, ?_, ?_, ?_, ?_, ?_⟩
    · have hlt : s.heap.size < (px_mS s ca cb n.toNatClampNeg k.toNatClampNeg x).heap.size := by rw [i2]; omega
      rw [State.heap_pushCell_of_lt (h := hlt)]
      exact i4
    · intro q
      cases q
    · exact Nat.lt_of_lt_of_eq hi (arrV_size ..).symm
    · simp [State.fitsSlot, State.slotType?, i1, hk1, hkind1, px_mo, arrV, fits]
    · refine hx _ _ _ ⟨x + 1, hi, hr2, ?_⟩
      rw [i2, px_mo_set]
      rfl
  · rintro s' d' acts' ⟨i, hi, hr, rfl⟩
    obtain rfl := px_range_nil hi hr
    simp only [wp_pure']
    exact hP _ _
theorem px_over2 {t : FieldType} (h : (Cond.arrayOver (.array t)).before args s = true) :
    ∃ co q k, s.vm.findClass (FieldType.array t).toString = some co ∧ s.vm.classes[q]? = some k ∧ k.kind = .array co (.array t) ∧ s.vm.findClass ("[" ++ (FieldType.array t).toString) = some q := by
  simp only [Cond.before, Cond.holds, Cond.value, beq_iff_eq] at h
  cases hc : s.vm.findClass (FieldType.array t).toString with
  | none => simp [hc] at h
  | some co =>
    simp only [hc, Option.bind_some, Option.bind_eq_some_iff, Option.map_eq_some_iff] at h
    obtain ⟨q, hi, k, hk, hb⟩ := h
    have hp := (Array.findIdx?_eq_some_iff_getElem.mp hi).2.1
    rw [(Array.getElem?_eq_some_iff.mp hk).2] at hp
    cases hkind : k.kind with
    | array c2 ty =>
      rw [hkind] at hb hp
      simp at hb hp
      exact ⟨co, q, k, rfl, hk, by rw [hkind, hp, hb.1], hb.2⟩
    | _ => rw [hkind] at hb; simp at hb
/-- new int[n][k], the machine's step -/
theorem px_mna (X : Stand p l e R s m args below meth c T locs cells slots) (hx : p.tables.exec = Jvm.exec) {own : String} {ix : Nat} (hown : s.vm.findClass own = some m.cls) (hlink : (Cond.classLink own ix "[[I").before args s = true)
    (hover : (Cond.arrayOver (.array .int)).before args s = true) (harr : (Cond.arrayClass .int).before args s = true) {g : JFrame} (hg : g.method = m) (hd : decode c.code g.pc = .ok (.multianewarray ix 2, 4)) {n k : Int32} {r : List Value} (hst : g.stack = .int k :: .int n :: r)
    (hn : ¬ n < 0) (hk : ¬ k < 0) (b1 : n.toNatClampNeg ≤ 1000) (b2 : k.toNatClampNeg ≤ 1000) (hcells : cells + (1 + n.toNatClampNeg) ≤ R.cells) (hslots : slots + (n.toNatClampNeg + n.toNatClampNeg * k.toNatClampNeg) ≤ R.slots) :
    ∃ (vm1 : Vm) (ca cb : ClassId), s.WarmedH vm1 ∧ s.vm.findClass "[[I" = some ca ∧ s.vm.findClass "[I" = some cb ∧
      Stand p l e R s m args below meth c (px_mS (T.setVm vm1) ca cb n.toNatClampNeg k.toNatClampNeg n.toNatClampNeg) (locs ++ (List.range n.toNatClampNeg).map fun j => ⟨T.heap.size, j⟩) (cells + 1 + n.toNatClampNeg) (slots + n.toNatClampNeg + n.toNatClampNeg * k.toNatClampNeg) ∧
      ∀ t, Steps p.tables e below ((px_mS (T.setVm vm1) ca cb n.toNatClampNeg k.toNatClampNeg n.toNatClampNeg).setTop { g with pc := g.pc + 4, stack := .ref T.heap.size :: r }) t → Steps p.tables e below (T.setTop g) t := by
  subst hg
  obtain ⟨cb, ca, ka, fb, ha, ka2, fa⟩ := px_over2 hover
  obtain ⟨cb', kb, cc, fb', hb, kb2⟩ := Cond.arrayClass_spec harr
  cases Option.some.inj (fb'.symm.trans fb)
  obtain ⟨q, fq, hcl⟩ := Cond.classLink_spec hown hlink e.platform (by rw [X.admits.platform])
  cases Option.some.inj (fa.symm.trans fq)
  obtain ⟨hgv, hW, -⟩ := State.classEntry (e := e) X.warmed hcl
  generalize T.vm.noted g.method.cls ix (.cls ca) = vm1 at hgv hW
  obtain ⟨ka', ha', ea⟩ := hW.alike.2.2 _ _ ha
  obtain ⟨kb', hb', eb⟩ := hW.alike.2.2 _ _ hb
  have XF := px_mS_stand (X.noted hW) ca cb n.toNatClampNeg k.toNatClampNeg n.toNatClampNeg
  obtain ⟨r1, r2⟩ := X.roomAbove hcells hslots
  have ll := Launch.admits_arrayLengthLimit X.admits
  have lh := Launch.admits_maxHeapBytes X.admits
  refine ⟨vm1, ca, cb, hW, fa, fb, XF, fun t ht => ?_⟩
  jvm_step X.here [hx, hd]
  simp only [Op.multianewarray.sem, wp_bind', W.resolveClassAt_links (State.method?_setTop g X.here.top) hgv]
  rw [W.popN, if_neg (by decide)]
  refine ⟨g, State.topJava?_setTop' (s := T.setVm vm1) g X.here.top, [.int n, .int k], r, rfl, hst, ?_⟩
  simp only [List.mapM_cons, List.mapM_nil, wp_bind', wp_pure']
  refine px_wmk (k1 := ka') (k2 := kb') (cb := cb) (cc := cc) ha' (by rw [ea]; exact ka2) hb' (by rw [eb]; exact kb2) hn hk (by rw [ll]; omega) (by rw [lh]; show ¬ n.toNatClampNeg * 4 > 536870912; omega) (by rw [ll]; omega) (by rw [lh]; show ¬ k.toNatClampNeg * 4 > 536870912; omega)
    (by show T.heap.size + 1 + _ ≤ _; omega) (by show T.slotsUsed + _ + _ ≤ _; omega) (fun d' acts' => ?_)
  rw [show ((T.setTop g).setVm vm1).setTop { g with stack := r } = (T.setVm vm1).setTop { g with stack := r } from State.setTop_setTop (T.setVm vm1) g _, px_mS_top]
  simp only [wp_bind', W.mark, W.pushRef, State.topJava?_setTop' _ XF.here.top, Option.some.injEq, exists_eq_left', State.setTop_setTop, State.heap_setTop]
  intro acts2
  simp [jvm, XF.here.top]
  exact ht
end PXMN
