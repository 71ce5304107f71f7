/-! THE PURE MACHINE IS SOUND, 4: steps, runs, methods -/
def px_RunOk (l : Launch) (s0 : State) (D : va_G) (tc : List ClassId) (sc : Nat) (xs : List Int32) (n : Nat) : Prop := ∀ (p : Program) (e : Env) (R : Room) (s : State) (m : MethodId) (args : Array Value) (below : List Frame) (meth : Method) (c : Code) (M : px_M) (fr lo pc : Nat) (lv : px_L) (st : List Value) (h : List px_E) (H : Heap) (locs : List Loc) (cells slots : Nat) (ls : Array Slot) (f : px_Out) (re : px_Re) (cc sl : Nat),
  px_J p l R s0 s m args meth c M fr lo → px_run (some xs) n M fr lo (pc, lv, st, h) = some (re, cc, sl) → px_I s0 s D tc sc xs H locs cells h → lv_has ls (px_ml M) (lv.map (px_cq s0.heap.size sc)) → f = (re.2.1, re.2.2, cells + cc, slots + sl) → cells + cc ≤ R.cells ∧ slots + sl ≤ R.slots →
  W p l e R s m args below meth c H locs cells slots (vx_MQ below (px_QC s0 D tc sc xs f) (px_XC s0 D tc sc xs f) args s f.2.2.1 f.2.2.2 fun q => s0.heap.size ≤ q) (F0 m pc ls (st.map (px_cv s0.heap.size sc)))
theorem px_sl_len (vs : List Value) : (lg_sl vs).length = px_cat vs := by
  unfold px_cat lg_sl
  induction vs with
  | nil => rfl
  | cons v t ih =>
    rw [List.flatMap_cons, List.length_append, ih, List.map_cons, List.sum_cons]
    rcases lv_cat v with h | h
    · rw [if_neg (by rw [h]; decide), h]; rfl
    · rw [if_pos h, h]; rfl
theorem px_args_map (b sc : Nat) : ∀ (i : Nat) (vs : List Value), lv_args i (vs.map (px_cv b sc)) = (lv_args i vs).map (px_cq b sc)
  | _, [] => rfl
  | i, v :: t => by
    show (i, px_cv b sc v) :: lv_args (if (px_cv b sc v).category = 2 then i + 2 else i + 1) (t.map (px_cv b sc)) = (i, px_cv b sc v) :: (lv_args (if v.category = 2 then i + 2 else i + 1) t).map (px_cq b sc)
    rw [px_cv_cat, px_args_map b sc _ t]
theorem px_ex_of_run {l : Launch} {s0 : State} {D : va_G} {tc : List ClassId} {sc : Nat} {xs : List Int32} {n : Nat} (hst : l.stackTraces = false) (hrun : px_RunOk l s0 D tc sc xs n) : px_Ex l s0 D tc sc xs (px_exe (some xs) n) := by
  intro N as h f lo o k hN ho
  unfold px_exe at ho
  obtain ⟨hcat, ho1⟩ := px_ck_s ho
  obtain ⟨o1, ho2, ho3⟩ := px_wt_s ho1
  obtain ⟨re, cc, sl⟩ := o1
  obtain rfl := Option.some.inj ho3
  obtain ⟨v1, v2, v3, v4, v5, v6, v7, v8⟩ := px_okM_s hN
  have hdec : ∀ pc i n, px_ins N pc = some (i, n) → decode (px_cc N) pc = .ok (i, n) := px_dec_of (px_mt_dec N (List.mem_of_getElem? hN))
  have body : ∀ (p : Program) (e : Env) (s : State) (m : MethodId) (args : Array Value) (below : List Frame) (meth : Method) (c : Code) (s₁ : State), BodyLoose p l (px_y N) (headSpec (px_cwd N :: px_gw) { frames := f, cells := cc, slots := sl, locals := lo }) (px_cc N) (px_ml N) (px_rt N) e s m args below meth c s₁ → c.maxLocals = px_ml N → c.exceptionTable.toList = tableOf (px_tb N) → px_PC s0 D tc sc xs as h args s →
      W p l e (headSpec (px_cwd N :: px_gw) { frames := f, cells := cc, slots := sl, locals := lo }).room s m args below meth c s.heap [] 0 0 (vx_MQ below (px_QC s0 D tc sc xs (re.2.1, re.2.2, cc, sl)) (px_XC s0 D tc sc xs (re.2.1, re.2.2, cc, sl)) args s cc sl fun q => s0.heap.size ≤ q) (entryFrame m args (px_ml N)) := by
    intro p e s m args below meth c s₁ B hml htab hP
    obtain ⟨rfl, hU, hO⟩ := hP
    have hts : ∀ w ∈ px_cwd N :: px_gw, w.before _ s = true := atoms_spec (ws := px_cwd N :: px_gw) B.pre
    have hown : s.vm.findClass (px_on (px_own N)) = some m.cls := by rw [← v7]; exact findClass_of_methodNamed B.named
    have hge : s0.heap.size ≤ s.heap.size := by rw [hO.2]; exact Nat.le_add_right _ _
    have J : px_J p l (headSpec (px_cwd N :: px_gw) { frames := f, cells := cc, slots := sl, locals := lo }).room s0 s m (as.map (px_cv s0.heap.size sc)).toArray meth c N f lo :=
      ⟨B.exec, B.bytes, hml, hown, fun w hw => hts w (List.mem_cons_of_mem _ hw), hU, hge, hst, fun hi => (name_of_methodNamed B.named B.method).1.trans (v8 hi).1, B.returns, B.notSynchronized, ⟨htab, px_hrow hN⟩, hdec, Nat.le_refl _, Nat.le_refl _⟩
    rw [lg_entry_eq]
    have hlv := lv_entry (as.map (px_cv s0.heap.size sc)) (n := px_ml N) (by rw [px_sl_len]; unfold px_cat; rw [px_cat_map]; exact px_ble hcat)
    rw [px_args_map] at hlv
    exact hrun p e _ s m _ below meth c N f lo 0 _ [] h s.heap [] 0 0 _ (re.2.1, re.2.2, cc, sl) re cc sl J ho2 ⟨hO, rfl, va_S.rf⟩ hlv (by rw [Nat.zero_add, Nat.zero_add]) (by rw [Nat.zero_add, Nat.zero_add]; exact ⟨Nat.le_refl _, Nat.le_refl _⟩)
  cases hemp : (px_hh N).isEmpty with
  | true =>
    refine vx_ofW (cc := px_cc N) (maxL := px_ml N) (ret := px_rt N) (ws' := px_gw) v3 (by rw [px_cwd0 hemp]) fun p e s m args below meth c s₁ B hml htab hP => body p e s m args below meth c s₁ B hml ?_ hP
    unfold px_tb
    rw [List.isEmpty_iff.mp hemp]
    exact List.eq_nil_iff_forall_not_mem.mpr fun x hx => htab x hx
  | false =>
    refine vx_ofWH (cc := px_cc N) (maxL := px_ml N) (ret := px_rt N) (hh := px_tb N) (ws' := px_gw) v3 (by rw [px_cwd1 hemp]) fun p e s m args below meth c s₁ B hml hP => body p e s m args below meth c s₁ B hml ?_ hP
    have hts : ∀ w ∈ px_cwd N :: px_gw, w.before args s = true := atoms_spec (ws := px_cwd N :: px_gw) B.pre
    have h1 := hts _ List.mem_cons_self
    rw [px_cwd1 hemp] at h1
    exact vx_table (x := px_y N) B h1
theorem px_run_ok {l : Launch} {s0 : State} {D : va_G} {tc : List ClassId} {sc : Nat} {xs : List Int32} (Z : px_Z s0 D tc sc xs) (hst : l.stackTraces = false) : ∀ n, px_RunOk l s0 D tc sc xs n
  | 0 => fun _ _ _ _ _ _ _ _ _ _ _ _ _ _ _ _ _ _ _ _ _ _ _ _ _ _ hr => by cases hr
  | n + 1 => by
    have ih := px_run_ok Z hst n
    have hex : px_Ex l s0 D tc sc xs (px_exe (some xs) n) := px_ex_of_run hst ih
    intro p e R s m args below meth c M fr lo pc lv st h H locs cells slots ls f re cc sl J hr I hl hf hR
    unfold px_run at hr
    obtain ⟨q, hq, hr1⟩ := px_wt_s hr
    obtain ⟨z, hz, hr2⟩ := px_wt_s hr1
    obtain ⟨ins, len⟩ := q
    obtain ⟨z1, z2, zz⟩ := z
    have hdec : decode (px_cc M) pc = .ok (ins, len) := J.2.2.2.2.2.2.2.2.2.2.2.2.1 _ _ _ hq
    have hx := J.1
    have hb := J.2.1
    have key : cells + z1 ≤ R.cells ∧ slots + z2 ≤ R.slots ∧ px_K p l e R s0 s m args below meth c cells slots (vx_MQ below (px_QC s0 D tc sc xs f) (px_XC s0 D tc sc xs f) args s f.2.2.1 f.2.2.2 fun q => s0.heap.size ≤ q) D tc sc xs M (z1, z2, zz) ∧ px_KE s0 s args below D tc sc xs (vx_MQ below (px_QC s0 D tc sc xs f) (px_XC s0 D tc sc xs f) args s f.2.2.1 f.2.2.2 fun q => s0.heap.size ≤ q) cells slots (z1, z2, zz) := by
      cases zz with
      | inl s' =>
        obtain ⟨o, ho, hr3⟩ := px_wt_s hr2
        obtain ⟨re1, c1, sl1⟩ := o
        cases Option.some.inj hr3
        dsimp only at hR hf
        refine ⟨by omega, by omega, fun pc1 lv1 st1 h1 H1 locs1 ls1 he I1 hl1 => ?_, fun _ _ _ he => by cases he⟩
        cases he
        exact ih p e R s m args below meth c M fr lo pc1 lv1 st1 h1 H1 locs1 (cells + z1) (slots + z2) ls1 f re1 c1 sl1 J ho I1 hl1 (by rw [hf, Nat.add_assoc, Nat.add_assoc]) (by omega)
      | inr r =>
        cases Option.some.inj hr2
        exact ⟨hR.1, hR.2, fun _ _ _ _ _ _ _ he => (by cases he), fun pcr res hr he => ⟨f, rfl, by cases he; exact hf⟩⟩
    obtain ⟨k1, k2, kk, ke⟩ := key
    rcases px_or_s hz with hg | hz
    · exact px_g1_ok hx hb hdec hg hl fun pc1 lv1 st1 ls1 he hl1 => by
        cases he
        exact kk _ _ _ _ H locs ls1 rfl I hl1
    rcases px_or_s hz with hg | hz
    · exact px_g2_ok hx hb hdec hg hl fun pc1 lv1 st1 ls1 he hl1 => by
        cases he
        exact kk _ _ _ _ H locs ls1 rfl I hl1
    rcases px_or_s hz with hg | hg
    · exact px_g3_ok Z J I hdec hg hl ⟨k1, k2⟩ kk
    · exact px_g4_ok Z J I hdec hg hl hex ⟨k1, k2⟩ kk ke
/-- A METHOD'S CONTRACT, OUT OF ITS PURE RUN -/
theorem px_met {l : Launch} {s0 : State} {D : va_G} {tc : List ClassId} {sc : Nat} {xs : List Int32} (Z : px_Z s0 D tc sc xs) (hst : l.stackTraces = false) (n : Nat) : px_Ex l s0 D tc sc xs (px_exe (some xs) n) := px_ex_of_run hst (px_run_ok Z hst n)

/-- a run that stops ahead of its end, whatever is asked there -/
theorem px_to_ok {l : Launch} {s0 : State} {D : va_G} {tc : List ClassId} {sc : Nat} {xs : List Int32} (Z : px_Z s0 D tc sc xs) (hst : l.stackTraces = false) {p : Program} {e : Env} {R : Room} {s : State} {m : MethodId} {args : Array Value} {below : List Frame} {meth : Method} {c : Code} {M : px_M} {fr lo : Nat} {Q : State → Prop} (J : px_J p l R s0 s m args meth c M fr lo) :
    ∀ (n pc : Nat) (lv : px_L) (st : List Value) (h : List px_E) (H : Heap) (locs : List Loc) (cells slots : Nat) (ls : Array Slot) (s1 : px_St) (cc sl : Nat), px_to (some xs) n M fr lo (pc, lv, st, h) = some (s1, cc, sl) → px_I s0 s D tc sc xs H locs cells h → lv_has ls (px_ml M) (lv.map (px_cq s0.heap.size sc)) → cells + cc ≤ R.cells ∧ slots + sl ≤ R.slots →
      (∀ (H1 : Heap) (locs1 : List Loc) (ls1 : Array Slot), px_I s0 s D tc sc xs H1 locs1 (cells + cc) s1.2.2.2 → lv_has ls1 (px_ml M) (s1.2.1.map (px_cq s0.heap.size sc)) → W p l e R s m args below meth c H1 locs1 (cells + cc) (slots + sl) Q (F0 m s1.1 ls1 (s1.2.2.1.map (px_cv s0.heap.size sc)))) →
      W p l e R s m args below meth c H locs cells slots Q (F0 m pc ls (st.map (px_cv s0.heap.size sc)))
  | 0 => fun _ _ _ _ _ _ _ _ _ _ _ _ hr => by cases hr
  | n + 1 => by
    have hex : px_Ex l s0 D tc sc xs (px_exe (some xs) n) := px_met Z hst n
    intro pc lv st h H locs cells slots ls s1 cc sl hr I hl hR fin
    unfold px_to at hr
    obtain ⟨q, hq, hr1⟩ := px_wt_s hr
    obtain ⟨ins, len⟩ := q
    cases hE : px_isE ins with
    | true =>
      rw [hE, cond_true] at hr1
      cases Option.some.inj hr1
      exact fin H locs ls I hl
    | false =>
      rw [hE, cond_false] at hr1
      obtain ⟨z, hz, hr2⟩ := px_wt_s hr1
      obtain ⟨z1, z2, zz⟩ := z
      have hdec : decode (px_cc M) pc = .ok (ins, len) := J.2.2.2.2.2.2.2.2.2.2.2.2.1 _ _ _ hq
      have hx := J.1
      have hb := J.2.1
      cases zz with
      | inr r => cases hr2
      | inl s' =>
        obtain ⟨o, ho, hr3⟩ := px_wt_s hr2
        obtain ⟨re1, c1, sl1⟩ := o
        cases Option.some.inj hr3
        dsimp only at hR
        have kk : px_K p l e R s0 s m args below meth c cells slots Q D tc sc xs M (z1, z2, .inl s') := fun pc1 lv1 st1 h1 H1 locs1 ls1 he I1 hl1 => by
          cases he
          refine px_to_ok Z hst J n pc1 lv1 st1 h1 H1 locs1 (cells + z1) (slots + z2) ls1 re1 c1 sl1 ho I1 hl1 (by omega) fun H2 locs2 ls2 I2 hl2 => ?_
          have k3 := fin H2 locs2 ls2 (by rw [← Nat.add_assoc]; exact I2) hl2
          rw [← Nat.add_assoc, ← Nat.add_assoc] at k3
          exact k3
        have ke : px_KE s0 s args below D tc sc xs Q cells slots (z1, z2, .inl s') := fun _ _ _ he => by cases he
        rcases px_or_s hz with hg | hz
        · exact px_g1_ok hx hb hdec hg hl fun pc1 lv1 st1 ls1 he hl1 => by
            cases he
            exact kk _ _ _ _ H locs ls1 rfl I hl1
        rcases px_or_s hz with hg | hz
        · exact px_g2_ok hx hb hdec hg hl fun pc1 lv1 st1 ls1 he hl1 => by
            cases he
            exact kk _ _ _ _ H locs ls1 rfl I hl1
        rcases px_or_s hz with hg | hg
        · exact px_g3_ok Z J I hdec hg hl ⟨by dsimp only; omega, by dsimp only; omega⟩ kk
        · exact px_g4_ok Z J I hdec hg hl hex ⟨by dsimp only; omega, by dsimp only; omega⟩ kk ke
