/-! PURE RUNS, STEP BY STEP -/
/-- from here the method comes to its end, with at most c new cells and k new slots, and P of the answer and the cells -/
def px_R (sx : Option (List Int32)) (M : px_M) (fr lo : Nat) (s : px_St) (c k : Nat) (P : (Option Value ⊕ Nat) → List px_E → Prop) : Prop := ∃ n r cc sl, px_run sx n M fr lo s = some (r, cc, sl) ∧ cc ≤ c ∧ sl ≤ k ∧ P r.2.1 r.2.2
/-- a whole method -/
def px_C (sx : Option (List Int32)) (N : px_M) (as : List Value) (h : List px_E) (fr lo c k : Nat) (P : (Option Value ⊕ Nat) → List px_E → Prop) : Prop := ∃ n o, px_exe sx n N as h fr lo = some o ∧ o.2.2.1 ≤ c ∧ o.2.2.2 ≤ k ∧ P o.1 o.2.1
theorem px_ck_t {α : Type} {b : Bool} {x : Option α} (h : b = true) : px_ck b x = x := by
  unfold px_ck
  rw [h]
  rfl
theorem px_wt_t {α β : Type} {o : Option β} {f : β → Option α} {b : β} (h : o = some b) : px_wt o f = f b := by
  rw [h]
  rfl
/-- more fuel does no harm -/
def px_le (e1 e2 : px_M → List Value → List px_E → Nat → Nat → Option px_Out) : Prop := ∀ N as h f l o f' l', f ≤ f' → l ≤ l' → e1 N as h f l = some o → e2 N as h f' l' = some o
theorem px_ck_imp {α : Type} {b b' : Bool} {x y : Option α} {a : α} (hb : b = true → b' = true) (hf : x = some a → y = some a) (h : px_ck b x = some a) : px_ck b' y = some a := by
  obtain ⟨h1, h2⟩ := px_ck_s h
  rw [px_ck_t (hb h1)]
  exact hf h2
theorem px_wt_mono {α β : Type} {o1 o2 : Option β} {f1 f2 : β → Option α} {a : α} (ho : ∀ b, o1 = some b → o2 = some b) (hf : ∀ b, f1 b = some a → f2 b = some a) (h : px_wt o1 f1 = some a) : px_wt o2 f2 = some a := by
  obtain ⟨b, h1, h2⟩ := px_wt_s h
  rw [px_wt_t (ho b h1)]
  exact hf b h2
theorem px_ck_mono {α : Type} {b : Bool} {x y : Option α} {a : α} (hf : x = some a → y = some a) (h : px_ck b x = some a) : px_ck b y = some a := by
  obtain ⟨h1, h2⟩ := px_ck_s h
  rw [px_ck_t h1]
  exact hf h2
theorem px_pr_mono {α : Type} {st : List Value} {f g : Nat → List Value → Option α} {a : α} (hf : ∀ x r, f x r = some a → g x r = some a) (h : px_pr st f = some a) : px_pr st g = some a := by
  obtain ⟨x, r, rfl, h2⟩ := px_pr_s h
  exact hf x r h2
theorem px_ob_mono {h : List px_E} {x : Nat} {f g : Nat → List Value → px_Nx} {a} (hf : ∀ x r, f x r = some a → g x r = some a) (hh : px_ob h x f = some a) : px_ob h x g = some a := by
  obtain ⟨t, y, h1, h2⟩ := px_ob_s hh
  unfold px_ob
  rw [h1]
  exact hf t y h2
theorem px_cw_mono {fr lo fr' lo' : Nat} (hfr : fr ≤ fr') (hlo : lo ≤ lo') {N : px_M} {rest : List Value} {f g : Nat → Nat → px_Nx} {a} (hf : ∀ x r x' r', x ≤ x' → r ≤ r' → f x r = some a → g x' r' = some a) (hh : px_cw fr lo N rest f = some a) : px_cw fr' lo' N rest g = some a := by
  obtain ⟨f', rfl, h1, h2, h3⟩ := px_cw_s hh
  obtain ⟨g', rfl⟩ : ∃ g', fr' = g' + 1 := ⟨fr' - 1, by omega⟩
  show px_ck (Nat.ble (px_cat rest) 8) (px_ck (Nat.ble (px_ml N + 19) lo') (g g' (lo' - (px_ml N + 19)))) = some a
  rw [px_ck_t (Nat.ble_eq_true_of_le h1), px_ck_t (Nat.ble_eq_true_of_le (Nat.le_trans h2 hlo))]
  exact hf _ _ _ _ (by omega) (by omega) h3
theorem px_ble_mono {a b c : Nat} (hbc : b ≤ c) (h : Nat.ble a b = true) : Nat.ble a c = true := Nat.ble_eq_true_of_le (Nat.le_trans (px_ble h) hbc)
theorem px_blt_mono {a b c : Nat} (hbc : b ≤ c) (h : Nat.blt a b = true) : Nat.blt a c = true := Nat.ble_eq_true_of_le (Nat.le_trans (px_blt h) hbc)
theorem px_or_mono {a1 a2 b1 b2 : px_Nx} {z} (hn : a1 = none → a2 = none) (ha : ∀ z, a1 = some z → a2 = some z) (hb : b1 = some z → b2 = some z) (h : px_or a1 b1 = some z) : px_or a2 b2 = some z := by
  cases h1 : a1 with
  | none =>
    rw [h1] at h
    rw [hn h1]
    exact hb h
  | some y =>
    rw [h1] at h
    rw [ha y h1]
    exact h
theorem px_g4_mono {M : px_M} {fr lo fr' lo' : Nat} (hfr : fr ≤ fr') (hlo : lo ≤ lo') {e1 e2 : px_M → List Value → List px_E → Nat → Nat → Option px_Out} (he : px_le e1 e2) {ins : Instr} {len pc : Nat} {lv : px_L} {st : List Value} {h : List px_E} {z} (hg : px_g4 M fr lo e1 ins len pc lv st h = some z) : px_g4 M fr' lo' e2 ins len pc lv st h = some z := by
  cases ins with
  | ireturn => exact hg
  | lreturn => exact hg
  | dreturn => exact hg
  | areturn => exact hg
  | return_ => exact hg
  | athrow => exact hg
  | invokevirtual idx => exact px_ck_mono (px_wt_mono (fun _ h => h) fun q => px_ck_mono (px_wt_mono (fun _ h => h) fun N => px_wt_mono (fun _ h => h) fun z => px_pr_mono fun b rest => px_ob_mono fun ci fs => px_ck_mono (px_cw_mono hfr hlo fun f l f' l' hf hl => px_wt_mono (fun o ho => he _ _ _ _ _ _ _ _ hf hl ho) fun o h => h))) hg
  | invokespecial idx =>
    refine px_ck_mono (px_wt_mono (fun _ h => h) fun q hh => ?_) hg
    cases h0 : Nat.beq q.1 0 with
    | true =>
      rw [h0, cond_true] at hh
      rw [cond_true]
      exact px_pr_mono (fun _ _ => px_ck_imp (px_blt_mono hfr) (px_ck_imp (px_ble_mono hlo) fun h => h)) hh
    | false =>
      rw [h0, cond_false] at hh
      rw [cond_false]
      cases h5 : (Nat.beq q.1 5 || Nat.beq q.1 6) with
      | false => rw [h5, cond_false] at hh; cases hh
      | true =>
        rw [h5, cond_true] at hh
        rw [cond_true]
        exact px_wt_mono (fun _ h => h) (fun N => px_wt_mono (fun _ h => h) fun z => px_pr_mono fun b rest => px_ck_mono (px_cw_mono hfr hlo fun f l f' l' hf hl => px_wt_mono (fun o ho => he _ _ _ _ _ _ _ _ hf hl ho) fun o h => h)) hh
  | invokestatic idx =>
    refine px_ck_mono (px_wt_mono (fun _ h => h) fun q hh => ?_) hg
    cases h0 : (Nat.beq q.1 3 || Nat.beq q.1 4) with
    | true =>
      rw [h0, cond_true] at hh
      rw [cond_true]
      exact px_wt_mono (fun _ h => h) (fun N => px_wt_mono (fun _ h => h) fun z => px_cw_mono hfr hlo fun f l f' l' hf hl => px_wt_mono (fun o ho => he _ _ _ _ _ _ _ _ hf hl ho) fun o h => h) hh
    | false =>
      rw [h0, cond_false] at hh
      rw [cond_false]
      cases h7 : Nat.beq q.1 7 with
      | false => rw [h7, cond_false] at hh; cases hh
      | true =>
        rw [h7, cond_true] at hh
        rw [cond_true]
        obtain ⟨n, r, rfl, hg3⟩ := px_pi_s hh
        obtain ⟨dp, r, rfl, hg4⟩ := px_pi_s hg3
        obtain ⟨bb, r, rfl, hg5⟩ := px_pr_s hg4
        obtain ⟨sp, r, rfl, hg6⟩ := px_pi_s hg5
        obtain ⟨a, r, rfl, hg7⟩ := px_pr_s hg6
        obtain ⟨t, x, ha, hg8⟩ := px_at_s hg7
        obtain ⟨u, y, hb, hg9⟩ := px_at_s hg8
        show px_at h a _ = some z
        unfold px_at
        rw [ha]
        show px_at h bb _ = some z
        unfold px_at
        rw [hb]
        refine px_ck_mono (fun hg10 => ?_) hg9
        rcases px_or_s hg10 with h2 | h2
        · have h9 : px_ck (px_isT t .int || px_isT t .boolean) (px_ai x fun l => px_ai y fun g => px_ck (!decide (n < 0) && !decide (sp < 0) && !decide (dp < 0)) (px_ck (Nat.ble (sp.toNatClampNeg + n.toNatClampNeg) l.length) (px_ck (Nat.ble (dp.toNatClampNeg + n.toNatClampNeg) g.length) (px_ck (px_isT t .int || l.all (fun x => decide (x = 0) || decide (x = 1))) (px_ck (Nat.blt 0 fr') (px_ck (Nat.ble (px_cat r + px_acw) lo') (px_nx (pc + 3) lv r (h.set bb (.inl (u, .inl (g.take dp.toNatClampNeg ++ ((l.drop sp.toNatClampNeg).take n.toNatClampNeg) ++ g.drop (dp.toNatClampNeg + n.toNatClampNeg)))))))))))) = some z := by
            refine px_ck_mono (fun h3 => ?_) h2
            obtain ⟨g1, rfl, h4⟩ := px_ai_s h3
            obtain ⟨g2, rfl, h5⟩ := px_ai_s h4
            exact px_ck_mono (px_ck_mono (px_ck_mono (px_ck_mono (px_ck_imp (px_blt_mono hfr) (px_ck_imp (px_ble_mono hlo) fun h => h))))) h5
          rw [h9]
          rfl
        · obtain ⟨ht, h3⟩ := px_ck_s h2
          have hno : ∀ A : px_Nx, px_ck (px_isT t .int || px_isT t .boolean) A = none := fun A => by
            have ht2 := px_isT_s ht
            have h6 : (px_isT t .int || px_isT t .boolean) = false := by
              unfold px_isT
              rw [ht2]
              decide
            rw [h6]
            rfl
          rw [hno]
          show px_ck (px_isT t .long) _ = some z
          rw [px_ck_t ht]
          obtain ⟨g1, rfl, h4⟩ := px_al_s h3
          obtain ⟨g2, rfl, h5⟩ := px_al_s h4
          exact px_ck_mono (px_ck_mono (px_ck_mono (px_ck_imp (px_blt_mono hfr) (px_ck_imp (px_ble_mono hlo) fun h => h)))) h5
  | _ => exact (px_no hg).elim
theorem px_g3_none {sx : Option (List Int32)} {M : px_M} {fr lo fr' lo' : Nat} {ins : Instr} {len pc : Nat} {lv : px_L} {st : List Value} {h : List px_E} (hn : ∀ i, ins ≠ .new i) : px_g3 sx M fr' lo' ins len pc lv st h = px_g3 sx M fr lo ins len pc lv st h := by
  cases ins with
  | new i => exact absurd rfl (hn i)
  | newarray a => cases a <;> rfl
  | multianewarray i d =>
    match d with
    | 0 => rfl
    | 1 => rfl
    | 2 => rfl
    | n + 3 => rfl
  | _ => rfl
theorem px_g3_mono {sx : Option (List Int32)} {M : px_M} {fr lo fr' lo' : Nat} (hfr : fr ≤ fr') (hlo : lo ≤ lo') {idx len pc : Nat} {lv : px_L} {st : List Value} {h : List px_E} {z} (hg : px_g3 sx M fr lo (.new idx) len pc lv st h = some z) : px_g3 sx M fr' lo' (.new idx) len pc lv st h = some z := by
  refine px_ck_mono (px_wt_mono (fun _ h => h) fun q hh => ?_) hg
  cases h0 : q.2 with
  | true =>
    rw [h0, cond_true] at hh
    rw [cond_true]
    exact px_ck_imp (px_blt_mono hfr) (px_ck_imp (px_ble_mono hlo) fun h => h) hh
  | false =>
    rw [h0, cond_false] at hh
    rw [cond_false]
    exact hh
theorem px_step_mono {sx : Option (List Int32)} {M : px_M} {fr lo fr' lo' : Nat} (hfr : fr ≤ fr') (hlo : lo ≤ lo') {e1 e2 : px_M → List Value → List px_E → Nat → Nat → Option px_Out} (he : px_le e1 e2) {ins : Instr} {len pc : Nat} {lv : px_L} {st : List Value} {h : List px_E} {z} (hg : px_step sx M fr lo e1 ins len pc lv st h = some z) : px_step sx M fr' lo' e2 ins len pc lv st h = some z := by
  refine px_or_mono (fun h => h) (fun _ h => h) (fun h1 => px_or_mono (fun h => h) (fun _ h => h) (fun h2 => ?_) h1) hg
  by_cases hn : ∃ i, ins = .new i
  · obtain ⟨i, rfl⟩ := hn
    rcases px_or_s h2 with h3 | h3
    · show px_or _ _ = some z
      rw [px_g3_mono hfr hlo h3]
      rfl
    · exact (px_no h3).elim
  · rw [px_g3_none (fr := fr) (lo := lo) fun i hi => hn ⟨i, hi⟩]
    exact px_or_mono (fun h => h) (fun _ h => h) (fun h3 => px_g4_mono hfr hlo he h3) h2
theorem px_run_eq (sx : Option (List Int32)) (n : Nat) (M : px_M) (fr lo : Nat) (s : px_St) : px_run sx (n + 1) M fr lo s = px_wt (px_ins M s.1) fun q => px_wt (px_step sx M fr lo (px_exe sx n) q.1 q.2 s.1 s.2.1 s.2.2.1 s.2.2.2) fun z => match z.2.2 with
    | .inl s' => px_wt (px_run sx n M fr lo s') fun o => some (o.1, z.1 + o.2.1, z.2.1 + o.2.2)
    | .inr r => some (r, z.1, z.2.1) := rfl
theorem px_to_eq (sx : Option (List Int32)) (n : Nat) (M : px_M) (fr lo : Nat) (s : px_St) : px_to sx (n + 1) M fr lo s = px_wt (px_ins M s.1) fun q => bif px_isE q.1 then some (s, 0, 0) else px_wt (px_step sx M fr lo (px_exe sx n) q.1 q.2 s.1 s.2.1 s.2.2.1 s.2.2.2) fun z => match z.2.2 with
    | .inl s' => px_wt (px_to sx n M fr lo s') fun o => some (o.1, z.1 + o.2.1, z.2.1 + o.2.2)
    | .inr _ => none := rfl
theorem px_exe_eq (sx : Option (List Int32)) (n : Nat) (N : px_M) (as : List Value) (h : List px_E) (f l : Nat) : px_exe sx n N as h f l = px_ck (Nat.ble (px_cat as) (px_ml N)) (px_wt (px_run sx n N f l (0, lv_args 0 as, [], h)) fun o => some (o.1.2.1, o.1.2.2, o.2.1, o.2.2)) := rfl
theorem px_run_mono {sx : Option (List Int32)} (n : Nat) : ∀ (m : Nat) (M : px_M) (fr lo fr' lo' : Nat) (s : px_St) (o : px_Re × Nat × Nat), n ≤ m → fr ≤ fr' → lo ≤ lo' → px_run sx n M fr lo s = some o → px_run sx m M fr' lo' s = some o := by
  induction n with
  | zero =>
    intro m M fr lo fr' lo' s o _ _ _ h
    exact nomatch h
  | succ n ih =>
    intro m M fr lo fr' lo' s o hnm hfr hlo h
    cases m with
    | zero => omega
    | succ m =>
      have hnm2 : n ≤ m := Nat.le_of_succ_le_succ hnm
      rw [px_run_eq] at h ⊢
      refine px_wt_mono (fun _ h => h) (fun q => px_wt_mono (fun z => px_step_mono hfr hlo fun N as h f l o f' l' hf hl hh => ?_) fun z h2 => ?_) h
      · rw [px_exe_eq] at hh ⊢
        exact px_ck_mono (px_wt_mono (fun b => ih m N f l f' l' _ b hnm2 hf hl) fun b h => h) hh
      · obtain ⟨z1, z2, zz⟩ := z
        cases zz with
        | inl s' => exact px_wt_mono (fun b => ih m M fr lo fr' lo' s' b hnm2 hfr hlo) (fun b h => h) h2
        | inr r => exact h2
theorem px_exe_mono {sx : Option (List Int32)} {n m : Nat} (hnm : n ≤ m) : px_le (px_exe sx n) (px_exe sx m) := by
  intro N as h f l o f' l' hf hl hh
  rw [px_exe_eq] at hh ⊢
  exact px_ck_mono (px_wt_mono (fun b => px_run_mono n m N f l f' l' _ b hnm hf hl) fun b h => h) hh
theorem px_C_mono {sx : Option (List Int32)} {N : px_M} {as : List Value} {h : List px_E} {fr lo fr' lo' c k c' k' : Nat} {P P' : (Option Value ⊕ Nat) → List px_E → Prop} (H : px_C sx N as h fr lo c k P) (hfr : fr ≤ fr') (hlo : lo ≤ lo') (hc : c ≤ c') (hk : k ≤ k') (hP : ∀ r h, P r h → P' r h) : px_C sx N as h fr' lo' c' k' P' := by
  obtain ⟨n, o, h1, h2, h3, h4⟩ := H
  exact ⟨n, o, px_exe_mono (Nat.le_refl n) _ _ _ _ _ _ _ _ hfr hlo h1, Nat.le_trans h2 hc, Nat.le_trans h3 hk, hP _ _ h4⟩
/-- what goes without the script goes with it -/
theorem px_g3_sx {sx : Option (List Int32)} {M : px_M} {fr lo : Nat} {ins : Instr} {len pc : Nat} {lv : px_L} {st : List Value} {h : List px_E} {z} (hg : px_g3 none M fr lo ins len pc lv st h = some z) : px_g3 sx M fr lo ins len pc lv st h = some z := by
  cases ins with
  | newarray a => cases a <;> exact hg
  | multianewarray i d =>
    match d, hg with
    | 0, hg => exact hg
    | 1, hg => exact hg
    | 2, hg => exact hg
    | n + 3, hg => exact hg
  | iaload =>
    obtain ⟨hlen, hg1⟩ := px_ck_s hg
    cases px_beq hlen
    obtain ⟨i, r, rfl, hg2⟩ := px_pi_s hg1
    rcases px_ps_s hg2 with ⟨a, r2, rfl, hg3⟩ | hg2
    · obtain ⟨b, hb, -⟩ := px_wt_s hg3
      cases hb
    · obtain ⟨a, r, rfl, hg3⟩ := px_pr_s hg2
      exact hg3
  | arraylength =>
    obtain ⟨hlen, hg1⟩ := px_ck_s hg
    cases px_beq hlen
    rcases px_ps_s hg1 with ⟨a, r2, rfl, hg3⟩ | hg2
    · obtain ⟨b, hb, -⟩ := px_wt_s hg3
      cases hb
    · obtain ⟨a, r, rfl, hg3⟩ := px_pr_s hg2
      exact hg3
  | _ => exact hg
theorem px_g3_sxn {sx : Option (List Int32)} {M : px_M} {fr lo : Nat} {ins : Instr} {len pc : Nat} {lv : px_L} {st : List Value} {h : List px_E} (h1 : ins ≠ .iaload) (h2 : ins ≠ .arraylength) : px_g3 sx M fr lo ins len pc lv st h = px_g3 none M fr lo ins len pc lv st h := by
  cases ins with
  | newarray a => cases a <;> rfl
  | multianewarray i d =>
    match d with
    | 0 => rfl
    | 1 => rfl
    | 2 => rfl
    | n + 3 => rfl
  | iaload => exact absurd rfl h1
  | arraylength => exact absurd rfl h2
  | _ => rfl
theorem px_step_sx {sx : Option (List Int32)} {M : px_M} {fr lo : Nat} {e1 e2 : px_M → List Value → List px_E → Nat → Nat → Option px_Out} (he : px_le e1 e2) {ins : Instr} {len pc : Nat} {lv : px_L} {st : List Value} {h : List px_E} {z} (hg : px_step none M fr lo e1 ins len pc lv st h = some z) : px_step sx M fr lo e2 ins len pc lv st h = some z := by
  refine px_or_mono (fun h => h) (fun _ h => h) (fun h1 => px_or_mono (fun h => h) (fun _ h => h) (fun h2 => ?_) h1) hg
  rcases px_or_s h2 with h3 | h3
  · show px_or _ _ = some z
    rw [px_g3_sx h3]
    rfl
  · have hn : ins ≠ .iaload ∧ ins ≠ .arraylength := ⟨fun e => by rw [e] at h3; exact (px_no h3).elim, fun e => by rw [e] at h3; exact (px_no h3).elim⟩
    rw [px_g3_sxn hn.1 hn.2]
    exact px_or_mono (fun h => h) (fun _ h => h) (fun h3 => px_g4_mono (Nat.le_refl _) (Nat.le_refl _) he h3) h2
theorem px_run_sx {sx : Option (List Int32)} (n : Nat) : ∀ (M : px_M) (fr lo fr' lo' : Nat) (s : px_St) (o : px_Re × Nat × Nat), fr ≤ fr' → lo ≤ lo' → px_run none n M fr lo s = some o → px_run sx n M fr' lo' s = some o := by
  induction n with
  | zero =>
    intro M fr lo fr' lo' s o _ _ h
    exact nomatch h
  | succ n ih =>
    intro M fr lo fr' lo' s o hfr hlo h
    have h := px_run_mono (n + 1) (n + 1) M fr lo fr' lo' s o (Nat.le_refl _) hfr hlo h
    rw [px_run_eq] at h ⊢
    refine px_wt_mono (fun _ h => h) (fun q => px_wt_mono (fun z => px_step_sx fun N as h f l o f' l' hf hl hh => ?_) fun z h2 => ?_) h
    · rw [px_exe_eq] at hh ⊢
      exact px_ck_mono (px_wt_mono (fun b => ih N f l f' l' _ b hf hl) fun b h => h) hh
    · obtain ⟨z1, z2, zz⟩ := z
      cases zz with
      | inl s' => exact px_wt_mono (fun b => ih M fr' lo' fr' lo' s' b (Nat.le_refl _) (Nat.le_refl _)) (fun b h => h) h2
      | inr r => exact h2
/-- a closed run, once and for all scripts -/
theorem px_C_none {sx : Option (List Int32)} {N : px_M} {as : List Value} {h h1 : List px_E} {fr lo fr' lo' c k n c1 k1 : Nat} {r : Option Value ⊕ Nat} (H : px_exe none n N as h fr lo = some (r, h1, c, k)) (hfr : fr ≤ fr') (hlo : lo ≤ lo') (hc : c ≤ c1) (hk : k ≤ k1) : px_C sx N as h fr' lo' c1 k1 fun r' h' => r' = r ∧ h' = h1 := by
  refine ⟨n, (r, h1, c, k), ?_, hc, hk, rfl, rfl⟩
  rw [px_exe_eq] at H ⊢
  exact px_ck_mono (px_wt_mono (fun b => px_run_sx n N fr lo fr' lo' _ b hfr hlo) fun b h => h) H
section PR
variable {sx : Option (List Int32)} {M N : px_M} {fr lo pc pc1 len c k c1 k1 c2 k2 z1 z2 f l : Nat} {ins : Instr} {lv lv1 : px_L} {st st1 as rest : List Value} {h h1 : List px_E} {P PC : (Option Value ⊕ Nat) → List px_E → Prop} {v : Option Value} {E : Nat}
theorem px_C_of (hcat : Nat.ble (px_cat as) (px_ml N) = true) (K : px_R sx N fr lo (0, lv_args 0 as, [], h) c k P) : px_C sx N as h fr lo c k P := by
  obtain ⟨n, r, cc, sl, e1, e2, e3, e4⟩ := K
  refine ⟨n, (r.2.1, r.2.2, cc, sl), ?_, e2, e3, e4⟩
  unfold px_exe
  rw [px_ck_t hcat, px_wt_t e1]
theorem pr_m (hi : px_ins M pc = some (ins, len)) (hs : ∀ ex, px_step sx M fr lo ex ins len pc lv st h = some (z1, z2, .inl (pc1, lv1, st1, h1))) (hc : z1 + c1 ≤ c) (hk : z2 + k1 ≤ k) (K : px_R sx M fr lo (pc1, lv1, st1, h1) c1 k1 P) : px_R sx M fr lo (pc, lv, st, h) c k P := by
  obtain ⟨n, r, cc, sl, e1, e2, e3, e4⟩ := K
  refine ⟨n + 1, r, z1 + cc, z2 + sl, ?_, by omega, by omega, e4⟩
  rw [px_run_eq, px_wt_t hi, px_wt_t (hs _)]
  dsimp only
  rw [px_wt_t e1]
theorem pr_s (hi : px_ins M pc = some (ins, len)) (hs : ∀ ex, px_step sx M fr lo ex ins len pc lv st h = some (0, 0, .inl (pc1, lv1, st1, h1))) (K : px_R sx M fr lo (pc1, lv1, st1, h1) c k P) : px_R sx M fr lo (pc, lv, st, h) c k P :=
  pr_m hi hs (by omega) (by omega) K
theorem pr_e {pcr : Nat} {re : Option Value ⊕ Nat} (hi : px_ins M pc = some (ins, len)) (hs : ∀ ex, px_step sx M fr lo ex ins len pc lv st h = some (0, 0, .inr (pcr, re, h1))) (K : P re h1) : px_R sx M fr lo (pc, lv, st, h) c k P := by
  refine ⟨1, (pcr, re, h1), 0, 0, ?_, Nat.zero_le _, Nat.zero_le _, K⟩
  rw [px_run_eq, px_wt_t hi, px_wt_t (hs _)]
/-- a call: what it answers is known of it alone -/
theorem pr_call (hi : px_ins M pc = some (ins, len)) (hs : ∀ ex, px_step sx M fr lo ex ins len pc lv st h = px_wt (ex N as h f l) fun o => px_back M pc lv rest o) (C : px_C sx N as h f l c1 k1 PC) (hc : c1 + c2 ≤ c) (hk : k1 + k2 ≤ k)
    (K : ∀ r h', PC r h' → ∃ z, px_back M pc lv rest (r, h', 0, 0) = some (0, 0, z) ∧ match z with | .inl s1 => px_R sx M fr lo s1 c2 k2 P | .inr e1 => P e1.2.1 e1.2.2) : px_R sx M fr lo (pc, lv, st, h) c k P := by
  obtain ⟨n1, o, g1, g2, g3, g4⟩ := C
  obtain ⟨r, h', cc, sl⟩ := o
  obtain ⟨z, hz, hK⟩ := K r h' g4
  have hz2 : px_back M pc lv rest (r, h', cc, sl) = some (cc, sl, z) := by
    unfold px_back at hz ⊢
    cases r with
    | inl v =>
      dsimp only at hz ⊢
      cases Option.some.inj hz
      rfl
    | inr E =>
      dsimp only at hz ⊢
      unfold px_exc at hz ⊢
      split at hz
      · rename_i a ha
        obtain ⟨q, h1, h2⟩ := px_wt_s hz
        obtain ⟨y, h3, h4⟩ := px_wt_s h2
        obtain ⟨h5, h6⟩ := px_ck_s h4
        cases Option.some.inj h6
        rw [px_wt_t h1, px_wt_t h3, px_ck_t h5]
      · obtain ⟨h5, h6⟩ := px_ck_s hz
        cases Option.some.inj h6
        rw [px_ck_t h5]
  dsimp only at g2 g3
  cases z with
  | inl s1 =>
    obtain ⟨n, r2, c3, s3, e1, e2, e3, e4⟩ := hK
    refine ⟨max n1 n + 1, r2, cc + c3, sl + s3, ?_, by omega, by omega, e4⟩
    have hst : px_step sx M fr lo (px_exe sx (max n1 n)) ins len pc lv st h = some (cc, sl, .inl s1) := by
      rw [hs _, px_wt_t (px_exe_mono (Nat.le_max_left n1 n) _ _ _ _ _ _ _ _ (Nat.le_refl _) (Nat.le_refl _) g1)]
      exact hz2
    rw [px_run_eq, px_wt_t hi, px_wt_t hst]
    dsimp only
    rw [px_wt_t (px_run_mono _ _ _ _ _ _ _ _ _ (Nat.le_max_right n1 n) (Nat.le_refl _) (Nat.le_refl _) e1)]
  | inr e1 =>
    refine ⟨n1 + 1, e1, cc, sl, ?_, by omega, by omega, hK⟩
    have hst : px_step sx M fr lo (px_exe sx n1) ins len pc lv st h = some (cc, sl, .inr e1) := by
      rw [hs _, px_wt_t g1]
      exact hz2
    rw [px_run_eq, px_wt_t hi, px_wt_t hst]
/-- .. that answers -/
theorem pr_callv (hi : px_ins M pc = some (ins, len)) (hs : ∀ ex, px_step sx M fr lo ex ins len pc lv st h = px_wt (ex N as h f l) fun o => px_back M pc lv rest o) (C : px_C sx N as h f l c1 k1 fun r h' => r = .inl v ∧ h' = h1) (hc : c1 + c2 ≤ c) (hk : k1 + k2 ≤ k)
    (K : px_R sx M fr lo (pc + 3, lv, v.toList ++ rest, h1) c2 k2 P) : px_R sx M fr lo (pc, lv, st, h) c k P :=
  pr_call hi hs C hc hk fun r h' hP => by
    obtain ⟨rfl, rfl⟩ := hP
    exact ⟨_, rfl, K⟩
/-- .. that throws, and there is nobody to catch -/
theorem pr_callo (hi : px_ins M pc = some (ins, len)) (hs : ∀ ex, px_step sx M fr lo ex ins len pc lv st h = px_wt (ex N as h f l) fun o => px_back M pc lv rest o) (C : px_C sx N as h f l c k fun r h' => r = .inr E ∧ h' = h1) (hh : px_hh M = [])
    (K : P (.inr E) h1) : px_R sx M fr lo (pc, lv, st, h) c k P :=
  pr_call (c2 := 0) (k2 := 0) hi hs C (Nat.le_refl _) (Nat.le_refl _) fun r h' hP => by
    obtain ⟨rfl, rfl⟩ := hP
    refine ⟨.inr (pc, .inr E, h'), ?_, K⟩
    show px_exc M pc E lv h' 0 0 = _
    unfold px_exc
    rw [hh]
    rfl
/-- .. that throws, and is caught -/
theorem pr_callx {a n5 y1 y2 : Nat} {q5 : Instr} (hi : px_ins M pc = some (ins, len)) (hs : ∀ ex, px_step sx M fr lo ex ins len pc lv st h = px_wt (ex N as h f l) fun o => px_back M pc lv rest o) (C : px_C sx N as h f l c1 k1 fun r h' => r = .inr E ∧ h' = h1) (hc : c1 + c2 ≤ c) (hk : k1 + k2 ≤ k)
    (hh : px_hd (px_hh M) pc E = some a) (h5 : px_ins M a = some (q5, n5)) (hy : px_asx (q5, n5) = some (y1, y2)) (hlt : Nat.blt y1 (px_ml M) = true)
    (K : px_R sx M fr lo (a + y2, lv.filter (px_k1 y1), [], h1) c2 k2 P) : px_R sx M fr lo (pc, lv, st, h) c k P :=
  pr_call hi hs C hc hk fun r h' hP => by
    obtain ⟨rfl, rfl⟩ := hP
    refine ⟨.inl (a + y2, lv.filter (px_k1 y1), [], h'), ?_, K⟩
    show px_exc M pc E lv h' 0 0 = _
    unfold px_exc
    rw [hh]
    show px_wt (px_ins M a) _ = _
    rw [px_wt_t h5, px_wt_t hy, px_ck_t hlt]
/-- branches -/
theorem pr_bt {bb : Bool} {off : Int} {t : Nat} (hi : px_ins M pc = some (ins, len)) (hs1 : px_g1 M ins len pc lv st h = none) (hs : px_g2 ins len pc lv st h = px_br bb pc off lv st1 h) (ht : px_tg pc off = some t) (hb : bb = true) (K : px_R sx M fr lo (t, lv, st1, h) c k P) : px_R sx M fr lo (pc, lv, st, h) c k P :=
  pr_s hi (fun ex => by unfold px_step; rw [hs1, hs, hb]; unfold px_br; rw [px_wt_t ht]; rfl) K
theorem pr_bf {bb : Bool} {off : Int} {t : Nat} (hi : px_ins M pc = some (ins, len)) (hs1 : px_g1 M ins len pc lv st h = none) (hs : px_g2 ins len pc lv st h = px_br bb pc off lv st1 h) (ht : px_tg pc off = some t) (hb : bb = false) (K : px_R sx M fr lo (pc + 3, lv, st1, h) c k P) : px_R sx M fr lo (pc, lv, st, h) c k P :=
  pr_s hi (fun ex => by unfold px_step; rw [hs1, hs, hb]; unfold px_br; rw [px_wt_t ht]; rfl) K
/-- the law's own run, up to its end -/
def px_T (sx : Option (List Int32)) (M : px_M) (fr lo : Nat) (s : px_St) (c k : Nat) (P : px_St → Prop) : Prop := ∃ n s1 cc sl, px_to sx n M fr lo s = some (s1, cc, sl) ∧ cc ≤ c ∧ sl ≤ k ∧ P s1
theorem px_to_mono (n : Nat) : ∀ (m : Nat) (M : px_M) (fr lo : Nat) (s : px_St) (o : px_St × Nat × Nat), n ≤ m → px_to sx n M fr lo s = some o → px_to sx m M fr lo s = some o := by
  induction n with
  | zero =>
    intro m M fr lo s o _ h
    exact nomatch h
  | succ n ih =>
    intro m M fr lo s o hnm h
    cases m with
    | zero => omega
    | succ m =>
      have hnm2 : n ≤ m := Nat.le_of_succ_le_succ hnm
      rw [px_to_eq] at h ⊢
      refine px_wt_mono (fun _ h => h) (fun q hh => ?_) h
      cases hE : px_isE q.1 with
      | true =>
        rw [hE, cond_true] at hh
        exact hh
      | false =>
        rw [hE, cond_false] at hh
        rw [cond_false]
        refine px_wt_mono (fun z => px_step_mono (Nat.le_refl _) (Nat.le_refl _) (px_exe_mono hnm2)) (fun z h2 => ?_) hh
        obtain ⟨z1, z2, zz⟩ := z
        cases zz with
        | inl s' => exact px_wt_mono (fun b => ih m M fr lo s' b hnm2) (fun b h => h) h2
        | inr r => exact h2
theorem pt_e {P : px_St → Prop} (hi : px_ins M pc = some (.ireturn, len)) (K : P (pc, lv, st, h)) : px_T sx M fr lo (pc, lv, st, h) c k P := by
  refine ⟨1, (pc, lv, st, h), 0, 0, ?_, Nat.zero_le _, Nat.zero_le _, K⟩
  rw [px_to_eq, px_wt_t hi]
  rfl
theorem pt_m {P : px_St → Prop} (hi : px_ins M pc = some (ins, len)) (hE : px_isE ins = false) (hs : ∀ ex, px_step sx M fr lo ex ins len pc lv st h = some (z1, z2, .inl (pc1, lv1, st1, h1))) (hc : z1 + c1 ≤ c) (hk : z2 + k1 ≤ k) (K : px_T sx M fr lo (pc1, lv1, st1, h1) c1 k1 P) : px_T sx M fr lo (pc, lv, st, h) c k P := by
  obtain ⟨n, r, cc, sl, e1, e2, e3, e4⟩ := K
  refine ⟨n + 1, r, z1 + cc, z2 + sl, ?_, by omega, by omega, e4⟩
  rw [px_to_eq, px_wt_t hi]
  dsimp only
  rw [hE, cond_false, px_wt_t (hs _)]
  dsimp only
  rw [px_wt_t e1]
theorem pt_s {P : px_St → Prop} (hi : px_ins M pc = some (ins, len)) (hE : px_isE ins = false) (hs : ∀ ex, px_step sx M fr lo ex ins len pc lv st h = some (0, 0, .inl (pc1, lv1, st1, h1))) (K : px_T sx M fr lo (pc1, lv1, st1, h1) c k P) : px_T sx M fr lo (pc, lv, st, h) c k P :=
  pt_m hi hE hs (by omega) (by omega) K
theorem pt_call {P : px_St → Prop} (hi : px_ins M pc = some (ins, len)) (hE : px_isE ins = false) (hs : ∀ ex, px_step sx M fr lo ex ins len pc lv st h = px_wt (ex N as h f l) fun o => px_back M pc lv rest o) (C : px_C sx N as h f l c1 k1 PC) (hc : c1 + c2 ≤ c) (hk : k1 + k2 ≤ k)
    (K : ∀ r h', PC r h' → ∃ v, r = .inl v ∧ px_T sx M fr lo (pc + 3, lv, v.toList ++ rest, h') c2 k2 P) : px_T sx M fr lo (pc, lv, st, h) c k P := by
  obtain ⟨n1, o, g1, g2, g3, g4⟩ := C
  obtain ⟨r, h', cc, sl⟩ := o
  obtain ⟨v, hv, n, r2, c3, s3, e1, e2, e3, e4⟩ := K r h' g4
  dsimp only at hv g2 g3
  subst hv
  have hst : px_step sx M fr lo (px_exe sx (max n1 n)) ins len pc lv st h = some (cc, sl, .inl (pc + 3, lv, v.toList ++ rest, h')) := by
    rw [hs _, px_wt_t (px_exe_mono (Nat.le_max_left n1 n) _ _ _ _ _ _ _ _ (Nat.le_refl _) (Nat.le_refl _) g1)]
    rfl
  refine ⟨max n1 n + 1, r2, cc + c3, sl + s3, ?_, by omega, by omega, e4⟩
  rw [px_to_eq, px_wt_t hi]
  dsimp only
  rw [hE, cond_false, px_wt_t hst]
  dsimp only
  rw [px_wt_t (px_to_mono _ _ _ _ _ _ _ (Nat.le_max_right n1 n) e1)]
theorem pt_callv {P : px_St → Prop} (hi : px_ins M pc = some (ins, len)) (hE : px_isE ins = false) (hs : ∀ ex, px_step sx M fr lo ex ins len pc lv st h = px_wt (ex N as h f l) fun o => px_back M pc lv rest o) (C : px_C sx N as h f l c1 k1 fun r h' => r = .inl v ∧ h' = h1) (hc : c1 + c2 ≤ c) (hk : k1 + k2 ≤ k)
    (K : px_T sx M fr lo (pc + 3, lv, v.toList ++ rest, h1) c2 k2 P) : px_T sx M fr lo (pc, lv, st, h) c k P :=
  pt_call hi hE hs C hc hk fun r h' hP => by
    obtain ⟨rfl, rfl⟩ := hP
    exact ⟨v, rfl, K⟩
theorem pt_bt {bb : Bool} {off : Int} {t : Nat} {P : px_St → Prop} (hi : px_ins M pc = some (ins, len)) (hE : px_isE ins = false) (hs1 : px_g1 M ins len pc lv st h = none) (hs : px_g2 ins len pc lv st h = px_br bb pc off lv st1 h) (ht : px_tg pc off = some t) (hb : bb = true) (K : px_T sx M fr lo (t, lv, st1, h) c k P) : px_T sx M fr lo (pc, lv, st, h) c k P :=
  pt_s hi hE (fun ex => by unfold px_step; rw [hs1, hs, hb]; unfold px_br; rw [px_wt_t ht]; rfl) K
theorem pt_bf {bb : Bool} {off : Int} {t : Nat} {P : px_St → Prop} (hi : px_ins M pc = some (ins, len)) (hE : px_isE ins = false) (hs1 : px_g1 M ins len pc lv st h = none) (hs : px_g2 ins len pc lv st h = px_br bb pc off lv st1 h) (ht : px_tg pc off = some t) (hb : bb = false) (K : px_T sx M fr lo (pc + 3, lv, st1, h) c k P) : px_T sx M fr lo (pc, lv, st, h) c k P :=
  pt_s hi hE (fun ex => by unfold px_step; rw [hs1, hs, hb]; unfold px_br; rw [px_wt_t ht]; rfl) K
end PR
