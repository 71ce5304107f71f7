/-! rows that read cells by facts -/
section PR2
variable {sx : Option (List Int32)} {M : px_M} {fr lo pc pc1 c k a : Nat} {lv : px_L} {r : List Value} {h : List px_E} {P : (Option Value ⊕ Nat) → List px_E → Prop}
theorem px_step3 {ex : px_M → List Value → List px_E → Nat → Nat → Option px_Out} {ins : Instr} {len : Nat} {st : List Value} {z} (h1 : px_g1 M ins len pc lv st h = none) (h2 : px_g2 ins len pc lv st h = none) (h3 : px_g3 sx M fr lo ins len pc lv st h = some z) : px_step sx M fr lo ex ins len pc lv st h = some z := by
  unfold px_step
  rw [h1, h2, h3]
  rfl
theorem pr_getf {idx : Nat} {q : Nat × Nat × Bool × Bool} {fs : List Value} {v : Value} (hi : px_ins M pc = some (.getfield idx, 3)) (hq : px_as2 px_fl (px_own M) idx = some q) (ha : h[a]? = some (.inr (q.1, fs))) (hv : fs[q.2.1]? = some v) (hp : pc + 3 = pc1) (K : px_R sx M fr lo (pc1, lv, v :: r, h) c k P) : px_R sx M fr lo (pc, lv, .ref a :: r, h) c k P := by
  subst hp
  refine pr_s hi (fun ex => px_step3 rfl rfl ?_) K
  show px_ck (Nat.beq 3 3) (px_wt (px_as2 px_fl (px_own M) idx) _) = _
  rw [px_ck_t (show Nat.beq 3 3 = true from rfl), px_wt_t hq]
  unfold px_ob
  rw [ha]
  show px_ck (Nat.beq q.1 q.1) (px_wt (fs[q.2.1]?) _) = _
  rw [px_ck_t (Nat.beq_refl _), px_wt_t hv]
  rfl
theorem pr_iald {i x : Int32} {l : List Int32} (hi : px_ins M pc = some (.iaload, 1)) (ha : h[a]? = some (.inl (0, .inl l))) (hn : px_in i l.length = true) (hx : l.getD i.toNatClampNeg 0 = x) (hp : pc + 1 = pc1) (K : px_R sx M fr lo (pc1, lv, .int x :: r, h) c k P) : px_R sx M fr lo (pc, lv, .int i :: .ref a :: r, h) c k P := by
  subst hp
  subst hx
  refine pr_s hi (fun ex => px_step3 rfl rfl ?_) K
  show px_ck (Nat.beq 1 1) (px_at h a _) = _
  rw [px_ck_t (show Nat.beq 1 1 = true from rfl)]
  unfold px_at
  rw [ha]
  show px_ck (px_isT 0 .int) (px_ck (px_in i l.length) _) = _
  rw [px_ck_t (by decide), px_ck_t hn]
  rfl
theorem pr_zald {i x : Int32} {l : List Int32} (hi : px_ins M pc = some (.baload, 1)) (ha : h[a]? = some (.inl (1, .inl l))) (hn : px_in i l.length = true) (hx : l.getD i.toNatClampNeg 0 = x) (hp : pc + 1 = pc1) (K : px_R sx M fr lo (pc1, lv, .int x :: r, h) c k P) : px_R sx M fr lo (pc, lv, .int i :: .ref a :: r, h) c k P := by
  subst hp
  subst hx
  refine pr_s hi (fun ex => px_step3 rfl rfl ?_) K
  show px_ck (Nat.beq 1 1) (px_at h a _) = _
  rw [px_ck_t (show Nat.beq 1 1 = true from rfl)]
  unfold px_at
  rw [ha]
  show px_ck (px_isT 1 .boolean) (px_ck (px_in i l.length) _) = _
  rw [px_ck_t (by decide), px_ck_t hn]
  rfl
theorem pr_lald {i : Int32} {x : Int64} {l : List Int64} (hi : px_ins M pc = some (.laload, 1)) (ha : h[a]? = some (.inl (2, .inr (.inl l)))) (hn : px_in i l.length = true) (hx : l.getD i.toNatClampNeg 0 = x) (hp : pc + 1 = pc1) (K : px_R sx M fr lo (pc1, lv, .long x :: r, h) c k P) : px_R sx M fr lo (pc, lv, .int i :: .ref a :: r, h) c k P := by
  subst hp
  subst hx
  refine pr_s hi (fun ex => px_step3 rfl rfl ?_) K
  show px_ck (Nat.beq 1 1) (px_at h a _) = _
  rw [px_ck_t (show Nat.beq 1 1 = true from rfl)]
  unfold px_at
  rw [ha]
  show px_ck (px_isT 2 .long) (px_ck (px_in i l.length) _) = _
  rw [px_ck_t (by decide), px_ck_t hn]
  rfl
theorem pr_aald {i : Int32} {t te : Nat} {v : Value} {l : List (Option Nat)} (hi : px_ins M pc = some (.aaload, 1)) (ha : h[a]? = some (.inl (t, .inr (.inr l)))) (ht : px_tec.getD t none = some te) (hn : px_in i l.length = true) (hx : px_rv (l.getD i.toNatClampNeg none) = v) (hp : pc + 1 = pc1) (K : px_R sx M fr lo (pc1, lv, v :: r, h) c k P) : px_R sx M fr lo (pc, lv, .int i :: .ref a :: r, h) c k P := by
  subst hp
  subst hx
  refine pr_s hi (fun ex => px_step3 rfl rfl ?_) K
  show px_ck (Nat.beq 1 1) (px_at h a _) = _
  rw [px_ck_t (show Nat.beq 1 1 = true from rfl)]
  unfold px_at
  rw [ha]
  show px_wt (px_tec.getD t none) (fun _ => px_ck (px_in i l.length) _) = _
  rw [px_wt_t ht, px_ck_t hn]
  rfl
end PR2
section PR3
variable {sx : Option (List Int32)} {M : px_M} {fr lo pc pc1 c k a : Nat} {lv : px_L} {r : List Value} {h h1 : List px_E} {P : (Option Value ⊕ Nat) → List px_E → Prop}
theorem pr_putf {idx : Nat} {q : Nat × Nat × Bool × Bool} {fs : List Value} {v : Value} {d : Nat × List Value × List FieldType} {ty : FieldType} (hi : px_ins M pc = some (.putfield idx, 3)) (hq : px_as2 px_fl (px_own M) idx = some q) (ha : h[a]? = some (.inr (q.1, fs))) (hd : px_cd[q.1]? = some d) (ht : d.2.2[q.2.1]? = some ty) (hf : px_fi ty v = true) (hl : Nat.blt q.2.1 fs.length = true) (hfin : (!q.2.2.2 || (px_ini M && (!q.2.2.1 && Nat.beq q.1 (px_own M)))) = true) (hh : h.set a (.inr (q.1, fs.set q.2.1 v)) = h1) (hp : pc + 3 = pc1)
    (K : px_R sx M fr lo (pc1, lv, r, h1) c k P) : px_R sx M fr lo (pc, lv, v :: .ref a :: r, h) c k P := by
  subst hp
  subst hh
  refine pr_s hi (fun ex => px_step3 rfl rfl ?_) K
  show px_ck (Nat.beq 3 3) (px_wt (px_as2 px_fl (px_own M) idx) _) = _
  rw [px_ck_t (show Nat.beq 3 3 = true from rfl), px_wt_t hq]
  unfold px_ob
  rw [ha]
  show px_ck (Nat.beq q.1 q.1) (px_wt (px_cd[q.1]?) _) = _
  rw [px_ck_t (Nat.beq_refl _), px_wt_t hd, px_wt_t ht, px_ck_t hf, px_ck_t hl, px_ck_t hfin]
  rfl
theorem pr_iast {i x : Int32} {l : List Int32} (hi : px_ins M pc = some (.iastore, 1)) (ha : h[a]? = some (.inl (0, .inl l))) (hn : px_in i l.length = true) (hh : h.set a (.inl (0, .inl (l.set i.toNatClampNeg x))) = h1) (hp : pc + 1 = pc1) (K : px_R sx M fr lo (pc1, lv, r, h1) c k P) : px_R sx M fr lo (pc, lv, .int x :: .int i :: .ref a :: r, h) c k P := by
  subst hp
  subst hh
  refine pr_s hi (fun ex => px_step3 rfl rfl ?_) K
  show px_ck (Nat.beq 1 1) (px_at h a _) = _
  rw [px_ck_t (show Nat.beq 1 1 = true from rfl)]
  unfold px_at
  rw [ha]
  show px_ck (px_isT 0 .int) (px_ck (px_in i l.length) _) = _
  rw [px_ck_t (by decide), px_ck_t hn]
  rfl
theorem pr_zast {i x : Int32} {l : List Int32} (hi : px_ins M pc = some (.bastore, 1)) (ha : h[a]? = some (.inl (1, .inl l))) (hx : px_fi .boolean (.int x) = true) (hn : px_in i l.length = true) (hh : h.set a (.inl (1, .inl (l.set i.toNatClampNeg x))) = h1) (hp : pc + 1 = pc1) (K : px_R sx M fr lo (pc1, lv, r, h1) c k P) : px_R sx M fr lo (pc, lv, .int x :: .int i :: .ref a :: r, h) c k P := by
  subst hp
  subst hh
  refine pr_s hi (fun ex => px_step3 rfl rfl ?_) K
  show px_ck (Nat.beq 1 1) (px_at h a _) = _
  rw [px_ck_t (show Nat.beq 1 1 = true from rfl)]
  unfold px_at
  rw [ha]
  show px_ck (px_isT 1 .boolean) (px_ck (px_fi .boolean (.int x)) (px_ck (px_in i l.length) _)) = _
  rw [px_ck_t (by decide), px_ck_t hx, px_ck_t hn]
  rfl
theorem px_get_eq {α : Type} {l : List α} {i n : Nat} {e : α} (hl : l.length = n) (h : i < n) : (l.set i e)[i]? = some e := List.getElem?_set_self (by rw [hl]; exact h)
theorem px_get_ne {α : Type} {l : List α} {i j : Nat} {e : α} {x : Option α} (h : i ≠ j) (hx : l[j]? = x) : (l.set i e)[j]? = x := (List.getElem?_set_ne h).trans hx
theorem px_get_lt {α : Type} {l m : List α} {j n : Nat} {x : Option α} (hl : l.length = n) (h : j < n) (hx : l[j]? = x) : (l ++ m)[j]? = x := (List.getElem?_append_left (by rw [hl]; exact h)).trans hx
theorem px_get_ge {α : Type} {l m : List α} {j k n : Nat} {x : Option α} (hl : l.length = n) (h : n + k = j) (hx : m[k]? = x) : (l ++ m)[j]? = x := by
  subst h
  rw [List.getElem?_append_right (by rw [hl]; exact Nat.le_add_right _ _), hl, Nat.add_sub_cancel_left]
  exact hx
theorem px_len_set {α : Type} {l : List α} {i n : Nat} {e : α} (hl : l.length = n) : (l.set i e).length = n := List.length_set.trans hl
theorem px_len_app {α : Type} {l m : List α} {n k : Nat} (hl : l.length = n) (h : m.length + n = k) : (l ++ m).length = k := by rw [List.length_append, hl, Nat.add_comm]; exact h
end PR3
section PR4
variable {sx : Option (List Int32)} {M N : px_M} {fr lo f l pc pc1 c k c1 k1 c2 k2 a b t z1 z2 n len : Nat} {ins : Instr} {lv : px_L} {as rest r st : List Value} {fs : List Value} {h h1 : List px_E} {P : (Option Value ⊕ Nat) → List px_E → Prop}
theorem px_inv_hs {idx : Nat} (ex : px_M → List Value → List px_E → Nat → Nat → Option px_Out) (hq : px_as2 px_mi (px_own M) idx = some (1, t)) (hN : px_mt[t]? = some N) (hT : px_tk (px_na N) [] st = some (as, .ref b :: rest)) (ha : h[b]? = some (.inr (px_own N, fs))) (hf : fr = f + 1) (hc : Nat.ble (px_cat rest) 8 = true) (hl : Nat.ble (px_ml N + 19) lo = true) (hlo : lo - (px_ml N + 19) = l) :
    px_step sx M fr lo ex (.invokevirtual idx) 3 pc lv st h = px_wt (ex N (.ref b :: as) h f l) fun o => px_back M pc lv rest o := by
  subst hf
  subst hlo
  unfold px_step
  show px_g4 M (f + 1) lo ex (.invokevirtual idx) 3 pc lv st h = _
  show px_ck (Nat.beq 3 3) (px_wt (px_as2 px_mi (px_own M) idx) _) = _
  rw [px_ck_t (show Nat.beq 3 3 = true from rfl), px_wt_t hq]
  show px_ck (Nat.beq 1 1) (px_wt (px_mt[t]?) _) = _
  rw [px_ck_t (show Nat.beq 1 1 = true from rfl), px_wt_t hN, px_wt_t hT]
  show px_ob h b _ = _
  unfold px_ob
  rw [ha]
  show px_ck (Nat.beq (px_own N) (px_own N)) (px_ck (Nat.ble (px_cat rest) 8) (px_ck (Nat.ble (px_ml N + 19) lo) _)) = _
  rw [px_ck_t (Nat.beq_refl _), px_ck_t hc, px_ck_t hl]
theorem pr_mh {es : Nat → List px_E} (hi : px_ins M pc = some (ins, len)) (hs : ∀ ex, px_step sx M fr lo ex ins len pc lv st h = some (z1, z2, .inl (pc1, lv, .ref h.length :: r, h ++ es h.length))) (hlen : h.length = n) (hh : h ++ es n = h1) (hc : z1 + c1 ≤ c) (hk : z2 + k1 ≤ k) (K : px_R sx M fr lo (pc1, lv, .ref n :: r, h1) c1 k1 P) : px_R sx M fr lo (pc, lv, st, h) c k P := by
  subst hh
  subst hlen
  exact pr_m hi hs hc hk K
theorem pr_last {i : Int32} {x : Int64} {l : List Int64} (hi : px_ins M pc = some (.lastore, 1)) (ha : h[a]? = some (.inl (2, .inr (.inl l)))) (hn : px_in i l.length = true) (hh : h.set a (.inl (2, .inr (.inl (l.set i.toNatClampNeg x)))) = h1) (hp : pc + 1 = pc1) (K : px_R sx M fr lo (pc1, lv, r, h1) c k P) : px_R sx M fr lo (pc, lv, .long x :: .int i :: .ref a :: r, h) c k P := by
  subst hp
  subst hh
  refine pr_s hi (fun ex => px_step3 rfl rfl ?_) K
  show px_ck (Nat.beq 1 1) (px_at h a _) = _
  rw [px_ck_t (show Nat.beq 1 1 = true from rfl)]
  unfold px_at
  rw [ha]
  show px_ck (px_isT 2 .long) (px_ck (px_in i l.length) _) = _
  rw [px_ck_t (by decide), px_ck_t hn]
  rfl
theorem pr_aast {i : Int32} {v te : Nat} {t : Nat} {vs : List Value} {l : List (Option Nat)} (hi : px_ins M pc = some (.aastore, 1)) (ha : h[a]? = some (.inl (t, .inr (.inr l)))) (ht : px_tec.getD t none = some te) (hv : h[v]? = some (.inr (te, vs))) (hn : px_in i l.length = true) (hh : h.set a (.inl (t, .inr (.inr (l.set i.toNatClampNeg (some v))))) = h1) (hp : pc + 1 = pc1) (K : px_R sx M fr lo (pc1, lv, r, h1) c k P) : px_R sx M fr lo (pc, lv, .ref v :: .int i :: .ref a :: r, h) c k P := by
  subst hp
  subst hh
  refine pr_s hi (fun ex => px_step3 rfl rfl ?_) K
  show px_ck (Nat.beq 1 1) (px_at h a _) = _
  rw [px_ck_t (show Nat.beq 1 1 = true from rfl)]
  unfold px_at
  rw [ha]
  show px_wt (px_tec.getD t none) (fun te => px_ob h v _) = _
  rw [px_wt_t ht]
  unfold px_ob
  rw [hv]
  show px_ck (Nat.beq te te) (px_ck (px_in i l.length) _) = _
  rw [px_ck_t (Nat.beq_refl _), px_ck_t hn]
  rfl
theorem pr_alen {e : px_A} {x : Int32} (hi : px_ins M pc = some (.arraylength, 1)) (ha : h[a]? = some (.inl (t, e))) {ty : FieldType} (ht : px_tys[t]? = some ty) (hx : Int32.ofNat (px_len e) = x) (hp : pc + 1 = pc1) (K : px_R sx M fr lo (pc1, lv, .int x :: r, h) c k P) : px_R sx M fr lo (pc, lv, .ref a :: r, h) c k P := by
  subst hp
  subst hx
  refine pr_s hi (fun ex => px_step3 rfl rfl ?_) K
  show px_ck (Nat.beq 1 1) (px_at h a _) = _
  rw [px_ck_t (show Nat.beq 1 1 = true from rfl)]
  unfold px_at
  rw [ha]
  show px_wt (px_tys[t]?) _ = _
  rw [px_wt_t ht]
  rfl
theorem pt_lald {i : Int32} {x : Int64} {l : List Int64} {P : px_St → Prop} (hi : px_ins M pc = some (.laload, 1)) (ha : h[a]? = some (.inl (2, .inr (.inl l)))) (hn : px_in i l.length = true) (hx : l.getD i.toNatClampNeg 0 = x) (hp : pc + 1 = pc1) (K : px_T sx M fr lo (pc1, lv, .long x :: r, h) c k P) : px_T sx M fr lo (pc, lv, .int i :: .ref a :: r, h) c k P := by
  subst hp
  subst hx
  refine pt_s hi rfl (fun ex => px_step3 rfl rfl ?_) K
  show px_ck (Nat.beq 1 1) (px_at h a _) = _
  rw [px_ck_t (show Nat.beq 1 1 = true from rfl)]
  unfold px_at
  rw [ha]
  show px_ck (px_isT 2 .long) (px_ck (px_in i l.length) _) = _
  rw [px_ck_t (by decide), px_ck_t hn]
  rfl
theorem pr_copy {idx t q2 : Nat} {n dp sp : Int32} {src dst : Nat} {l g : List Int32} (hi : px_ins M pc = some (.invokestatic idx, 3)) (hq : px_as2 px_mi (px_own M) idx = some (7, q2)) (ha : h[src]? = some (.inl (t, .inl l))) (hb : h[dst]? = some (.inl (t, .inl g))) (hty : (px_isT t .int || px_isT t .boolean) = true) (hneg : (!decide (n < 0) && !decide (sp < 0) && !decide (dp < 0)) = true) (h4 : Nat.ble (sp.toNatClampNeg + n.toNatClampNeg) l.length = true) (h5 : Nat.ble (dp.toNatClampNeg + n.toNatClampNeg) g.length = true) (hbo : (px_isT t .int || l.all (fun x => decide (x = 0) || decide (x = 1))) = true) (hf : Nat.blt 0 fr = true) (hl : Nat.ble (px_cat r + px_acw) lo = true)
    (hh : h.set dst (.inl (t, .inl (g.take dp.toNatClampNeg ++ ((l.drop sp.toNatClampNeg).take n.toNatClampNeg) ++ g.drop (dp.toNatClampNeg + n.toNatClampNeg)))) = h1) (hp : pc + 3 = pc1) (K : px_R sx M fr lo (pc1, lv, r, h1) c k P) : px_R sx M fr lo (pc, lv, .int n :: .int dp :: .ref dst :: .int sp :: .ref src :: r, h) c k P := by
  subst hp
  subst hh
  refine pr_s hi (fun ex => ?_) K
  unfold px_step
  show px_g4 M fr lo ex (.invokestatic idx) 3 pc lv _ h = _
  show px_ck (Nat.beq 3 3) (px_wt (px_as2 px_mi (px_own M) idx) _) = _
  rw [px_ck_t (show Nat.beq 3 3 = true from rfl), px_wt_t hq]
  show px_at h src _ = _
  unfold px_at
  rw [ha]
  show px_at h dst _ = _
  unfold px_at
  rw [hb]
  show px_ck (Nat.beq t t) (px_or (px_ck (px_isT t .int || px_isT t .boolean) (px_ck _ (px_ck _ (px_ck _ (px_ck _ (px_ck _ (px_ck _ _))))))) _) = _
  rw [px_ck_t (Nat.beq_refl _), px_ck_t hty, px_ck_t hneg, px_ck_t h4, px_ck_t h5, px_ck_t hbo, px_ck_t hf, px_ck_t hl]
  rfl
theorem pr_copyl {idx q2 : Nat} {n dp sp : Int32} {src dst : Nat} {l g : List Int64} (hi : px_ins M pc = some (.invokestatic idx, 3)) (hq : px_as2 px_mi (px_own M) idx = some (7, q2)) (ha : h[src]? = some (.inl (2, .inr (.inl l)))) (hb : h[dst]? = some (.inl (2, .inr (.inl g)))) (hneg : (!decide (n < 0) && !decide (sp < 0) && !decide (dp < 0)) = true) (h4 : Nat.ble (sp.toNatClampNeg + n.toNatClampNeg) l.length = true) (h5 : Nat.ble (dp.toNatClampNeg + n.toNatClampNeg) g.length = true) (hf : Nat.blt 0 fr = true) (hl : Nat.ble (px_cat r + px_acw) lo = true)
    (hh : h.set dst (.inl (2, .inr (.inl (g.take dp.toNatClampNeg ++ ((l.drop sp.toNatClampNeg).take n.toNatClampNeg) ++ g.drop (dp.toNatClampNeg + n.toNatClampNeg))))) = h1) (hp : pc + 3 = pc1) (K : px_R sx M fr lo (pc1, lv, r, h1) c k P) : px_R sx M fr lo (pc, lv, .int n :: .int dp :: .ref dst :: .int sp :: .ref src :: r, h) c k P := by
  subst hp
  subst hh
  refine pr_s hi (fun ex => ?_) K
  unfold px_step
  show px_g4 M fr lo ex (.invokestatic idx) 3 pc lv _ h = _
  show px_ck (Nat.beq 3 3) (px_wt (px_as2 px_mi (px_own M) idx) _) = _
  rw [px_ck_t (show Nat.beq 3 3 = true from rfl), px_wt_t hq]
  show px_at h src _ = _
  unfold px_at
  rw [ha]
  show px_at h dst _ = _
  unfold px_at
  rw [hb]
  show px_ck (Nat.beq 2 2) (px_or (px_ck (px_isT 2 .int || px_isT 2 .boolean) _) (px_ck (px_isT 2 .long) (px_ck _ (px_ck _ (px_ck _ (px_ck _ (px_ck _ _))))))) = _
  rw [px_ck_t (show Nat.beq 2 2 = true from rfl)]
  show px_ck (px_isT 2 .long) (px_ck _ (px_ck _ (px_ck _ (px_ck _ (px_ck _ _))))) = _
  rw [px_ck_t (show px_isT 2 .long = true from rfl), px_ck_t hneg, px_ck_t h4, px_ck_t h5, px_ck_t hf, px_ck_t hl]
  rfl
end PR4
