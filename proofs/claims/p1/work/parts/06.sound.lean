/-! THE PURE MACHINE IS SOUND, 1: values, locals, sums, branches -/
theorem px_no {z : Nat × Nat × (px_St ⊕ px_Re)} (h : (none : px_Nx) = some z) : False := by cases h
def px_cv (b sc : Nat) (v : Value) : Value := match v with
  | .ref k => .ref (b + k)
  | .int x => .int x
  | .long x => .long x
  | .float x => .float x
  | .double x => .double x
  | .null => .null
  | .retAddr _ => .ref sc
theorem px_cv_cat (b sc : Nat) (v : Value) : (px_cv b sc v).category = v.category := by cases v <;> rfl
def px_cq (b sc : Nat) (q : Nat × Value) : Nat × Value := (q.1, px_cv b sc q.2)
theorem px_lo_mem : ∀ (lv : px_L) (k : Nat) (v : Value), px_lo lv k = some v → (k, v) ∈ lv
  | [], _, _, h => by cases h
  | (j, w) :: r, k, v, h => by
    unfold px_lo at h
    cases hb : Nat.beq j k with
    | true =>
      rw [hb, cond_true] at h
      cases h
      rw [Nat.eq_of_beq_eq_true hb]
      exact List.mem_cons_self
    | false =>
      rw [hb, cond_false] at h
      exact List.mem_cons_of_mem _ (px_lo_mem r k v h)
theorem px_lo_s {b sc n k : Nat} {lv : px_L} {ls : Array Slot} {v : Value} (hl : lv_has ls n (lv.map (px_cq b sc))) (h : px_lo lv k = some v) : ls[k]? = some (.val (px_cv b sc v)) :=
  hl.2.2 (px_cq b sc (k, v)) (List.mem_map_of_mem (px_lo_mem lv k v h))
theorem px_s1_map (b sc : Nat) (lv : px_L) (i : Nat) (v w : Value) (hw : px_cv b sc v = w) : (i, w) :: (lv.map (px_cq b sc)).filter (fun q => !(q.1 == i) && !(q.1 + 1 == i && q.2.category == 2)) = (px_s1 lv i v).map (px_cq b sc) := by
  subst hw
  unfold px_s1
  rw [List.map_cons, List.filter_map]
  refine congrArg _ (congrArg _ (congrArg (fun f => lv.filter f) (funext fun q => ?_)))
  simp only [Function.comp, px_cq, px_k1, px_cv_cat]
theorem px_s2_map (b sc : Nat) (lv : px_L) (i : Nat) (v w : Value) (hw : px_cv b sc v = w) : (i, w) :: (lv.map (px_cq b sc)).filter (fun q => !(q.1 == i) && (!(q.1 == i + 1) && !(q.1 + 1 == i && q.2.category == 2))) = (px_s2 lv i v).map (px_cq b sc) := by
  subst hw
  unfold px_s2
  rw [List.map_cons, List.filter_map]
  refine congrArg _ (congrArg _ (congrArg (fun f => lv.filter f) (funext fun q => ?_)))
  simp only [Function.comp, px_cq, px_k2, px_cv_cat]
theorem px_blt {a b : Nat} (h : Nat.blt a b = true) : a < b := Nat.lt_of_lt_of_le (Nat.lt_succ_self a) (Nat.le_of_ble_eq_true h)
theorem px_beq {a b : Nat} (h : Nat.beq a b = true) : a = b := Nat.eq_of_beq_eq_true h
theorem px_ble {a b : Nat} (h : Nat.ble a b = true) : a ≤ b := Nat.le_of_ble_eq_true h
theorem px_tg_s {pc : Nat} {off : Int} {t : Nat} (h : px_tg pc off = some t) : (pc : Int) + off = (t : Int) := by
  unfold px_tg at h
  split at h
  · cases h
    assumption
  · cases h
section PXS1
variable {p : Program} {l : Launch} {e : Env} {R : Room} {s : State} {m : MethodId} {args : Array Value} {below : List Frame} {meth : Method} {c : Code} {H : Heap} {locs : List Loc} {cells slots : Nat} {Q : State → Prop}
theorem px_br_s {bb : Bool} {pc : Nat} {off : Int} {lv : px_L} {st : List Value} {h : List px_E} {z} (hg : px_br bb pc off lv st h = some z) : ∃ t : Nat, (pc : Int) + off = (t : Int) ∧ (bb = true → (0, 0, .inl (t, lv, st, h)) = z) ∧ (bb = false → (0, 0, .inl (pc + 3, lv, st, h)) = z) := by
  unfold px_br at hg
  obtain ⟨t, ht, hg⟩ := px_wt_s hg
  refine ⟨t, px_tg_s ht, fun q => ?_, fun q => ?_⟩
  · subst q; exact Option.some.inj hg
  · subst q; exact Option.some.inj hg
theorem px_g1_ok {b sc : Nat} {M : px_M} {ins : Instr} {len pc : Nat} {lv : px_L} {st : List Value} {h : List px_E} {ls : Array Slot} {z} (hx : p.tables.exec = Jvm.exec) (hb : c.code = px_cc M) (hd : decode (px_cc M) pc = .ok (ins, len)) (hg : px_g1 M ins len pc lv st h = some z) (hl : lv_has ls (px_ml M) (lv.map (px_cq b sc)))
    (kk : ∀ (pc1 : Nat) (lv1 : px_L) (st1 : List Value) (ls1 : Array Slot), (0, 0, .inl (pc1, lv1, st1, h)) = z → lv_has ls1 (px_ml M) (lv1.map (px_cq b sc)) → W p l e R s m args below meth c H locs cells slots Q (F0 m pc1 ls1 (st1.map (px_cv b sc)))) :
    W p l e R s m args below meth c H locs cells slots Q (F0 m pc ls (st.map (px_cv b sc))) := by
  cases ins with
  | iconst n =>
    obtain ⟨hlen, hg1⟩ := px_ck_s hg
    cases px_beq hlen
    obtain rfl := Option.some.inj hg1
    exact lv_iconst (v := Int32.ofInt n) hx hb hd rfl (kk _ _ _ _ rfl hl)
  | bipush n =>
    obtain ⟨hlen, hg1⟩ := px_ck_s hg
    cases px_beq hlen
    obtain rfl := Option.some.inj hg1
    exact lv_bipush hx hb hd rfl (kk _ _ _ _ rfl hl)
  | sipush n =>
    obtain ⟨hlen, hg1⟩ := px_ck_s hg
    cases px_beq hlen
    obtain rfl := Option.some.inj hg1
    exact lv_sipush hx hb hd rfl (kk _ _ _ _ rfl hl)
  | lconst n =>
    obtain ⟨hlen, hg1⟩ := px_ck_s hg
    cases px_beq hlen
    obtain rfl := Option.some.inj hg1
    exact lv_lconst hx hb hd rfl (kk _ _ _ _ rfl hl)
  | iload_n k =>
    obtain ⟨hlen, hg1⟩ := px_ck_s hg
    cases px_beq hlen
    obtain ⟨v, hv, hg2⟩ := px_wt_s hg1
    obtain ⟨x, r, he, hg3⟩ := px_pi_s hg2
    cases he
    obtain rfl := Option.some.inj hg3
    exact lv_iload_n hx hb hd rfl (px_lo_s hl hv) (kk _ _ _ _ rfl hl)
  | iload k =>
    obtain ⟨hlen, hg1⟩ := px_ck_s hg
    cases px_beq hlen
    obtain ⟨v, hv, hg2⟩ := px_wt_s hg1
    obtain ⟨x, r, he, hg3⟩ := px_pi_s hg2
    cases he
    obtain rfl := Option.some.inj hg3
    exact lv_iload hx hb hd (px_lo_s hl hv) (kk _ _ _ _ rfl hl)
  | lload_n k =>
    obtain ⟨hlen, hg1⟩ := px_ck_s hg
    cases px_beq hlen
    obtain ⟨v, hv, hg2⟩ := px_wt_s hg1
    obtain ⟨x, r, he, hg3⟩ := px_pl_s hg2
    cases he
    obtain rfl := Option.some.inj hg3
    exact lv_lload_n hx hb hd rfl (px_lo_s hl hv) (kk _ _ _ _ rfl hl)
  | lload k =>
    obtain ⟨hlen, hg1⟩ := px_ck_s hg
    cases px_beq hlen
    obtain ⟨v, hv, hg2⟩ := px_wt_s hg1
    obtain ⟨x, r, he, hg3⟩ := px_pl_s hg2
    cases he
    obtain rfl := Option.some.inj hg3
    exact lv_lload hx hb hd (px_lo_s hl hv) (kk _ _ _ _ rfl hl)
  | dload_n k =>
    obtain ⟨hlen, hg1⟩ := px_ck_s hg
    cases px_beq hlen
    obtain ⟨v, hv, hg2⟩ := px_wt_s hg1
    obtain ⟨x, r, he, hg3⟩ := px_pd_s hg2
    cases he
    obtain rfl := Option.some.inj hg3
    exact lv_dload_n hx hb hd rfl (px_lo_s hl hv) (kk _ _ _ _ rfl hl)
  | dload k =>
    obtain ⟨hlen, hg1⟩ := px_ck_s hg
    cases px_beq hlen
    obtain ⟨v, hv, hg2⟩ := px_wt_s hg1
    obtain ⟨x, r, he, hg3⟩ := px_pd_s hg2
    cases he
    obtain rfl := Option.some.inj hg3
    exact lv_dload hx hb hd (px_lo_s hl hv) (kk _ _ _ _ rfl hl)
  | aload_n k =>
    obtain ⟨hlen, hg1⟩ := px_ck_s hg
    cases px_beq hlen
    obtain ⟨v, hv, hg2⟩ := px_wt_s hg1
    obtain ⟨hR, hg3⟩ := px_ck_s hg2
    obtain rfl := Option.some.inj hg3
    have hv2 := px_lo_s hl hv
    have k2 := kk _ _ _ _ rfl hl
    cases v with
    | ref x => exact lv_aload_n hx hb hd rfl hv2 k2
    | retAddr x => exact lv_aload_n hx hb hd rfl hv2 k2
    | _ => cases hR
  | aload k =>
    obtain ⟨hlen, hg1⟩ := px_ck_s hg
    cases px_beq hlen
    obtain ⟨v, hv, hg2⟩ := px_wt_s hg1
    obtain ⟨hR, hg3⟩ := px_ck_s hg2
    obtain rfl := Option.some.inj hg3
    have hv2 := px_lo_s hl hv
    have k2 := kk _ _ _ _ rfl hl
    cases v with
    | ref x => exact lv_aload hx hb hd hv2 k2
    | retAddr x => exact lv_aload hx hb hd hv2 k2
    | _ => cases hR
  | istore_n k =>
    obtain ⟨hlen, hg1⟩ := px_ck_s hg
    cases px_beq hlen
    obtain ⟨hk, hg2⟩ := px_ck_s hg1
    obtain ⟨x, r, rfl, hg3⟩ := px_pi_s hg2
    obtain rfl := Option.some.inj hg3
    exact lv_istore_n hx hb hd rfl hl (px_blt hk) (px_s1_map b sc lv _ (.int x) _ rfl) (fun ls1 hl1 => kk _ _ _ _ rfl hl1)
  | istore k =>
    obtain ⟨hlen, hg1⟩ := px_ck_s hg
    cases px_beq hlen
    obtain ⟨hk, hg2⟩ := px_ck_s hg1
    obtain ⟨x, r, rfl, hg3⟩ := px_pi_s hg2
    obtain rfl := Option.some.inj hg3
    exact lv_istore hx hb hd hl (px_blt hk) (px_s1_map b sc lv _ (.int x) _ rfl) (fun ls1 hl1 => kk _ _ _ _ rfl hl1)
  | astore_n k =>
    obtain ⟨hlen, hg1⟩ := px_ck_s hg
    cases px_beq hlen
    obtain ⟨hk, hg2⟩ := px_ck_s hg1
    obtain ⟨x, r, rfl, hg3⟩ := px_pr_s hg2
    obtain rfl := Option.some.inj hg3
    exact lv_astore_n hx hb hd rfl hl (px_blt hk) (px_s1_map b sc lv _ (.ref x) _ rfl) (fun ls1 hl1 => kk _ _ _ _ rfl hl1)
  | astore k =>
    obtain ⟨hlen, hg1⟩ := px_ck_s hg
    cases px_beq hlen
    obtain ⟨hk, hg2⟩ := px_ck_s hg1
    obtain ⟨x, r, rfl, hg3⟩ := px_pr_s hg2
    obtain rfl := Option.some.inj hg3
    exact lv_astore hx hb hd hl (px_blt hk) (px_s1_map b sc lv _ (.ref x) _ rfl) (fun ls1 hl1 => kk _ _ _ _ rfl hl1)
  | lstore_n k =>
    obtain ⟨hlen, hg1⟩ := px_ck_s hg
    cases px_beq hlen
    obtain ⟨hk, hg2⟩ := px_ck_s hg1
    obtain ⟨x, r, rfl, hg3⟩ := px_pl_s hg2
    obtain rfl := Option.some.inj hg3
    exact lv_lstore_n hx hb hd rfl hl (px_blt hk) (px_s2_map b sc lv _ (.long x) _ rfl) (fun ls1 hl1 => kk _ _ _ _ rfl hl1)
  | lstore k =>
    obtain ⟨hlen, hg1⟩ := px_ck_s hg
    cases px_beq hlen
    obtain ⟨hk, hg2⟩ := px_ck_s hg1
    obtain ⟨x, r, rfl, hg3⟩ := px_pl_s hg2
    obtain rfl := Option.some.inj hg3
    exact lv_lstore hx hb hd hl (px_blt hk) (px_s2_map b sc lv _ (.long x) _ rfl) (fun ls1 hl1 => kk _ _ _ _ rfl hl1)
  | dstore_n k =>
    obtain ⟨hlen, hg1⟩ := px_ck_s hg
    cases px_beq hlen
    obtain ⟨hk, hg2⟩ := px_ck_s hg1
    obtain ⟨x, r, rfl, hg3⟩ := px_pd_s hg2
    obtain rfl := Option.some.inj hg3
    exact lv_dstore_n hx hb hd rfl hl (px_blt hk) (px_s2_map b sc lv _ (.double x) _ rfl) (fun ls1 hl1 => kk _ _ _ _ rfl hl1)
  | dstore k =>
    obtain ⟨hlen, hg1⟩ := px_ck_s hg
    cases px_beq hlen
    obtain ⟨hk, hg2⟩ := px_ck_s hg1
    obtain ⟨x, r, rfl, hg3⟩ := px_pd_s hg2
    obtain rfl := Option.some.inj hg3
    exact lv_dstore hx hb hd hl (px_blt hk) (px_s2_map b sc lv _ (.double x) _ rfl) (fun ls1 hl1 => kk _ _ _ _ rfl hl1)
  | iinc k n =>
    obtain ⟨hlen, hg1⟩ := px_ck_s hg
    cases px_beq hlen
    obtain ⟨hk, hg2⟩ := px_ck_s hg1
    obtain ⟨v, hv, hg3⟩ := px_wt_s hg2
    obtain ⟨x, r, he, hg4⟩ := px_pi_s hg3
    cases he
    obtain rfl := Option.some.inj hg4
    obtain ⟨k9, hk9⟩ := List.getElem?_of_mem (List.mem_map_of_mem (f := px_cq b sc) (px_lo_mem lv k _ hv))
    exact lv_iinc (k := k9) (v := x + Int32.ofInt n) hx hb hd hl hk9 rfl (px_blt hk) (px_s1_map b sc lv _ (.int (x + Int32.ofInt n)) _ rfl) (fun ls1 hl1 => kk _ _ _ _ rfl hl1)
  | iadd =>
    obtain ⟨hlen, hg1⟩ := px_ck_s hg
    cases px_beq hlen
    obtain ⟨y, r, rfl, hg2⟩ := px_pi_s hg1
    obtain ⟨x, r, rfl, hg3⟩ := px_pi_s hg2
    obtain rfl := Option.some.inj hg3
    exact lv_iadd hx hb hd (kk _ _ _ _ rfl hl)
  | isub =>
    obtain ⟨hlen, hg1⟩ := px_ck_s hg
    cases px_beq hlen
    obtain ⟨y, r, rfl, hg2⟩ := px_pi_s hg1
    obtain ⟨x, r, rfl, hg3⟩ := px_pi_s hg2
    obtain rfl := Option.some.inj hg3
    exact lv_isub hx hb hd (kk _ _ _ _ rfl hl)
  | imul =>
    obtain ⟨hlen, hg1⟩ := px_ck_s hg
    cases px_beq hlen
    obtain ⟨y, r, rfl, hg2⟩ := px_pi_s hg1
    obtain ⟨x, r, rfl, hg3⟩ := px_pi_s hg2
    obtain rfl := Option.some.inj hg3
    exact lv_imul hx hb hd (kk _ _ _ _ rfl hl)
  | iand =>
    obtain ⟨hlen, hg1⟩ := px_ck_s hg
    cases px_beq hlen
    obtain ⟨y, r, rfl, hg2⟩ := px_pi_s hg1
    obtain ⟨x, r, rfl, hg3⟩ := px_pi_s hg2
    obtain rfl := Option.some.inj hg3
    exact lv_iand hx hb hd (kk _ _ _ _ rfl hl)
  | ior =>
    obtain ⟨hlen, hg1⟩ := px_ck_s hg
    cases px_beq hlen
    obtain ⟨y, r, rfl, hg2⟩ := px_pi_s hg1
    obtain ⟨x, r, rfl, hg3⟩ := px_pi_s hg2
    obtain rfl := Option.some.inj hg3
    exact lv_ior hx hb hd (kk _ _ _ _ rfl hl)
  | ishl =>
    obtain ⟨hlen, hg1⟩ := px_ck_s hg
    cases px_beq hlen
    obtain ⟨y, r, rfl, hg2⟩ := px_pi_s hg1
    obtain ⟨x, r, rfl, hg3⟩ := px_pi_s hg2
    obtain rfl := Option.some.inj hg3
    exact lv_ishl hx hb hd (kk _ _ _ _ rfl hl)
  | ishr =>
    obtain ⟨hlen, hg1⟩ := px_ck_s hg
    cases px_beq hlen
    obtain ⟨y, r, rfl, hg2⟩ := px_pi_s hg1
    obtain ⟨x, r, rfl, hg3⟩ := px_pi_s hg2
    obtain rfl := Option.some.inj hg3
    exact lv_ishr hx hb hd (kk _ _ _ _ rfl hl)
  | idiv =>
    obtain ⟨hlen, hg1⟩ := px_ck_s hg
    cases px_beq hlen
    obtain ⟨y, r, rfl, hg2⟩ := px_pi_s hg1
    obtain ⟨x, r, rfl, hg3⟩ := px_pi_s hg2
    obtain ⟨hy, hg4⟩ := px_ck_s hg3
    obtain rfl := Option.some.inj hg4
    exact lv_idiv hx hb hd (by simpa using hy) (kk _ _ _ _ rfl hl)
  | irem =>
    obtain ⟨hlen, hg1⟩ := px_ck_s hg
    cases px_beq hlen
    obtain ⟨y, r, rfl, hg2⟩ := px_pi_s hg1
    obtain ⟨x, r, rfl, hg3⟩ := px_pi_s hg2
    obtain ⟨hy, hg4⟩ := px_ck_s hg3
    obtain rfl := Option.some.inj hg4
    exact lv_irem hx hb hd (by simpa using hy) (kk _ _ _ _ rfl hl)
  | ladd =>
    obtain ⟨hlen, hg1⟩ := px_ck_s hg
    cases px_beq hlen
    obtain ⟨y, r, rfl, hg2⟩ := px_pl_s hg1
    obtain ⟨x, r, rfl, hg3⟩ := px_pl_s hg2
    obtain rfl := Option.some.inj hg3
    exact lv_ladd hx hb hd (kk _ _ _ _ rfl hl)
  | lmul =>
    obtain ⟨hlen, hg1⟩ := px_ck_s hg
    cases px_beq hlen
    obtain ⟨y, r, rfl, hg2⟩ := px_pl_s hg1
    obtain ⟨x, r, rfl, hg3⟩ := px_pl_s hg2
    obtain rfl := Option.some.inj hg3
    exact lv_lmul hx hb hd (kk _ _ _ _ rfl hl)
  | lcmp =>
    obtain ⟨hlen, hg1⟩ := px_ck_s hg
    cases px_beq hlen
    obtain ⟨y, r, rfl, hg2⟩ := px_pl_s hg1
    obtain ⟨x, r, rfl, hg3⟩ := px_pl_s hg2
    obtain rfl := Option.some.inj hg3
    exact W.lcmp hx hb hd (kk _ _ _ _ rfl hl)
  | i2l =>
    obtain ⟨hlen, hg1⟩ := px_ck_s hg
    cases px_beq hlen
    obtain ⟨x, r, rfl, hg2⟩ := px_pi_s hg1
    obtain rfl := Option.some.inj hg2
    exact lv_i2l hx hb hd rfl (kk _ _ _ _ rfl hl)
  | i2d =>
    obtain ⟨hlen, hg1⟩ := px_ck_s hg
    cases px_beq hlen
    obtain ⟨x, r, rfl, hg2⟩ := px_pi_s hg1
    obtain rfl := Option.some.inj hg2
    exact lv_i2d hx hb hd (kk _ _ _ _ rfl hl)
  | dcmp op =>
    obtain ⟨hlen, hg1⟩ := px_ck_s hg
    cases px_beq hlen
    obtain ⟨y, r, rfl, hg2⟩ := px_pd_s hg1
    obtain ⟨x, r, rfl, hg3⟩ := px_pd_s hg2
    obtain rfl := Option.some.inj hg3
    exact lv_dcmp hx hb hd (kk _ _ _ _ rfl hl)
  | ddiv =>
    obtain ⟨hlen, hg1⟩ := px_ck_s hg
    cases px_beq hlen
    obtain ⟨y, r, rfl, hg2⟩ := px_pd_s hg1
    obtain ⟨x, r, rfl, hg3⟩ := px_pd_s hg2
    obtain ⟨hy, hg4⟩ := px_ck_s hg3
    obtain rfl := Option.some.inj hg4
    exact lv_ddiv hx hb hd (by unfold vf_n64; exact of_decide_eq_true hy) (kk _ _ _ _ rfl hl)
  | dconst n =>
    obtain ⟨hlen, hg1⟩ := px_ck_s hg
    cases px_beq hlen
    obtain ⟨hy, hg2⟩ := px_ck_s hg1
    cases of_decide_eq_true hy
    obtain rfl := Option.some.inj hg2
    exact lv_dconst0 hx hb hd (kk _ _ _ _ rfl hl)
  | dup =>
    obtain ⟨hlen, hg1⟩ := px_ck_s hg
    cases px_beq hlen
    obtain ⟨v, r, rfl, hg2⟩ := px_pv_s hg1
    obtain ⟨hy, hg3⟩ := px_ck_s hg2
    obtain rfl := Option.some.inj hg3
    exact lv_dup hx hb hd ((px_cv_cat b sc v).trans (px_beq hy)) (kk _ _ _ _ rfl hl)
  | dup2 =>
    obtain ⟨hlen, hg1⟩ := px_ck_s hg
    cases px_beq hlen
    obtain ⟨v, r, rfl, hg2⟩ := px_pv_s hg1
    obtain ⟨w, r, rfl, hg3⟩ := px_pv_s hg2
    obtain ⟨hy, hg4⟩ := px_ck_s hg3
    obtain ⟨hz, hg5⟩ := px_ck_s hg4
    obtain rfl := Option.some.inj hg5
    exact lv_dup2_11 hx hb hd ((px_cv_cat b sc v).trans (px_beq hy)) ((px_cv_cat b sc w).trans (px_beq hz)) (kk _ _ _ _ rfl hl)
  | pop =>
    obtain ⟨hlen, hg1⟩ := px_ck_s hg
    cases px_beq hlen
    obtain ⟨v, r, rfl, hg2⟩ := px_pv_s hg1
    obtain ⟨hy, hg3⟩ := px_ck_s hg2
    obtain rfl := Option.some.inj hg3
    exact lv_pop hx hb hd ((px_cv_cat b sc v).trans (px_beq hy)) (kk _ _ _ _ rfl hl)
  | _ =>
    exact (px_no hg).elim
theorem px_g2_ok {b sc : Nat} {M : px_M} {ins : Instr} {len pc : Nat} {lv : px_L} {st : List Value} {h : List px_E} {ls : Array Slot} {z} (hx : p.tables.exec = Jvm.exec) (hb : c.code = px_cc M) (hd : decode (px_cc M) pc = .ok (ins, len)) (hg : px_g2 ins len pc lv st h = some z) (hl : lv_has ls (px_ml M) (lv.map (px_cq b sc)))
    (kk : ∀ (pc1 : Nat) (lv1 : px_L) (st1 : List Value) (ls1 : Array Slot), (0, 0, .inl (pc1, lv1, st1, h)) = z → lv_has ls1 (px_ml M) (lv1.map (px_cq b sc)) → W p l e R s m args below meth c H locs cells slots Q (F0 m pc1 ls1 (st1.map (px_cv b sc)))) :
    W p l e R s m args below meth c H locs cells slots Q (F0 m pc ls (st.map (px_cv b sc))) := by
  cases ins with
  | goto off =>
    obtain ⟨hlen, hg1⟩ := px_ck_s hg
    cases px_beq hlen
    obtain ⟨t, ht, hg2⟩ := px_wt_s hg1
    obtain rfl := Option.some.inj hg2
    exact lv_goto (tgt := t) hx hb hd (px_tg_s ht) (kk _ _ _ _ rfl hl)
  | ifCond cd off =>
    cases cd with
    | eq =>
      obtain ⟨hlen, hg1⟩ := px_ck_s hg
      cases px_beq hlen
      obtain ⟨x, r, rfl, hg2⟩ := px_pi_s hg1
      obtain ⟨t, ht, h1, h2⟩ := px_br_s hg2
      exact lv_if_eq (tgt := t) hx hb hd ht (fun q => kk _ _ _ _ (h1 (decide_eq_true q)) hl) (fun q => kk _ _ _ _ (h2 (decide_eq_false q)) hl)
    | ne =>
      obtain ⟨hlen, hg1⟩ := px_ck_s hg
      cases px_beq hlen
      obtain ⟨x, r, rfl, hg2⟩ := px_pi_s hg1
      obtain ⟨t, ht, h1, h2⟩ := px_br_s hg2
      exact lv_if_ne (tgt := t) hx hb hd ht (fun q => kk _ _ _ _ (h1 (by simp [q])) hl) (fun q => kk _ _ _ _ (h2 (by simp [q])) hl)
    | lt =>
      obtain ⟨hlen, hg1⟩ := px_ck_s hg
      cases px_beq hlen
      obtain ⟨x, r, rfl, hg2⟩ := px_pi_s hg1
      obtain ⟨t, ht, h1, h2⟩ := px_br_s hg2
      exact lv_if_lt (tgt := t) hx hb hd ht (fun q => kk _ _ _ _ (h1 (decide_eq_true q)) hl) (fun q => kk _ _ _ _ (h2 (decide_eq_false q)) hl)
    | ge =>
      obtain ⟨hlen, hg1⟩ := px_ck_s hg
      cases px_beq hlen
      obtain ⟨x, r, rfl, hg2⟩ := px_pi_s hg1
      obtain ⟨t, ht, h1, h2⟩ := px_br_s hg2
      exact lv_if_ge (tgt := t) hx hb hd ht (fun q => kk _ _ _ _ (h1 (decide_eq_true q)) hl) (fun q => kk _ _ _ _ (h2 (decide_eq_false q)) hl)
    | gt =>
      obtain ⟨hlen, hg1⟩ := px_ck_s hg
      cases px_beq hlen
      obtain ⟨x, r, rfl, hg2⟩ := px_pi_s hg1
      obtain ⟨t, ht, h1, h2⟩ := px_br_s hg2
      exact lv_if_gt (tgt := t) hx hb hd ht (fun q => kk _ _ _ _ (h1 (decide_eq_true q)) hl) (fun q => kk _ _ _ _ (h2 (decide_eq_false q)) hl)
    | le =>
      obtain ⟨hlen, hg1⟩ := px_ck_s hg
      cases px_beq hlen
      obtain ⟨x, r, rfl, hg2⟩ := px_pi_s hg1
      obtain ⟨t, ht, h1, h2⟩ := px_br_s hg2
      exact lv_if_le (tgt := t) hx hb hd ht (fun q => kk _ _ _ _ (h1 (decide_eq_true q)) hl) (fun q => kk _ _ _ _ (h2 (decide_eq_false q)) hl)
  | if_icmp cd off =>
    cases cd with
    | eq =>
      obtain ⟨hlen, hg1⟩ := px_ck_s hg
      cases px_beq hlen
      obtain ⟨y, r, rfl, hg2⟩ := px_pi_s hg1
      obtain ⟨x, r, rfl, hg3⟩ := px_pi_s hg2
      obtain ⟨t, ht, h1, h2⟩ := px_br_s hg3
      exact lv_icmp_eq (tgt := t) hx hb hd ht (fun q => kk _ _ _ _ (h1 (decide_eq_true q)) hl) (fun q => kk _ _ _ _ (h2 (decide_eq_false q)) hl)
    | ne =>
      obtain ⟨hlen, hg1⟩ := px_ck_s hg
      cases px_beq hlen
      obtain ⟨y, r, rfl, hg2⟩ := px_pi_s hg1
      obtain ⟨x, r, rfl, hg3⟩ := px_pi_s hg2
      obtain ⟨t, ht, h1, h2⟩ := px_br_s hg3
      exact lv_icmp_ne (tgt := t) hx hb hd ht (fun q => kk _ _ _ _ (h1 (by simp [q])) hl) (fun q => kk _ _ _ _ (h2 (by simp [q])) hl)
    | lt =>
      obtain ⟨hlen, hg1⟩ := px_ck_s hg
      cases px_beq hlen
      obtain ⟨y, r, rfl, hg2⟩ := px_pi_s hg1
      obtain ⟨x, r, rfl, hg3⟩ := px_pi_s hg2
      obtain ⟨t, ht, h1, h2⟩ := px_br_s hg3
      exact lv_icmp_lt (tgt := t) hx hb hd ht (fun q => kk _ _ _ _ (h1 (decide_eq_true q)) hl) (fun q => kk _ _ _ _ (h2 (decide_eq_false q)) hl)
    | ge =>
      obtain ⟨hlen, hg1⟩ := px_ck_s hg
      cases px_beq hlen
      obtain ⟨y, r, rfl, hg2⟩ := px_pi_s hg1
      obtain ⟨x, r, rfl, hg3⟩ := px_pi_s hg2
      obtain ⟨t, ht, h1, h2⟩ := px_br_s hg3
      exact lv_icmp_ge (tgt := t) hx hb hd ht (fun q => kk _ _ _ _ (h1 (decide_eq_true q)) hl) (fun q => kk _ _ _ _ (h2 (decide_eq_false q)) hl)
    | gt =>
      obtain ⟨hlen, hg1⟩ := px_ck_s hg
      cases px_beq hlen
      obtain ⟨y, r, rfl, hg2⟩ := px_pi_s hg1
      obtain ⟨x, r, rfl, hg3⟩ := px_pi_s hg2
      obtain ⟨t, ht, h1, h2⟩ := px_br_s hg3
      exact lv_icmp_gt (tgt := t) hx hb hd ht (fun q => kk _ _ _ _ (h1 (decide_eq_true q)) hl) (fun q => kk _ _ _ _ (h2 (decide_eq_false q)) hl)
    | le =>
      obtain ⟨hlen, hg1⟩ := px_ck_s hg
      cases px_beq hlen
      obtain ⟨y, r, rfl, hg2⟩ := px_pi_s hg1
      obtain ⟨x, r, rfl, hg3⟩ := px_pi_s hg2
      obtain ⟨t, ht, h1, h2⟩ := px_br_s hg3
      exact lv_icmp_le (tgt := t) hx hb hd ht (fun q => kk _ _ _ _ (h1 (decide_eq_true q)) hl) (fun q => kk _ _ _ _ (h2 (decide_eq_false q)) hl)
  | tableswitch dflt lo hi offs =>
    obtain ⟨x, r, rfl, hg1⟩ := px_pi_s hg
    cases hq : (decide (x.toInt < lo) || decide (hi < x.toInt)) with
    | true =>
      rw [hq, cond_true] at hg1
      obtain ⟨t, ht, hg2⟩ := px_wt_s hg1
      obtain rfl := Option.some.inj hg2
      exact lv_tableOut (tgt := t) hx hb hd (by simpa using hq) (px_tg_s ht) (kk _ _ _ _ rfl hl)
    | false =>
      rw [hq, cond_false] at hg1
      obtain ⟨off, ho, hg2⟩ := px_wt_s hg1
      obtain ⟨t, ht, hg3⟩ := px_wt_s hg2
      obtain rfl := Option.some.inj hg3
      simp only [Bool.or_eq_false_iff, decide_eq_false_iff_not] at hq
      exact lv_tableIn (tgt := t) hx hb hd hq.1 hq.2 ho (px_tg_s ht) (kk _ _ _ _ rfl hl)
  | _ =>
    exact (px_no hg).elim
end PXS1
