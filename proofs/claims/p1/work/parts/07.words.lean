/-! WHAT THE TABLES SAY IS SO: by the kernel, over the words of the Statement -/
def px_okk (w : Cond) : Bool := match w with
  | .castable _ _ => true
  | .declares _ => true
  | .fieldLinkNest _ _ _ _ _ _ => true
  | .methodLinkNest _ _ _ _ => true
  | _ => false
def px_gw : List Cond := lw_tbl.filter goodWord
def px_nwd : List Cond := lw_tbl.filter px_okk
def px_on (o : Nat) : String := px_rn.getD o ""
def px_good (w : Cond) : Bool := decide (w ∈ lw_tbl) && goodWord w
def px_nest (w : Cond) : Bool := decide (w ∈ lw_tbl) && px_okk w
theorem px_good_s {w : Cond} (h : px_good w = true) : w ∈ px_gw := by
  unfold px_good at h
  rw [Bool.and_eq_true] at h
  exact List.mem_filter.mpr ⟨of_decide_eq_true h.1, h.2⟩
theorem px_nest_s {w : Cond} (h : px_nest w = true) : w ∈ px_nwd := by
  unfold px_nest at h
  rw [Bool.and_eq_true] at h
  exact List.mem_filter.mpr ⟨of_decide_eq_true h.1, h.2⟩
theorem px_gw_good {ws : List Cond} (h : ∀ w ∈ ws, w ∈ px_gw) : GoodIn px_gw ws := fun w hw => ⟨h w hw, good_of_word (List.mem_filter.mp (h w hw)).2⟩
def px_allx {α : Type} (f : Nat → Nat × α → Bool) : Nat → List (List (Nat × α)) → Bool
  | _, [] => true
  | o, r :: t => r.all (f o) && px_allx f (o + 1) t
theorem px_allx_s {α : Type} (f : Nat → Nat × α → Bool) : ∀ (k : Nat) (l : List (List (Nat × α))), px_allx f k l = true → ∀ (o : Nat) (r : List (Nat × α)), l[o]? = some r → ∀ q ∈ r, f (k + o) q = true
  | _, [], _, o, r, h => by simp at h
  | k, a :: t, h, o, r, hr => by
    unfold px_allx at h
    rw [Bool.and_eq_true] at h
    cases o with
    | zero =>
      rw [List.getElem?_cons_zero] at hr
      cases hr
      intro q hq
      exact List.all_eq_true.mp h.1 q hq
    | succ o =>
      rw [List.getElem?_cons_succ] at hr
      have := px_allx_s f (k + 1) t h.2 o r hr
      rwa [show k + 1 + o = k + (o + 1) by omega] at this
theorem px_tab {α : Type} {f : Nat → Nat × α → Bool} {l : List (List (Nat × α))} (h : px_allx f 0 l = true) {o i : Nat} {a : α} (ha : px_as2 l o i = some a) : f o (i, a) = true := by
  obtain ⟨r, hr, hm⟩ := px_as2_mem l o i a ha
  have := px_allx_s f 0 l h o r hr _ hm
  rwa [Nat.zero_add] at this
/-- fields -/
def px_okF (o : Nat) (e : Nat × (Nat × Nat × Bool × Bool)) : Bool := match px_cl[e.2.1]?, px_cd[e.2.1]? with
  | some q, some d => Nat.blt e.2.1 11 && Nat.blt e.2.2.1 q.2.2 && decide ((q.2.1 e.2.2.1).1 = q.1) && (e.2.2.2.2 == (q.2.1 e.2.2.1).2.2.2) && decide ((d.2.2[e.2.2.1]?).isSome = true) && decide (parseFieldDescriptor (q.2.1 e.2.2.1).2.2.1 = d.2.2[e.2.2.1]?) && (bif e.2.2.2.1 then px_nest (.fieldLinkNest (px_on o) e.1 q.1 (q.2.1 e.2.2.1).2.1 (q.2.1 e.2.2.1).2.2.1 "RuleForgeModel") else px_good (.fieldLink (px_on o) e.1 q.1 (q.2.1 e.2.2.1).2.1 (q.2.1 e.2.2.1).2.2.1) && (!e.2.2.2.2 || decide (q.1 = px_on o)))
  | _, _ => false
set_option maxRecDepth 100000 in
theorem px_fl_ok : px_allx px_okF 0 px_fl = true := by decide +kernel
/-- classes -/
def px_okC (ci : Nat) : Bool := match px_cl[ci]?, px_cd[ci]? with
  | some q, some d => decide (d.1 = q.2.2) && decide (d.2.1.length = q.2.2) && decide (d.2.2.length = q.2.2) && (List.range q.2.2).all (fun k => px_good (u_lay q.1 q.2.1 k) && decide ((d.2.2[k]?).isSome = true) && decide (parseFieldDescriptor (q.2.1 k).2.2.1 = d.2.2[k]?) && decide ((d.2.2[k]?).map defaultValue = d.2.1[k]?) && decide (d.2.1[k]? ≠ none) && (List.range q.2.2).all (fun j => decide (j = k) || decide ((q.2.1 j).2.1 ≠ (q.2.1 k).2.1))) && px_good (.instantiable q.1 q.2.2) && px_good (.initialized q.1) && d.2.1.all (fun v => match v with | .ref _ => false | _ => true)
  | _, _ => false
set_option maxRecDepth 100000 in
theorem px_cl_ok : (List.range 11).all px_okC = true := by decide +kernel
/-- new -/
def px_okN (o : Nat) (e : Nat × (Nat × Bool)) : Bool := (match px_cl[e.2.1]? with
  | some q => px_good (.classLink (px_on o) e.1 q.1) && px_good (.initialized q.1) && (bif e.2.2 then decide (11 ≤ e.2.1) && decide (q.2.2 = 0) && Bundle.fit q.1 else Nat.blt e.2.1 11)
  | none => false)
set_option maxRecDepth 100000 in
theorem px_nw_ok : px_allx px_okN 0 px_nw = true := by decide +kernel
def px_okA (o : Nat) (e : Nat × Nat) : Bool := match px_tys[e.2]?, px_tec.getD e.2 none with
  | some ty, some ci => (match px_cl[ci]? with
    | some q => decide (ty = .object q.1) && px_good (.classLink (px_on o) e.1 q.1) && decide (Cond.arrayOver (.object q.1) ∈ tables_1)
    | none => false)
  | _, _ => false
set_option maxRecDepth 100000 in
theorem px_an_ok : px_allx px_okA 0 px_an = true := by decide +kernel
/-- constructors of what is thrown -/
def px_xn : List String := ["java/lang/RuntimeException", "java/lang/Exception"]
def px_okX (o : Nat) (e : Nat × Nat) : Bool := match px_cl[e.2]? with
  | some q => (vx_atS (px_on o) e.1 q.1 px_xn).all (fun w => decide (w ∈ lw_tbl) && (goodWord w || px_okk w) && vx_ot w)
  | none => false
set_option maxRecDepth 100000 in
theorem px_xi_ok : px_allx px_okX 0 px_xi = true := by decide +kernel
def px_okK (o : Nat) (e : Nat × Int64) : Bool := px_good (.constantLong (px_on o) e.1 e.2)
set_option maxRecDepth 100000 in
theorem px_kl_ok : px_allx px_okK 0 px_kl = true := by decide +kernel
def px_okI (o : Nat) (e : Nat × Int32) : Bool := px_good (.constant (px_on o) e.1 e.2)
set_option maxRecDepth 100000 in
theorem px_ki_ok : px_allx px_okI 0 px_ki = true := by decide +kernel
/-- methods -/
def px_tb (M : px_M) : List (Nat × Nat × Nat × Nat) := (px_hh M).map fun q => (q.1, q.2.1, q.2.2.1, px_xp q.2.2.2)
def px_cw (M : px_M) : Cond := bif (px_hh M).isEmpty then .code (px_y M) (px_cc M) (px_ml M) (px_rt M) else .codeWith (px_y M) (px_cc M) (px_ml M) (px_rt M) (px_tb M)
def px_okM (M : px_M) : Bool := px_good (px_cw M) && plainName (px_y M).cls && decide ((px_y M).cls ≠ "java/lang/invoke/MethodHandle") && decide ((px_y M).cls ≠ "java/lang/invoke/VarHandle") && decide ((parseMethodDescriptor (px_y M).desc).map (fun d => d.parameters.length) = some (px_na M)) && decide ((px_y M).cls = px_on (px_own M)) && px_good (.initialized (px_y M).cls) && (!px_ini M || (decide ((px_y M).name = "<init>") && decide (px_rt M = none) && (px_hh M).isEmpty)) && (px_hh M).all (fun q => match px_cl[q.2.2.2]? with
  | some r => px_good (.classLink (px_on (px_own M)) (px_xp q.2.2.2) r.1) && px_nest (.castable r.1 r.1) && !Nat.beq (px_xp q.2.2.2) 0 && px_isX q.2.2.2
  | none => false)
set_option maxRecDepth 100000 in
theorem px_mt_ok : px_mt.all px_okM = true := by decide +kernel
def px_okD (M : px_M) : Bool := (px_is M).all fun r => r.all fun e => decide (decode (px_cc M) e.1 = .ok (e.2.1, e.2.2))
set_option maxRecDepth 100000 in
theorem px_mt_dec : px_mt.all px_okD = true := by decide +kernel
/-- calls -/
def px_okL (o : Nat) (e : Nat × (Nat × Nat)) : Bool := match e.2.1 with
  | 0 => px_good (.methodLink (px_on o) e.1 objectInit) && px_good (.instanceMethod objectInit) && px_good (.code objectInit ⟨#[0xb1]⟩ 1 none)
  | 7 => px_good (.methodLink (px_on o) e.1 arraycopyName) && px_good (.native arraycopyName) && px_good (.static arraycopyName) && px_good (.initialized "java/lang/System")
  | 2 => true
  | k => (match px_mt[e.2.2]? with
    | some N => (match k with
      | 1 => px_good (.methodLink (px_on o) e.1 (px_y N)) && px_good (.instanceMethod (px_y N)) && px_good (.selects (px_y N).cls (px_y N) (px_y N)) && (px_hh N).isEmpty
      | 3 => px_good (.methodLink (px_on o) e.1 (px_y N)) && px_good (.static (px_y N)) && (px_hh N).isEmpty
      | 4 => px_good (.methodLink (px_on o) e.1 (px_y N)) && px_good (.static (px_y N)) && !(px_hh N).isEmpty
      | 5 => px_good (.methodLink (px_on o) e.1 (px_y N)) && px_good (.instanceMethod (px_y N))
      | 6 => px_nest (.methodLinkNest (px_on o) e.1 (px_y N) (px_host (px_own N))) && px_good (.instanceMethod (px_y N))
      | _ => false)
    | none => false)
set_option maxRecDepth 100000 in
theorem px_mi_ok : px_allx px_okL 0 px_mi = true := by decide +kernel
