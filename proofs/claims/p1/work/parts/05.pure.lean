/-! THE PURE MACHINE, 2: what each instruction does; the law's script is an array of its own, known as .retAddr, with the values xs -/
def px_isR (v : Value) : Bool := match v with
  | .ref _ => true
  | .retAddr _ => true
  | _ => false
/-- loads, stores, sums -/
def px_g1 (M : px_M) (ins : Instr) (len pc : Nat) (lv : px_L) (st : List Value) (h : List px_E) : px_Nx := match ins with
  | .iconst n => px_ck (Nat.beq len 1) (px_nx (pc + 1) lv (.int (Int32.ofInt n) :: st) h)
  | .bipush n => px_ck (Nat.beq len 2) (px_nx (pc + 2) lv (.int ((Int8.ofInt n).toInt32) :: st) h)
  | .sipush n => px_ck (Nat.beq len 3) (px_nx (pc + 3) lv (.int ((Int16.ofInt n).toInt32) :: st) h)
  | .lconst n => px_ck (Nat.beq len 1) (px_nx (pc + 1) lv (.long (Int64.ofNat (n : Nat)) :: st) h)
  | .iload_n k => px_ck (Nat.beq len 1) (px_wt (px_lo lv k) fun v => px_pi [v] fun x _ => px_nx (pc + 1) lv (.int x :: st) h)
  | .iload k => px_ck (Nat.beq len 2) (px_wt (px_lo lv k) fun v => px_pi [v] fun x _ => px_nx (pc + 2) lv (.int x :: st) h)
  | .lload_n k => px_ck (Nat.beq len 1) (px_wt (px_lo lv k) fun v => px_pl [v] fun x _ => px_nx (pc + 1) lv (.long x :: st) h)
  | .lload k => px_ck (Nat.beq len 2) (px_wt (px_lo lv k) fun v => px_pl [v] fun x _ => px_nx (pc + 2) lv (.long x :: st) h)
  | .dload_n k => px_ck (Nat.beq len 1) (px_wt (px_lo lv k) fun v => px_pd [v] fun x _ => px_nx (pc + 1) lv (.double x :: st) h)
  | .dload k => px_ck (Nat.beq len 2) (px_wt (px_lo lv k) fun v => px_pd [v] fun x _ => px_nx (pc + 2) lv (.double x :: st) h)
  | .aload_n k => px_ck (Nat.beq len 1) (px_wt (px_lo lv k) fun v => px_ck (px_isR v) (px_nx (pc + 1) lv (v :: st) h))
  | .aload k => px_ck (Nat.beq len 2) (px_wt (px_lo lv k) fun v => px_ck (px_isR v) (px_nx (pc + 2) lv (v :: st) h))
  | .istore_n k => px_ck (Nat.beq len 1) (px_ck (Nat.blt k (px_ml M)) (px_pi st fun x r => px_nx (pc + 1) (px_s1 lv k (.int x)) r h))
  | .istore k => px_ck (Nat.beq len 2) (px_ck (Nat.blt k (px_ml M)) (px_pi st fun x r => px_nx (pc + 2) (px_s1 lv k (.int x)) r h))
  | .astore_n k => px_ck (Nat.beq len 1) (px_ck (Nat.blt k (px_ml M)) (px_pr st fun x r => px_nx (pc + 1) (px_s1 lv k (.ref x)) r h))
  | .astore k => px_ck (Nat.beq len 2) (px_ck (Nat.blt k (px_ml M)) (px_pr st fun x r => px_nx (pc + 2) (px_s1 lv k (.ref x)) r h))
  | .lstore_n k => px_ck (Nat.beq len 1) (px_ck (Nat.blt (k + 1) (px_ml M)) (px_pl st fun x r => px_nx (pc + 1) (px_s2 lv k (.long x)) r h))
  | .lstore k => px_ck (Nat.beq len 2) (px_ck (Nat.blt (k + 1) (px_ml M)) (px_pl st fun x r => px_nx (pc + 2) (px_s2 lv k (.long x)) r h))
  | .dstore_n k => px_ck (Nat.beq len 1) (px_ck (Nat.blt (k + 1) (px_ml M)) (px_pd st fun x r => px_nx (pc + 1) (px_s2 lv k (.double x)) r h))
  | .dstore k => px_ck (Nat.beq len 2) (px_ck (Nat.blt (k + 1) (px_ml M)) (px_pd st fun x r => px_nx (pc + 2) (px_s2 lv k (.double x)) r h))
  | .iinc k n => px_ck (Nat.beq len 3) (px_ck (Nat.blt k (px_ml M)) (px_wt (px_lo lv k) fun v => px_pi [v] fun x _ => px_nx (pc + 3) (px_s1 lv k (.int (x + Int32.ofInt n))) st h))
  | .iadd => px_ck (Nat.beq len 1) (px_pi st fun y r => px_pi r fun x r => px_nx (pc + 1) lv (.int (x + y) :: r) h)
  | .isub => px_ck (Nat.beq len 1) (px_pi st fun y r => px_pi r fun x r => px_nx (pc + 1) lv (.int (x - y) :: r) h)
  | .imul => px_ck (Nat.beq len 1) (px_pi st fun y r => px_pi r fun x r => px_nx (pc + 1) lv (.int (x * y) :: r) h)
  | .iand => px_ck (Nat.beq len 1) (px_pi st fun y r => px_pi r fun x r => px_nx (pc + 1) lv (.int (x &&& y) :: r) h)
  | .ior => px_ck (Nat.beq len 1) (px_pi st fun y r => px_pi r fun x r => px_nx (pc + 1) lv (.int (x ||| y) :: r) h)
  | .idiv => px_ck (Nat.beq len 1) (px_pi st fun y r => px_pi r fun x r => px_ck (!decide (y = 0)) (px_nx (pc + 1) lv (.int (x / y) :: r) h))
  | .irem => px_ck (Nat.beq len 1) (px_pi st fun y r => px_pi r fun x r => px_ck (!decide (y = 0)) (px_nx (pc + 1) lv (.int (x - (x / y) * y) :: r) h))
  | .ishl => px_ck (Nat.beq len 1) (px_pi st fun y r => px_pi r fun x r => px_nx (pc + 1) lv (.int (x <<< (y &&& 31)) :: r) h)
  | .ishr => px_ck (Nat.beq len 1) (px_pi st fun y r => px_pi r fun x r => px_nx (pc + 1) lv (.int (x >>> (y &&& 31)) :: r) h)
  | .ladd => px_ck (Nat.beq len 1) (px_pl st fun y r => px_pl r fun x r => px_nx (pc + 1) lv (.long (x + y) :: r) h)
  | .lmul => px_ck (Nat.beq len 1) (px_pl st fun y r => px_pl r fun x r => px_nx (pc + 1) lv (.long (x * y) :: r) h)
  | .lcmp => px_ck (Nat.beq len 1) (px_pl st fun y r => px_pl r fun x r => px_nx (pc + 1) lv (.int (lg_cmp x y) :: r) h)
  | .i2l => px_ck (Nat.beq len 1) (px_pi st fun x r => px_nx (pc + 1) lv (.long x.toInt64 :: r) h)
  | .i2d => px_ck (Nat.beq len 1) (px_pi st fun x r => px_nx (pc + 1) lv (.double (FP.i2d x) :: r) h)
  | .dcmp op => px_ck (Nat.beq len 1) (px_pd st fun y r => px_pd r fun x r => px_nx (pc + 1) lv (.int (Op.cmpValue (FP.dcmp x y) op) :: r) h)
  | .ddiv => px_ck (Nat.beq len 1) (px_pd st fun y r => px_pd r fun x r => px_ck (decide (FP.ddiv x y &&& 0x7fffffffffffffff ≤ 0x7ff0000000000000)) (px_nx (pc + 1) lv (.double (FP.ddiv x y) :: r) h))
  | .dconst n => px_ck (Nat.beq len 1) (px_ck (decide (n = 0)) (px_nx (pc + 1) lv (.double FP.dconst0 :: st) h))
  | .dup => px_ck (Nat.beq len 1) (px_pv st fun v r => px_ck (Nat.beq v.category 1) (px_nx (pc + 1) lv (v :: v :: r) h))
  | .dup2 => px_ck (Nat.beq len 1) (px_pv st fun v r => px_pv r fun w r => px_ck (Nat.beq v.category 1) (px_ck (Nat.beq w.category 1) (px_nx (pc + 1) lv (v :: w :: v :: w :: r) h)))
  | .pop => px_ck (Nat.beq len 1) (px_pv st fun v r => px_ck (Nat.beq v.category 1) (px_nx (pc + 1) lv r h))
  | _ => none
/-- branches -/
def px_g2 (ins : Instr) (len pc : Nat) (lv : px_L) (st : List Value) (h : List px_E) : px_Nx := match ins with
  | .goto off => px_ck (Nat.beq len 3) (px_wt (px_tg pc off) (fun t => px_nx t lv st h))
  | .ifCond .eq off => px_ck (Nat.beq len 3) (px_pi st fun x r => px_br (decide (x = 0)) pc off lv r h)
  | .ifCond .ne off => px_ck (Nat.beq len 3) (px_pi st fun x r => px_br (!decide (x = 0)) pc off lv r h)
  | .ifCond .lt off => px_ck (Nat.beq len 3) (px_pi st fun x r => px_br (decide (x < 0)) pc off lv r h)
  | .ifCond .ge off => px_ck (Nat.beq len 3) (px_pi st fun x r => px_br (decide (0 ≤ x)) pc off lv r h)
  | .ifCond .gt off => px_ck (Nat.beq len 3) (px_pi st fun x r => px_br (decide (0 < x)) pc off lv r h)
  | .ifCond .le off => px_ck (Nat.beq len 3) (px_pi st fun x r => px_br (decide (x ≤ 0)) pc off lv r h)
  | .if_icmp .eq off => px_ck (Nat.beq len 3) (px_pi st fun y r => px_pi r fun x r => px_br (decide (x = y)) pc off lv r h)
  | .if_icmp .ne off => px_ck (Nat.beq len 3) (px_pi st fun y r => px_pi r fun x r => px_br (!decide (x = y)) pc off lv r h)
  | .if_icmp .lt off => px_ck (Nat.beq len 3) (px_pi st fun y r => px_pi r fun x r => px_br (decide (x < y)) pc off lv r h)
  | .if_icmp .ge off => px_ck (Nat.beq len 3) (px_pi st fun y r => px_pi r fun x r => px_br (decide (y ≤ x)) pc off lv r h)
  | .if_icmp .gt off => px_ck (Nat.beq len 3) (px_pi st fun y r => px_pi r fun x r => px_br (decide (y < x)) pc off lv r h)
  | .if_icmp .le off => px_ck (Nat.beq len 3) (px_pi st fun y r => px_pi r fun x r => px_br (decide (x ≤ y)) pc off lv r h)
  | .tableswitch dflt lo hi offs => px_pi st fun x r => bif decide (x.toInt < lo) || decide (hi < x.toInt) then px_wt (px_tg pc dflt) (fun t => px_nx t lv r h) else px_wt (offs[(x.toInt - lo).toNat]?) (fun off => px_wt (px_tg pc off) (fun t => px_nx t lv r h))
  | _ => none
/-- fields, arrays, new cells -/
def px_at (h : List px_E) (a : Nat) (f : Nat → px_A → px_Nx) : px_Nx := match h[a]? with
  | some (.inl (t, x)) => f t x
  | _ => none
def px_ob (h : List px_E) (a : Nat) (f : Nat → List Value → px_Nx) : px_Nx := match h[a]? with
  | some (.inr (ci, fs)) => f ci fs
  | _ => none
def px_ai (x : px_A) (f : List Int32 → px_Nx) : px_Nx := match x with
  | .inl l => f l
  | _ => none
def px_al (x : px_A) (f : List Int64 → px_Nx) : px_Nx := match x with
  | .inr (.inl l) => f l
  | _ => none
def px_aq (x : px_A) (f : List (Option Nat) → px_Nx) : px_Nx := match x with
  | .inr (.inr l) => f l
  | _ => none
theorem px_at_s {h : List px_E} {a : Nat} {f : Nat → px_A → px_Nx} {z} (hh : px_at h a f = some z) : ∃ t x, h[a]? = some (.inl (t, x)) ∧ f t x = some z := by
  unfold px_at at hh
  split at hh
  · exact ⟨_, _, by assumption, hh⟩
  · cases hh
theorem px_ob_s {h : List px_E} {a : Nat} {f : Nat → List Value → px_Nx} {z} (hh : px_ob h a f = some z) : ∃ t x, h[a]? = some (.inr (t, x)) ∧ f t x = some z := by
  unfold px_ob at hh
  split at hh
  · exact ⟨_, _, by assumption, hh⟩
  · cases hh
theorem px_ai_s {x : px_A} {f : List Int32 → px_Nx} {z} (hh : px_ai x f = some z) : ∃ l, x = .inl l ∧ f l = some z := by
  unfold px_ai at hh
  split at hh
  · exact ⟨_, rfl, hh⟩
  · cases hh
theorem px_al_s {x : px_A} {f : List Int64 → px_Nx} {z} (hh : px_al x f = some z) : ∃ l, x = .inr (.inl l) ∧ f l = some z := by
  unfold px_al at hh
  split at hh
  · exact ⟨_, rfl, hh⟩
  · cases hh
theorem px_aq_s {x : px_A} {f : List (Option Nat) → px_Nx} {z} (hh : px_aq x f = some z) : ∃ l, x = .inr (.inr l) ∧ f l = some z := by
  unfold px_aq at hh
  split at hh
  · exact ⟨_, rfl, hh⟩
  · cases hh
def px_len (x : px_A) : Nat := match x with
  | .inl l => l.length
  | .inr (.inl l) => l.length
  | .inr (.inr l) => l.length
def px_rv (o : Option Nat) : Value := match o with
  | some k => .ref k
  | none => .null
def px_mk (ds pc : Nat) (lv : px_L) (st : List Value) (h : List px_E) : px_Nx := some (1, ds, .inl (pc, lv, st, h))
def px_or (a b : px_Nx) : px_Nx := match a with
  | some x => some x
  | none => b
theorem px_or_s {a b : px_Nx} {z} (h : px_or a b = some z) : a = some z ∨ b = some z := by
  unfold px_or at h
  split at h
  · exact Or.inl h
  · exact Or.inr h
def px_ldw (q : Instr × Nat) : Option Nat := match q.1 with
  | .ldc_w k => px_ck (Nat.beq q.2 3) (some k)
  | _ => none
def px_isT (t : Nat) (ty : FieldType) : Bool := decide (px_tys[t]? = some ty)
def px_ps (st : List Value) (f : List Value → px_Nx) (g : px_Nx) : px_Nx := match st with
  | .retAddr _ :: r => f r
  | _ => g
def px_g3 (sx : Option (List Int32)) (M : px_M) (fr lo : Nat) (ins : Instr) (len pc : Nat) (lv : px_L) (st : List Value) (h : List px_E) : px_Nx := match ins with
  | .getfield idx => px_ck (Nat.beq len 3) (px_pr st fun a r => px_wt (px_as2 px_fl (px_own M) idx) fun q => px_ob h a fun ci fs => px_ck (Nat.beq ci q.1) (px_wt (fs[q.2.1]?) fun v => px_nx (pc + 3) lv (v :: r) h))
  | .putfield idx => px_ck (Nat.beq len 3) (px_pv st fun v r => px_pr r fun a r => px_wt (px_as2 px_fl (px_own M) idx) fun q => px_ob h a fun ci fs => px_ck (Nat.beq ci q.1) (px_wt (px_cd[q.1]?) fun d => px_wt (d.2.2[q.2.1]?) fun ty => px_ck (px_fi ty v) (px_ck (Nat.blt q.2.1 fs.length) (px_ck (!q.2.2.2 || (px_ini M && (!q.2.2.1 && Nat.beq q.1 (px_own M)))) (px_nx (pc + 3) lv r (h.set a (.inr (ci, fs.set q.2.1 v))))))))
  | .iaload => px_ck (Nat.beq len 1) (px_pi st fun i r => px_ps r (fun r => px_wt sx fun xs => px_ck (px_in i xs.length) (px_nx (pc + 1) lv (.int (xs.getD i.toNatClampNeg 0) :: r) h)) (px_pr r fun a r => px_at h a fun t x => px_ck (px_isT t .int) (px_ai x fun l => px_ck (px_in i l.length) (px_nx (pc + 1) lv (.int (l.getD i.toNatClampNeg 0) :: r) h))))
  | .baload => px_ck (Nat.beq len 1) (px_pi st fun i r => px_pr r fun a r => px_at h a fun t x => px_ck (px_isT t .boolean) (px_ai x fun l => px_ck (px_in i l.length) (px_nx (pc + 1) lv (.int (l.getD i.toNatClampNeg 0) :: r) h)))
  | .laload => px_ck (Nat.beq len 1) (px_pi st fun i r => px_pr r fun a r => px_at h a fun t x => px_ck (px_isT t .long) (px_al x fun l => px_ck (px_in i l.length) (px_nx (pc + 1) lv (.long (l.getD i.toNatClampNeg 0) :: r) h)))
  | .iastore => px_ck (Nat.beq len 1) (px_pi st fun x r => px_pi r fun i r => px_pr r fun a r => px_at h a fun t y => px_ck (px_isT t .int) (px_ai y fun l => px_ck (px_in i l.length) (px_nx (pc + 1) lv r (h.set a (.inl (t, .inl (l.set i.toNatClampNeg x)))))))
  | .bastore => px_ck (Nat.beq len 1) (px_pi st fun x r => px_pi r fun i r => px_pr r fun a r => px_at h a fun t y => px_ck (px_isT t .boolean) (px_ck (px_fi .boolean (.int x)) (px_ai y fun l => px_ck (px_in i l.length) (px_nx (pc + 1) lv r (h.set a (.inl (t, .inl (l.set i.toNatClampNeg x))))))))
  | .lastore => px_ck (Nat.beq len 1) (px_pl st fun x r => px_pi r fun i r => px_pr r fun a r => px_at h a fun t y => px_ck (px_isT t .long) (px_al y fun l => px_ck (px_in i l.length) (px_nx (pc + 1) lv r (h.set a (.inl (t, .inr (.inl (l.set i.toNatClampNeg x))))))))
  | .aaload => px_ck (Nat.beq len 1) (px_pi st fun i r => px_pr r fun a r => px_at h a fun t x => px_wt (px_tec.getD t none) fun _ => px_aq x fun l => px_ck (px_in i l.length) (px_nx (pc + 1) lv (px_rv (l.getD i.toNatClampNeg none) :: r) h))
  | .aastore => px_ck (Nat.beq len 1) (px_pr st fun v r => px_pi r fun i r => px_pr r fun a r => px_at h a fun t y => px_wt (px_tec.getD t none) fun te => px_ob h v fun ci _ => px_ck (Nat.beq te ci) (px_aq y fun l => px_ck (px_in i l.length) (px_nx (pc + 1) lv r (h.set a (.inl (t, .inr (.inr (l.set i.toNatClampNeg (some v)))))))))
  | .arraylength => px_ck (Nat.beq len 1) (px_ps st (fun r => px_wt sx fun xs => px_nx (pc + 1) lv (.int (Int32.ofNat xs.length) :: r) h) (px_pr st fun a r => px_at h a fun t x => px_wt (px_tys[t]?) fun _ => px_nx (pc + 1) lv (.int (Int32.ofNat (px_len x)) :: r) h))
  | .newarray .int => px_ck (Nat.beq len 2) (px_pi st fun n r => px_ck (!decide (n < 0)) (px_ck (Nat.ble n.toNatClampNeg 100000) (px_mk n.toNatClampNeg (pc + 2) lv (.ref h.length :: r) (h ++ [.inl (0, .inl (List.replicate n.toNatClampNeg 0))]))))
  | .newarray .boolean => px_ck (Nat.beq len 2) (px_pi st fun n r => px_ck (!decide (n < 0)) (px_ck (Nat.ble n.toNatClampNeg 100000) (px_mk n.toNatClampNeg (pc + 2) lv (.ref h.length :: r) (h ++ [.inl (1, .inl (List.replicate n.toNatClampNeg 0))]))))
  | .newarray .long => px_ck (Nat.beq len 2) (px_pi st fun n r => px_ck (!decide (n < 0)) (px_ck (Nat.ble n.toNatClampNeg 100000) (px_mk n.toNatClampNeg (pc + 2) lv (.ref h.length :: r) (h ++ [.inl (2, .inr (.inl (List.replicate n.toNatClampNeg 0)))]))))
  | .anewarray idx => px_ck (Nat.beq len 3) (px_pi st fun n r => px_wt (px_as2 px_an (px_own M) idx) fun t => px_ck (!decide (n < 0)) (px_ck (Nat.ble n.toNatClampNeg 100000) (px_mk n.toNatClampNeg (pc + 3) lv (.ref h.length :: r) (h ++ [.inl (t, .inr (.inr (List.replicate n.toNatClampNeg none)))]))))
  | .new idx => px_ck (Nat.beq len 3) (px_wt (px_as2 px_nw (px_own M) idx) fun q => bif q.2 then
      px_ck (Nat.blt 5 fr) (px_ck (Nat.ble (px_cat st + 82) lo) (px_wt (px_ins M (pc + 3)) fun i3 => px_wt (px_ins M (pc + 4)) fun i4 => px_ck (decide (i3 = (.dup, 1)))
        (px_or (px_wt (px_ldx i4) fun is => px_wt (px_ins M (pc + 6)) fun i6 => px_ck (px_str (px_own M) is) (px_wt (px_isx i6) fun ic => px_ck (decide (px_as2 px_xi (px_own M) ic = some q.1)) (some (1, 6, .inl (pc + 9, lv, .ref h.length :: st, h ++ [.inr (q.1, [])])))))
          (px_wt (px_ldw i4) fun is => px_wt (px_ins M (pc + 7)) fun i6 => px_ck (px_str (px_own M) is) (px_wt (px_isx i6) fun ic => px_ck (decide (px_as2 px_xi (px_own M) ic = some q.1)) (some (1, 6, .inl (pc + 10, lv, .ref h.length :: st, h ++ [.inr (q.1, [])]))))))))
    else px_wt (px_cd[q.1]?) fun d => px_mk d.1 (pc + 3) lv (.ref h.length :: st) (h ++ [.inr (q.1, d.2.1)]))
  | .multianewarray idx 2 => px_ck (Nat.beq len 4) (px_pi st fun k r => px_pi r fun n r => px_wt (px_as2 px_am (px_own M) idx) fun t => px_ck (Nat.beq t 5) (px_ck (!decide (n < 0)) (px_ck (!decide (k < 0)) (px_ck (Nat.ble n.toNatClampNeg 1000) (px_ck (Nat.ble k.toNatClampNeg 1000) (some (1 + n.toNatClampNeg, n.toNatClampNeg + n.toNatClampNeg * k.toNatClampNeg, .inl (pc + 4, lv, .ref h.length :: r, h ++ (.inl (t, .inr (.inr ((List.range n.toNatClampNeg).map fun j => some (h.length + 1 + j)))) :: List.replicate n.toNatClampNeg (.inl (0, .inl (List.replicate k.toNatClampNeg 0))))))))))))
  | .ldc2_w idx => px_ck (Nat.beq len 3) (px_wt (px_as2 px_kl (px_own M) idx) fun x => px_nx (pc + 3) lv (.long x :: st) h)
  | .ldc idx => px_ck (Nat.beq len 2) (px_wt (px_as2 px_ki (px_own M) idx) fun x => px_nx (pc + 2) lv (.int x :: st) h)
  | _ => none
/-- the ends of a method, calls -/
def px_hd : List (Nat × Nat × Nat × Nat) → Nat → Nat → Option Nat
  | [], _, _ => none
  | (f, t, a, ci) :: r, pc, E => bif Nat.ble f pc && Nat.blt pc t && Nat.beq ci E then some a else px_hd r pc E
def px_asx (q : Instr × Nat) : Option (Nat × Nat) := match q.1 with
  | .astore_n k => px_ck (Nat.beq q.2 1) (some ((k : Nat), 1))
  | .astore k => px_ck (Nat.beq q.2 2) (some (k, 2))
  | _ => none
def px_exc (M : px_M) (pc E : Nat) (lv : px_L) (h : List px_E) (kc ks : Nat) : px_Nx := match px_hd (px_hh M) pc E with
  | some a => px_wt (px_ins M a) fun q => px_wt (px_asx q) fun z => px_ck (Nat.blt z.1 (px_ml M)) (some (kc, ks, .inl (a + z.2, lv.filter (px_k1 z.1), [], h)))
  | none => px_ck (px_hh M).isEmpty (some (kc, ks, .inr (pc, .inr E, h)))
def px_back (M : px_M) (pc : Nat) (lv : px_L) (rest : List Value) (o : px_Out) : px_Nx := match o.1 with
  | .inl v => some (o.2.2.1, o.2.2.2, .inl (pc + 3, lv, v.toList ++ rest, o.2.1))
  | .inr E => px_exc M pc E lv o.2.1 o.2.2.1 o.2.2.2
/-- the last n of the stack, in their order -/
def px_tk : Nat → List Value → List Value → Option (List Value × List Value)
  | 0, acc, st => some (acc, st)
  | n + 1, acc, v :: r => px_tk n (v :: acc) r
  | _ + 1, _, [] => none
def px_cw (fr lo : Nat) (N : px_M) (rest : List Value) (k : Nat → Nat → px_Nx) : px_Nx := match fr with
  | 0 => none
  | fr + 1 => px_ck (Nat.ble (px_cat rest) 8) (px_ck (Nat.ble (px_ml N + 19) lo) (k fr (lo - (px_ml N + 19))))
noncomputable def px_g4 (M : px_M) (fr lo : Nat) (ex : px_M → List Value → List px_E → Nat → Nat → Option px_Out) (ins : Instr) (len pc : Nat) (lv : px_L) (st : List Value) (h : List px_E) : px_Nx := match ins with
  | .ireturn => px_ck (Nat.beq len 1) (px_pi st fun x r => px_ck r.isEmpty (px_wt (px_rt M) fun ty => px_ck (px_fi ty (.int x)) (px_re pc (.inl (some (.int x))) h)))
  | .lreturn => px_ck (Nat.beq len 1) (px_pl st fun x r => px_ck r.isEmpty (px_ck (decide (px_rt M = some .long)) (px_re pc (.inl (some (.long x))) h)))
  | .dreturn => px_ck (Nat.beq len 1) (px_pd st fun x r => px_ck r.isEmpty (px_ck (decide (px_rt M = some .double)) (px_re pc (.inl (some (.double x))) h)))
  | .areturn => px_ck (Nat.beq len 1) (px_pr st fun x r => px_ck r.isEmpty (px_wt (px_rt M) fun ty => px_ck (px_fi ty (.ref x)) (px_re pc (.inl (some (.ref x))) h)))
  | .return_ => px_ck (Nat.beq len 1) (px_ck st.isEmpty (px_ck (decide (px_rt M = none)) (px_re pc (.inl none) h)))
  | .athrow => px_ck (Nat.beq len 1) (px_pr st fun a r => px_ob h a fun ci _ => px_ck (px_isX ci) (px_ck (px_hh M).isEmpty (px_re pc (.inr ci) h)))
  | .invokespecial idx => px_ck (Nat.beq len 3) (px_wt (px_as2 px_mi (px_own M) idx) fun q =>
      bif Nat.beq q.1 0 then px_pr st fun _ r => px_ck (Nat.blt 0 fr) (px_ck (Nat.ble (px_cat r + 12) lo) (px_nx (pc + 3) lv r h))
      else bif Nat.beq q.1 5 || Nat.beq q.1 6 then px_wt (px_mt[q.2]?) fun N => px_wt (px_tk (px_na N) [] st) fun z => px_pr z.2 fun b rest => px_ck (px_ini N) (px_cw fr lo N rest fun f' l' => px_wt (ex N (.ref b :: z.1) h f' l') fun o => px_back M pc lv rest o)
      else none)
  | .invokevirtual idx => px_ck (Nat.beq len 3) (px_wt (px_as2 px_mi (px_own M) idx) fun q => px_ck (Nat.beq q.1 1) (px_wt (px_mt[q.2]?) fun N => px_wt (px_tk (px_na N) [] st) fun z => px_pr z.2 fun b rest => px_ob h b fun ci _ => px_ck (Nat.beq ci (px_own N)) (px_cw fr lo N rest fun f' l' => px_wt (ex N (.ref b :: z.1) h f' l') fun o => px_back M pc lv rest o)))
  | .invokestatic idx => px_ck (Nat.beq len 3) (px_wt (px_as2 px_mi (px_own M) idx) fun q =>
      bif Nat.beq q.1 3 || Nat.beq q.1 4 then px_wt (px_mt[q.2]?) fun N => px_wt (px_tk (px_na N) [] st) fun z => px_cw fr lo N z.2 fun f' l' => px_wt (ex N z.1 h f' l') fun o => px_back M pc lv z.2 o
      else bif Nat.beq q.1 7 then px_pi st fun n r => px_pi r fun dp r => px_pr r fun b r => px_pi r fun sp r => px_pr r fun a r => px_at h a fun t x => px_at h b fun u y => px_ck (Nat.beq t u) (px_or (px_ck (px_isT t .int || px_isT t .boolean) (px_ai x fun l => px_ai y fun g => px_ck (!decide (n < 0) && !decide (sp < 0) && !decide (dp < 0)) (px_ck (Nat.ble (sp.toNatClampNeg + n.toNatClampNeg) l.length) (px_ck (Nat.ble (dp.toNatClampNeg + n.toNatClampNeg) g.length) (px_ck (px_isT t .int || l.all (fun x => decide (x = 0) || decide (x = 1))) (px_ck (Nat.blt 0 fr) (px_ck (Nat.ble (px_cat r + px_acw) lo) (px_nx (pc + 3) lv r (h.set b (.inl (u, .inl (g.take dp.toNatClampNeg ++ ((l.drop sp.toNatClampNeg).take n.toNatClampNeg) ++ g.drop (dp.toNatClampNeg + n.toNatClampNeg))))))))))))) (px_ck (px_isT t .long) (px_al x fun l => px_al y fun g => px_ck (!decide (n < 0) && !decide (sp < 0) && !decide (dp < 0)) (px_ck (Nat.ble (sp.toNatClampNeg + n.toNatClampNeg) l.length) (px_ck (Nat.ble (dp.toNatClampNeg + n.toNatClampNeg) g.length) (px_ck (Nat.blt 0 fr) (px_ck (Nat.ble (px_cat r + px_acw) lo) (px_nx (pc + 3) lv r (h.set b (.inl (u, .inr (.inl (g.take dp.toNatClampNeg ++ ((l.drop sp.toNatClampNeg).take n.toNatClampNeg) ++ g.drop (dp.toNatClampNeg + n.toNatClampNeg))))))))))))))
      else none)
  | _ => none
noncomputable def px_step (sx : Option (List Int32)) (M : px_M) (fr lo : Nat) (ex : px_M → List Value → List px_E → Nat → Nat → Option px_Out) (ins : Instr) (len pc : Nat) (lv : px_L) (st : List Value) (h : List px_E) : px_Nx :=
  px_or (px_g1 M ins len pc lv st h) (px_or (px_g2 ins len pc lv st h) (px_or (px_g3 sx M fr lo ins len pc lv st h) (px_g4 M fr lo ex ins len pc lv st h)))
noncomputable def px_run (sx : Option (List Int32)) : Nat → px_M → Nat → Nat → px_St → Option (px_Re × Nat × Nat)
  | 0, _, _, _, _ => none
  | n + 1, M, fr, lo, s => px_wt (px_ins M s.1) fun q => px_wt (px_step sx M fr lo (fun N as h f l => px_ck (Nat.ble (px_cat as) (px_ml N)) (px_wt (px_run sx n N f l (0, lv_args 0 as, [], h)) fun o => some (o.1.2.1, o.1.2.2, o.2.1, o.2.2))) q.1 q.2 s.1 s.2.1 s.2.2.1 s.2.2.2) fun z => match z.2.2 with
    | .inl s' => px_wt (px_run sx n M fr lo s') fun o => some (o.1, z.1 + o.2.1, z.2.1 + o.2.2)
    | .inr r => some (r, z.1, z.2.1)
noncomputable def px_exe (sx : Option (List Int32)) (n : Nat) (N : px_M) (as : List Value) (h : List px_E) (f l : Nat) : Option px_Out := px_ck (Nat.ble (px_cat as) (px_ml N)) (px_wt (px_run sx n N f l (0, lv_args 0 as, [], h)) fun o => some (o.1.2.1, o.1.2.2, o.2.1, o.2.2))

/-- a run that stops ahead of an instruction that ends the method with an int -/
def px_isE (i : Instr) : Bool := match i with
  | .ireturn => true
  | _ => false
noncomputable def px_to (sx : Option (List Int32)) : Nat → px_M → Nat → Nat → px_St → Option (px_St × Nat × Nat)
  | 0, _, _, _, _ => none
  | n + 1, M, fr, lo, s => px_wt (px_ins M s.1) fun q => bif px_isE q.1 then some (s, 0, 0) else px_wt (px_step sx M fr lo (px_exe sx n) q.1 q.2 s.1 s.2.1 s.2.2.1 s.2.2.2) fun z => match z.2.2 with
    | .inl s' => px_wt (px_to sx n M fr lo s') fun o => some (o.1, z.1 + o.2.1, z.2.1 + o.2.2)
    | .inr _ => none
