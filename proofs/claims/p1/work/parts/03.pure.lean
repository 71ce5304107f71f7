/-! THE PURE MACHINE: lists and numbers; a cell of ours is known by its number from a base on -/
abbrev px_A : Type := List Int32 ⊕ (List Int64 ⊕ List (Option Nat))
abbrev px_E : Type := (Nat × px_A) ⊕ (Nat × List Value)
abbrev px_L : Type := List (Nat × Value)
abbrev px_St : Type := Nat × px_L × List Value × List px_E
abbrev px_Re : Type := Nat × (Option Value ⊕ Nat) × List px_E
abbrev px_Nx : Type := Option (Nat × Nat × (px_St ⊕ px_Re))
abbrev px_Out : Type := (Option Value ⊕ Nat) × List px_E × Nat × Nat
/-- a method: its class's number, its name, code, locals, answer, handlers (from, to, at, number of the caught), whether it makes an object, how many arguments, decoded instructions by 64 bytes -/
abbrev px_M : Type := Nat × MethodName × ByteArray × Nat × Option FieldType × List (Nat × Nat × Nat × Nat) × Bool × Nat × List (List (Nat × Instr × Nat))
def px_own (M : px_M) : Nat := M.1
def px_y (M : px_M) : MethodName := M.2.1
def px_cc (M : px_M) : ByteArray := M.2.2.1
def px_ml (M : px_M) : Nat := M.2.2.2.1
def px_rt (M : px_M) : Option FieldType := M.2.2.2.2.1
def px_hh (M : px_M) : List (Nat × Nat × Nat × Nat) := M.2.2.2.2.2.1
def px_ini (M : px_M) : Bool := M.2.2.2.2.2.2.1
def px_na (M : px_M) : Nat := M.2.2.2.2.2.2.2.1
def px_is (M : px_M) : List (List (Nat × Instr × Nat)) := M.2.2.2.2.2.2.2.2
def px_as {α : Type} : List (Nat × α) → Nat → Option α
  | [], _ => none
  | (j, a) :: r, i => bif Nat.beq j i then some a else px_as r i
def px_as2 {α : Type} (l : List (List (Nat × α))) (o i : Nat) : Option α := match l[o]? with
  | some r => px_as r i
  | none => none
def px_ins (M : px_M) (pc : Nat) : Option (Instr × Nat) := px_as2 (px_is M) (pc / 64) pc
theorem px_as_mem {α : Type} : ∀ (l : List (Nat × α)) (i : Nat) (a : α), px_as l i = some a → (i, a) ∈ l
  | [], _, _, h => by cases h
  | (j, b) :: r, i, a, h => by
    unfold px_as at h
    cases hb : Nat.beq j i with
    | true =>
      rw [hb, cond_true] at h
      cases h
      rw [Nat.eq_of_beq_eq_true hb]
      exact List.mem_cons_self
    | false =>
      rw [hb, cond_false] at h
      exact List.mem_cons_of_mem _ (px_as_mem r i a h)
theorem px_as2_mem {α : Type} (l : List (List (Nat × α))) (o i : Nat) (a : α) (h : px_as2 l o i = some a) : ∃ r, l[o]? = some r ∧ (i, a) ∈ r := by
  unfold px_as2 at h
  cases hr : l[o]? with
  | none => rw [hr] at h; cases h
  | some r => rw [hr] at h; exact ⟨r, rfl, px_as_mem r i a h⟩
/-- pops -/
def px_pi {α : Type} (st : List Value) (f : Int32 → List Value → Option α) : Option α := match st with
  | .int x :: r => f x r
  | _ => none
def px_pl {α : Type} (st : List Value) (f : Int64 → List Value → Option α) : Option α := match st with
  | .long x :: r => f x r
  | _ => none
def px_pd {α : Type} (st : List Value) (f : UInt64 → List Value → Option α) : Option α := match st with
  | .double x :: r => f x r
  | _ => none
def px_pr {α : Type} (st : List Value) (f : Nat → List Value → Option α) : Option α := match st with
  | .ref x :: r => f x r
  | _ => none
def px_pv {α : Type} (st : List Value) (f : Value → List Value → Option α) : Option α := match st with
  | v :: r => f v r
  | [] => none
theorem px_pi_s {α : Type} {st : List Value} {f : Int32 → List Value → Option α} {a : α} (h : px_pi st f = some a) : ∃ x r, st = .int x :: r ∧ f x r = some a := by
  unfold px_pi at h
  split at h
  · exact ⟨_, _, rfl, h⟩
  · cases h
theorem px_pl_s {α : Type} {st : List Value} {f : Int64 → List Value → Option α} {a : α} (h : px_pl st f = some a) : ∃ x r, st = .long x :: r ∧ f x r = some a := by
  unfold px_pl at h
  split at h
  · exact ⟨_, _, rfl, h⟩
  · cases h
theorem px_pd_s {α : Type} {st : List Value} {f : UInt64 → List Value → Option α} {a : α} (h : px_pd st f = some a) : ∃ x r, st = .double x :: r ∧ f x r = some a := by
  unfold px_pd at h
  split at h
  · exact ⟨_, _, rfl, h⟩
  · cases h
theorem px_pr_s {α : Type} {st : List Value} {f : Nat → List Value → Option α} {a : α} (h : px_pr st f = some a) : ∃ x r, st = .ref x :: r ∧ f x r = some a := by
  unfold px_pr at h
  split at h
  · exact ⟨_, _, rfl, h⟩
  · cases h
theorem px_pv_s {α : Type} {st : List Value} {f : Value → List Value → Option α} {a : α} (h : px_pv st f = some a) : ∃ x r, st = x :: r ∧ f x r = some a := by
  unfold px_pv at h
  split at h
  · exact ⟨_, _, rfl, h⟩
  · cases h
/-- a check, a wish -/
def px_ck {α : Type} (b : Bool) (x : Option α) : Option α := bif b then x else none
def px_wt {α β : Type} (o : Option β) (f : β → Option α) : Option α := match o with
  | some b => f b
  | none => none
theorem px_ck_s {α : Type} {b : Bool} {x : Option α} {a : α} (h : px_ck b x = some a) : b = true ∧ x = some a := by
  unfold px_ck at h
  cases b with
  | true => exact ⟨rfl, h⟩
  | false => cases h
theorem px_wt_s {α β : Type} {o : Option β} {f : β → Option α} {a : α} (h : px_wt o f = some a) : ∃ b, o = some b ∧ f b = some a := by
  unfold px_wt at h
  split at h
  · exact ⟨_, rfl, h⟩
  · cases h
/-- locals -/
def px_lo : px_L → Nat → Option Value
  | [], _ => none
  | (j, v) :: r, i => bif Nat.beq j i then some v else px_lo r i
def px_k1 (i : Nat) (q : Nat × Value) : Bool := !(q.1 == i) && !(q.1 + 1 == i && q.2.category == 2)
def px_k2 (i : Nat) (q : Nat × Value) : Bool := !(q.1 == i) && (!(q.1 == i + 1) && !(q.1 + 1 == i && q.2.category == 2))
def px_s1 (lv : px_L) (i : Nat) (v : Value) : px_L := (i, v) :: lv.filter (px_k1 i)
def px_s2 (lv : px_L) (i : Nat) (v : Value) : px_L := (i, v) :: lv.filter (px_k2 i)
/-- what an int is good for as a value of a type -/
def px_fi (ty : FieldType) (v : Value) : Bool := match ty, v with
  | .int, .int _ => true
  | .boolean, .int x => decide (x = 0) || decide (x = 1)
  | .long, .long _ => true
  | .double, .double _ => true
  | .object _, .null => true
  | .object _, .ref _ => true
  | .array _, .null => true
  | .array _, .ref _ => true
  | _, _ => false
def px_in (i : Int32) (n : Nat) : Bool := !decide (i < 0) && Nat.blt i.toNatClampNeg n
def px_tg (pc : Nat) (off : Int) : Option Nat := match (pc : Int) + off with
  | .ofNat t => some t
  | _ => none
def px_cat (st : List Value) : Nat := (st.map fun v => v.category).sum
def px_nx (pc : Nat) (lv : px_L) (st : List Value) (h : List px_E) : px_Nx := some (0, 0, .inl (pc, lv, st, h))
def px_br (b : Bool) (pc : Nat) (off : Int) (lv : px_L) (st : List Value) (h : List px_E) : px_Nx := px_wt (px_tg pc off) fun t => bif b then px_nx t lv st h else px_nx (pc + 3) lv st h
def px_re (pc : Nat) (o : Option Value ⊕ Nat) (h : List px_E) : px_Nx := some (0, 0, .inr (pc, o, h))
