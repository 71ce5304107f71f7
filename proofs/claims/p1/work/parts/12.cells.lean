/-! EVALUATION BY THE KERNEL: what two ends of runs have in common, as a truth value -/
def px_veq (v w : Value) : Bool := match v, w with
  | .int x, .int y => decide (x = y)
  | .long x, .long y => decide (x = y)
  | .double x, .double y => decide (x = y)
  | .ref x, .ref y => Nat.beq x y
  | .null, .null => true
  | _, _ => false
theorem px_veq_s {v w : Value} (h : px_veq v w = true) : v = w := by
  unfold px_veq at h
  split at h
  · rw [of_decide_eq_true h]
  · rw [of_decide_eq_true h]
  · rw [of_decide_eq_true h]
  · rw [Nat.eq_of_beq_eq_true h]
  · rfl
  · cases h
def px_leq {α : Type} (f : α → α → Bool) : List α → List α → Bool
  | [], [] => true
  | a :: l, b :: k => f a b && px_leq f l k
  | _, _ => false
theorem px_leq_s {α : Type} {f : α → α → Bool} (hf : ∀ a b, f a b = true → a = b) : ∀ {l k : List α}, px_leq f l k = true → l = k
  | [], [], _ => rfl
  | a :: l, b :: k, h => by
    unfold px_leq at h
    rw [Bool.and_eq_true] at h
    rw [hf a b h.1, px_leq_s hf h.2]
  | [], _ :: _, h => by cases h
  | _ :: _, [], h => by cases h
def px_eeq (a b : px_E) : Bool := match a, b with
  | .inl (t, .inl l), .inl (u, .inl k) => Nat.beq t u && px_leq (fun x y => decide (x = y)) l k
  | .inl (t, .inr (.inl l)), .inl (u, .inr (.inl k)) => Nat.beq t u && px_leq (fun x y => decide (x = y)) l k
  | .inl (t, .inr (.inr l)), .inl (u, .inr (.inr k)) => Nat.beq t u && px_leq (fun x y => decide (x = y)) l k
  | .inr (t, l), .inr (u, k) => Nat.beq t u && px_leq px_veq l k
  | _, _ => false
theorem px_eeq_s {a b : px_E} (h : px_eeq a b = true) : a = b := by
  unfold px_eeq at h
  split at h
  · rw [Bool.and_eq_true] at h
    rw [Nat.eq_of_beq_eq_true h.1, px_leq_s (fun _ _ => of_decide_eq_true) h.2]
  · rw [Bool.and_eq_true] at h
    rw [Nat.eq_of_beq_eq_true h.1, px_leq_s (fun _ _ => of_decide_eq_true) h.2]
  · rw [Bool.and_eq_true] at h
    rw [Nat.eq_of_beq_eq_true h.1, px_leq_s (fun _ _ => of_decide_eq_true) h.2]
  · rw [Bool.and_eq_true] at h
    rw [Nat.eq_of_beq_eq_true h.1, px_leq_s (fun _ _ => px_veq_s) h.2]
  · cases h
def px_req (a b : Option Value ⊕ Nat) : Bool := match a, b with
  | .inl none, .inl none => true
  | .inl (some v), .inl (some w) => px_veq v w
  | .inr x, .inr y => Nat.beq x y
  | _, _ => false
theorem px_req_s {a b : Option Value ⊕ Nat} (h : px_req a b = true) : a = b := by
  unfold px_req at h
  split at h
  · rfl
  · rw [px_veq_s h]
  · rw [Nat.eq_of_beq_eq_true h]
  · cases h
/-- a run comes to this end -/
def px_ends (o : Option px_Out) (r : Option Value ⊕ Nat) (h : List px_E) (c n : Nat) : Bool := match o with
  | some q => px_req q.1 r && px_leq px_eeq q.2.1 h && Nat.beq q.2.2.1 c && Nat.beq q.2.2.2 n
  | none => false
theorem px_ends_s {o : Option px_Out} {r : Option Value ⊕ Nat} {h : List px_E} {c n : Nat} (hh : px_ends o r h c n = true) : o = some (r, h, c, n) := by
  unfold px_ends at hh
  split at hh
  · rename_i q
    simp only [Bool.and_eq_true] at hh
    obtain ⟨⟨⟨h1, h2⟩, h3⟩, h4⟩ := hh
    obtain ⟨q1, q2, q3, q4⟩ := q
    dsimp only at h1 h2 h3 h4
    rw [px_req_s h1, px_leq_s (fun _ _ => px_eeq_s) h2, Nat.eq_of_beq_eq_true h3, Nat.eq_of_beq_eq_true h4]
  · cases hh
/-! WHAT THE ROWS OF RUNS NEED: comparisons by bounds -/
theorem pb_ltT {x y : Int32} {a b : Int} (hx : x.toInt ≤ a) (hy : b ≤ y.toInt) (h : a < b) : decide (x < y) = true := decide_eq_true (Int32.lt_iff_toInt_lt.mpr (by omega))
theorem pb_ltF {x y : Int32} {a b : Int} (hx : a ≤ x.toInt) (hy : y.toInt ≤ b) (h : b ≤ a) : decide (x < y) = false := decide_eq_false fun q => by have := Int32.lt_iff_toInt_lt.mp q; omega
theorem pb_leT {x y : Int32} {a b : Int} (hx : x.toInt ≤ a) (hy : b ≤ y.toInt) (h : a ≤ b) : decide (x ≤ y) = true := decide_eq_true (Int32.le_iff_toInt_le.mpr (by omega))
theorem pb_leF {x y : Int32} {a b : Int} (hx : a ≤ x.toInt) (hy : y.toInt ≤ b) (h : b < a) : decide (x ≤ y) = false := decide_eq_false fun q => by have := Int32.le_iff_toInt_le.mp q; omega
theorem pb_eqF1 {x y : Int32} {a b : Int} (hx : x.toInt ≤ a) (hy : b ≤ y.toInt) (h : a < b) : decide (x = y) = false := decide_eq_false fun q => by rw [q] at hx; omega
theorem pb_eqF2 {x y : Int32} {a b : Int} (hx : a ≤ x.toInt) (hy : y.toInt ≤ b) (h : b < a) : decide (x = y) = false := decide_eq_false fun q => by rw [q] at hx; omega
theorem px_not_t {b : Bool} (h : b = false) : (!b) = true := by rw [h]; rfl
theorem px_not_f {b : Bool} (h : b = true) : (!b) = false := by rw [h]; rfl
theorem px_dcmp0 (op : CmpOp) : Op.cmpValue (FP.dcmp FP.dconst0 FP.dconst0) op = 0 := by cases op <;> decide +kernel
theorem px_lcmp0 (x : Int64) : lg_cmp x x = 0 := by simp [lg_cmp]
/-! THE CELLS BEHIND THE CONSTRUCTORS (wip/gen/p1gen.py) -/
def px_h0 : List px_E := [
  .inr (6, [.ref 1, .int 0, .ref 92, .ref 114]),
  .inl (3, .inr (.inr ([some 2, some 17, some 32, some 47, some 62, some 77]))),
  .inr (4, [.int 0, .int 0, .ref 3, .ref 11]),
  .inr (1, [.int 0, .int 0, .int 0, .ref 4, .ref 5, .ref 6, .ref 7, .ref 8, .ref 9, .ref 10]),
  .inl (0, .inl (List.replicate 4 0)),
  .inl (0, .inl (List.replicate 4 0)),
  .inl (0, .inl (List.replicate 4 0)),
  .inl (0, .inl ([0, 0, 0])),
  .inl (0, .inl (List.replicate 12 0)),
  .inl (0, .inl (List.replicate 12 0)),
  .inl (0, .inl (List.replicate 6 (-1))),
  .inr (0, [.int 0, .ref 12, .ref 13, .ref 14, .ref 15, .ref 16]),
  .inl (0, .inl ([0, 0, 0])),
  .inl (0, .inl ([0, 0, 0])),
  .inl (0, .inl ([0, 0, 0])),
  .inl (0, .inl (List.replicate 9 (-1))),
  .inl (0, .inl (List.replicate 9 0)),
  .inr (4, [.int 0, .int 0, .ref 18, .ref 26]),
  .inr (1, [.int 0, .int 0, .int 0, .ref 19, .ref 20, .ref 21, .ref 22, .ref 23, .ref 24, .ref 25]),
  .inl (0, .inl (List.replicate 4 0)),
  .inl (0, .inl (List.replicate 4 0)),
  .inl (0, .inl (List.replicate 4 0)),
  .inl (0, .inl ([0, 0, 0])),
  .inl (0, .inl (List.replicate 12 0)),
  .inl (0, .inl (List.replicate 12 0)),
  .inl (0, .inl (List.replicate 6 (-1))),
  .inr (0, [.int 0, .ref 27, .ref 28, .ref 29, .ref 30, .ref 31]),
  .inl (0, .inl ([0, 0, 0])),
  .inl (0, .inl ([0, 0, 0])),
  .inl (0, .inl ([0, 0, 0])),
  .inl (0, .inl (List.replicate 9 (-1))),
  .inl (0, .inl (List.replicate 9 0)),
  .inr (4, [.int 0, .int 0, .ref 33, .ref 41]),
  .inr (1, [.int 0, .int 0, .int 0, .ref 34, .ref 35, .ref 36, .ref 37, .ref 38, .ref 39, .ref 40]),
  .inl (0, .inl (List.replicate 4 0)),
  .inl (0, .inl (List.replicate 4 0)),
  .inl (0, .inl (List.replicate 4 0)),
  .inl (0, .inl ([0, 0, 0])),
  .inl (0, .inl (List.replicate 12 0)),
  .inl (0, .inl (List.replicate 12 0)),
  .inl (0, .inl (List.replicate 6 (-1))),
  .inr (0, [.int 0, .ref 42, .ref 43, .ref 44, .ref 45, .ref 46]),
  .inl (0, .inl ([0, 0, 0])),
  .inl (0, .inl ([0, 0, 0])),
  .inl (0, .inl ([0, 0, 0])),
  .inl (0, .inl (List.replicate 9 (-1))),
  .inl (0, .inl (List.replicate 9 0)),
  .inr (4, [.int 0, .int 0, .ref 48, .ref 56]),
  .inr (1, [.int 0, .int 0, .int 0, .ref 49, .ref 50, .ref 51, .ref 52, .ref 53, .ref 54, .ref 55]),
  .inl (0, .inl (List.replicate 4 0)),
  .inl (0, .inl (List.replicate 4 0)),
  .inl (0, .inl (List.replicate 4 0)),
  .inl (0, .inl ([0, 0, 0])),
  .inl (0, .inl (List.replicate 12 0)),
  .inl (0, .inl (List.replicate 12 0)),
  .inl (0, .inl (List.replicate 6 (-1))),
  .inr (0, [.int 0, .ref 57, .ref 58, .ref 59, .ref 60, .ref 61]),
  .inl (0, .inl ([0, 0, 0])),
  .inl (0, .inl ([0, 0, 0])),
  .inl (0, .inl ([0, 0, 0])),
  .inl (0, .inl (List.replicate 9 (-1))),
  .inl (0, .inl (List.replicate 9 0)),
  .inr (4, [.int 0, .int 0, .ref 63, .ref 71]),
  .inr (1, [.int 0, .int 0, .int 0, .ref 64, .ref 65, .ref 66, .ref 67, .ref 68, .ref 69, .ref 70]),
  .inl (0, .inl (List.replicate 4 0)),
  .inl (0, .inl (List.replicate 4 0)),
  .inl (0, .inl (List.replicate 4 0)),
  .inl (0, .inl ([0, 0, 0])),
  .inl (0, .inl (List.replicate 12 0)),
  .inl (0, .inl (List.replicate 12 0)),
  .inl (0, .inl (List.replicate 6 (-1))),
  .inr (0, [.int 0, .ref 72, .ref 73, .ref 74, .ref 75, .ref 76]),
  .inl (0, .inl ([0, 0, 0])),
  .inl (0, .inl ([0, 0, 0])),
  .inl (0, .inl ([0, 0, 0])),
  .inl (0, .inl (List.replicate 9 (-1))),
  .inl (0, .inl (List.replicate 9 0)),
  .inr (4, [.int 0, .int 0, .ref 78, .ref 86]),
  .inr (1, [.int 0, .int 0, .int 0, .ref 79, .ref 80, .ref 81, .ref 82, .ref 83, .ref 84, .ref 85]),
  .inl (0, .inl (List.replicate 4 0)),
  .inl (0, .inl (List.replicate 4 0)),
  .inl (0, .inl (List.replicate 4 0)),
  .inl (0, .inl ([0, 0, 0])),
  .inl (0, .inl (List.replicate 12 0)),
  .inl (0, .inl (List.replicate 12 0)),
  .inl (0, .inl (List.replicate 6 (-1))),
  .inr (0, [.int 0, .ref 87, .ref 88, .ref 89, .ref 90, .ref 91]),
  .inl (0, .inl ([0, 0, 0])),
  .inl (0, .inl ([0, 0, 0])),
  .inl (0, .inl ([0, 0, 0])),
  .inl (0, .inl (List.replicate 9 (-1))),
  .inl (0, .inl (List.replicate 9 0)),
  .inr (5, [.ref 1, .ref 93, .ref 99, .ref 110, .int 0, .ref 111, .ref 112, .ref 113]),
  .inr (2, [.int 0, .int 0, .ref 94, .ref 95, .ref 96, .ref 97, .ref 98]),
  .inl (0, .inl (List.replicate 48 (-1))),
  .inl (1, .inl (List.replicate 48 0)),
  .inl (0, .inl (List.replicate 144 0)),
  .inl (0, .inl (List.replicate 8 0)),
  .inl (0, .inl (List.replicate 48 0)),
  .inr (3, [.ref 100, .ref 101, .ref 102, .ref 103, .ref 104, .ref 105, .ref 106, .ref 107, .ref 108, .ref 109]),
  .inl (0, .inl (List.replicate 6 1)),
  .inl (0, .inl (List.replicate 1296 0)),
  .inl (0, .inl (List.replicate 6 0)),
  .inl (0, .inl (List.replicate 1296 0)),
  .inl (1, .inl (List.replicate 1296 0)),
  .inl (2, .inr (.inl (List.replicate 1296 0))),
  .inl (0, .inl (List.replicate 3888 0)),
  .inl (0, .inl (List.replicate 3888 0)),
  .inl (0, .inl ([0, 0, 0])),
  .inl (0, .inl (List.replicate 6 0)),
  .inl (0, .inl (List.replicate 6 0)),
  .inl (0, .inl (List.replicate 48 0)),
  .inl (0, .inl ([0, 0, 0])),
  .inl (0, .inl (List.replicate 6 0)),
  .inr (5, [.ref 1, .ref 115, .ref 121, .ref 132, .int 0, .ref 133, .ref 134, .ref 135]),
  .inr (2, [.int 0, .int 0, .ref 116, .ref 117, .ref 118, .ref 119, .ref 120]),
  .inl (0, .inl (List.replicate 48 (-1))),
  .inl (1, .inl (List.replicate 48 0)),
  .inl (0, .inl (List.replicate 144 0)),
  .inl (0, .inl (List.replicate 8 0)),
  .inl (0, .inl (List.replicate 48 0)),
  .inr (3, [.ref 122, .ref 123, .ref 124, .ref 125, .ref 126, .ref 127, .ref 128, .ref 129, .ref 130, .ref 131]),
  .inl (0, .inl (List.replicate 6 1)),
  .inl (0, .inl (List.replicate 1296 0)),
  .inl (0, .inl (List.replicate 6 0)),
  .inl (0, .inl (List.replicate 1296 0)),
  .inl (1, .inl (List.replicate 1296 0)),
  .inl (2, .inr (.inl (List.replicate 1296 0))),
  .inl (0, .inl (List.replicate 3888 0)),
  .inl (0, .inl (List.replicate 3888 0)),
  .inl (0, .inl ([0, 0, 0])),
  .inl (0, .inl (List.replicate 6 0)),
  .inl (0, .inl (List.replicate 6 0)),
  .inl (0, .inl (List.replicate 48 0)),
  .inl (0, .inl ([0, 0, 0])),
  .inl (0, .inl (List.replicate 6 0))]
def px_hm : List px_E := [
  .inr (6, [.ref 1, .int 0, .ref 92, .ref 114]),
  .inl (3, .inr (.inr ([some 2, some 17, some 32, some 47, some 62, some 77]))),
  .inr (4, [.int 0, .int 0, .ref 3, .ref 11]),
  .inr (1, [.int 0, .int 0, .int 0, .ref 4, .ref 5, .ref 6, .ref 7, .ref 8, .ref 9, .ref 10]),
  .inl (0, .inl (List.replicate 4 0)),
  .inl (0, .inl (List.replicate 4 0)),
  .inl (0, .inl (List.replicate 4 0)),
  .inl (0, .inl ([0, 0, 0])),
  .inl (0, .inl (List.replicate 12 0)),
  .inl (0, .inl (List.replicate 12 0)),
  .inl (0, .inl (List.replicate 6 (-1))),
  .inr (0, [.int 0, .ref 12, .ref 13, .ref 14, .ref 15, .ref 16]),
  .inl (0, .inl ([0, 0, 0])),
  .inl (0, .inl ([0, 0, 0])),
  .inl (0, .inl ([0, 0, 0])),
  .inl (0, .inl (List.replicate 9 (-1))),
  .inl (0, .inl (List.replicate 9 0)),
  .inr (4, [.int 0, .int 0, .ref 18, .ref 26]),
  .inr (1, [.int 0, .int 0, .int 0, .ref 19, .ref 20, .ref 21, .ref 22, .ref 23, .ref 24, .ref 25]),
  .inl (0, .inl (List.replicate 4 0)),
  .inl (0, .inl (List.replicate 4 0)),
  .inl (0, .inl (List.replicate 4 0)),
  .inl (0, .inl ([0, 0, 0])),
  .inl (0, .inl (List.replicate 12 0)),
  .inl (0, .inl (List.replicate 12 0)),
  .inl (0, .inl (List.replicate 6 (-1))),
  .inr (0, [.int 0, .ref 27, .ref 28, .ref 29, .ref 30, .ref 31]),
  .inl (0, .inl ([0, 0, 0])),
  .inl (0, .inl ([0, 0, 0])),
  .inl (0, .inl ([0, 0, 0])),
  .inl (0, .inl (List.replicate 9 (-1))),
  .inl (0, .inl (List.replicate 9 0)),
  .inr (4, [.int 0, .int 0, .ref 33, .ref 41]),
  .inr (1, [.int 0, .int 0, .int 0, .ref 34, .ref 35, .ref 36, .ref 37, .ref 38, .ref 39, .ref 40]),
  .inl (0, .inl (List.replicate 4 0)),
  .inl (0, .inl (List.replicate 4 0)),
  .inl (0, .inl (List.replicate 4 0)),
  .inl (0, .inl ([0, 0, 0])),
  .inl (0, .inl (List.replicate 12 0)),
  .inl (0, .inl (List.replicate 12 0)),
  .inl (0, .inl (List.replicate 6 (-1))),
  .inr (0, [.int 0, .ref 42, .ref 43, .ref 44, .ref 45, .ref 46]),
  .inl (0, .inl ([0, 0, 0])),
  .inl (0, .inl ([0, 0, 0])),
  .inl (0, .inl ([0, 0, 0])),
  .inl (0, .inl (List.replicate 9 (-1))),
  .inl (0, .inl (List.replicate 9 0)),
  .inr (4, [.int 0, .int 0, .ref 48, .ref 56]),
  .inr (1, [.int 0, .int 0, .int 0, .ref 49, .ref 50, .ref 51, .ref 52, .ref 53, .ref 54, .ref 55]),
  .inl (0, .inl (List.replicate 4 0)),
  .inl (0, .inl (List.replicate 4 0)),
  .inl (0, .inl (List.replicate 4 0)),
  .inl (0, .inl ([0, 0, 0])),
  .inl (0, .inl (List.replicate 12 0)),
  .inl (0, .inl (List.replicate 12 0)),
  .inl (0, .inl (List.replicate 6 (-1))),
  .inr (0, [.int 0, .ref 57, .ref 58, .ref 59, .ref 60, .ref 61]),
  .inl (0, .inl ([0, 0, 0])),
  .inl (0, .inl ([0, 0, 0])),
  .inl (0, .inl ([0, 0, 0])),
  .inl (0, .inl (List.replicate 9 (-1))),
  .inl (0, .inl (List.replicate 9 0)),
  .inr (4, [.int 0, .int 0, .ref 63, .ref 71]),
  .inr (1, [.int 0, .int 0, .int 0, .ref 64, .ref 65, .ref 66, .ref 67, .ref 68, .ref 69, .ref 70]),
  .inl (0, .inl (List.replicate 4 0)),
  .inl (0, .inl (List.replicate 4 0)),
  .inl (0, .inl (List.replicate 4 0)),
  .inl (0, .inl ([0, 0, 0])),
  .inl (0, .inl (List.replicate 12 0)),
  .inl (0, .inl (List.replicate 12 0)),
  .inl (0, .inl (List.replicate 6 (-1))),
  .inr (0, [.int 0, .ref 72, .ref 73, .ref 74, .ref 75, .ref 76]),
  .inl (0, .inl ([0, 0, 0])),
  .inl (0, .inl ([0, 0, 0])),
  .inl (0, .inl ([0, 0, 0])),
  .inl (0, .inl (List.replicate 9 (-1))),
  .inl (0, .inl (List.replicate 9 0)),
  .inr (4, [.int 0, .int 0, .ref 78, .ref 86]),
  .inr (1, [.int 0, .int 0, .int 0, .ref 79, .ref 80, .ref 81, .ref 82, .ref 83, .ref 84, .ref 85]),
  .inl (0, .inl (List.replicate 4 0)),
  .inl (0, .inl (List.replicate 4 0)),
  .inl (0, .inl (List.replicate 4 0)),
  .inl (0, .inl ([0, 0, 0])),
  .inl (0, .inl (List.replicate 12 0)),
  .inl (0, .inl (List.replicate 12 0)),
  .inl (0, .inl (List.replicate 6 (-1))),
  .inr (0, [.int 0, .ref 87, .ref 88, .ref 89, .ref 90, .ref 91]),
  .inl (0, .inl ([0, 0, 0])),
  .inl (0, .inl ([0, 0, 0])),
  .inl (0, .inl ([0, 0, 0])),
  .inl (0, .inl (List.replicate 9 (-1))),
  .inl (0, .inl (List.replicate 9 0)),
  .inr (5, [.ref 1, .ref 93, .ref 99, .ref 110, .int 0, .ref 111, .ref 112, .ref 113]),
  .inr (2, [.int 0, .int 0, .ref 94, .ref 95, .ref 96, .ref 97, .ref 98]),
  .inl (0, .inl (List.replicate 48 (-1))),
  .inl (1, .inl (List.replicate 48 0)),
  .inl (0, .inl (List.replicate 144 0)),
  .inl (0, .inl (List.replicate 8 0)),
  .inl (0, .inl (List.replicate 48 0)),
  .inr (3, [.ref 100, .ref 101, .ref 102, .ref 103, .ref 104, .ref 105, .ref 106, .ref 107, .ref 108, .ref 109]),
  .inl (0, .inl (List.replicate 6 1)),
  .inl (0, .inl (List.replicate 1296 0)),
  .inl (0, .inl (List.replicate 6 0)),
  .inl (0, .inl (List.replicate 1296 0)),
  .inl (1, .inl (List.replicate 1296 0)),
  .inl (2, .inr (.inl (List.replicate 1296 0))),
  .inl (0, .inl (List.replicate 3888 0)),
  .inl (0, .inl (List.replicate 3888 0)),
  .inl (0, .inl ([0, 0, 0])),
  .inl (0, .inl (List.replicate 6 0)),
  .inl (0, .inl (List.replicate 6 0)),
  .inl (0, .inl (List.replicate 48 0)),
  .inl (0, .inl ([0, 0, 0])),
  .inl (0, .inl (List.replicate 6 0)),
  .inr (5, [.ref 1, .ref 115, .ref 121, .ref 132, .int 0, .ref 133, .ref 134, .ref 135]),
  .inr (2, [.int 0, .int 0, .ref 116, .ref 117, .ref 118, .ref 119, .ref 120]),
  .inl (0, .inl (List.replicate 48 (-1))),
  .inl (1, .inl (List.replicate 48 0)),
  .inl (0, .inl (List.replicate 144 0)),
  .inl (0, .inl (List.replicate 8 0)),
  .inl (0, .inl (List.replicate 48 0)),
  .inr (3, [.ref 122, .ref 123, .ref 124, .ref 125, .ref 126, .ref 127, .ref 128, .ref 129, .ref 130, .ref 131]),
  .inl (0, .inl (List.replicate 6 1)),
  .inl (0, .inl (List.replicate 1296 0)),
  .inl (0, .inl (List.replicate 6 0)),
  .inl (0, .inl (List.replicate 1296 0)),
  .inl (1, .inl (List.replicate 1296 0)),
  .inl (2, .inr (.inl (List.replicate 1296 0))),
  .inl (0, .inl (List.replicate 3888 0)),
  .inl (0, .inl (List.replicate 3888 0)),
  .inl (0, .inl ([0, 0, 0])),
  .inl (0, .inl (List.replicate 6 0)),
  .inl (0, .inl (List.replicate 6 0)),
  .inl (0, .inl (List.replicate 48 0)),
  .inl (0, .inl ([0, 0, 0])),
  .inl (0, .inl (List.replicate 6 0)),
  .inr (10, [.ref 137, .int 0, .int 0, .ref 138, .ref 151, .long 0]),
  .inl (4, .inr (.inr (List.replicate 6 none))),
  .inr (9, [.int 0, .int 0, .int 0, .ref 139, .ref 140, .ref 141, .ref 143, .ref 145, .ref 147, .ref 149, .ref 150, .int 0, .ref 136]),
  .inl (1, .inl (List.replicate 6 0)),
  .inl (0, .inl (List.replicate 6 0)),
  .inr (7, [.int 6, .int 0, .ref 142]),
  .inl (0, .inl (List.replicate 96 0)),
  .inr (7, [.int 6, .int 0, .ref 144]),
  .inl (0, .inl (List.replicate 96 0)),
  .inr (7, [.int 2, .int 0, .ref 146]),
  .inl (0, .inl (List.replicate 32 0)),
  .inr (7, [.int 6, .int 0, .ref 148]),
  .inl (0, .inl (List.replicate 96 0)),
  .inl (0, .inl ([0, 0, 0])),
  .inl (0, .inl (List.replicate 6 0)),
  .inr (9, [.int 0, .int 0, .int 0, .ref 152, .ref 153, .ref 154, .ref 156, .ref 158, .ref 160, .ref 162, .ref 163, .int 0, .ref 136]),
  .inl (1, .inl (List.replicate 6 0)),
  .inl (0, .inl (List.replicate 6 0)),
  .inr (7, [.int 6, .int 0, .ref 155]),
  .inl (0, .inl (List.replicate 96 0)),
  .inr (7, [.int 6, .int 0, .ref 157]),
  .inl (0, .inl (List.replicate 96 0)),
  .inr (7, [.int 2, .int 0, .ref 159]),
  .inl (0, .inl (List.replicate 32 0)),
  .inr (7, [.int 6, .int 0, .ref 161]),
  .inl (0, .inl (List.replicate 96 0)),
  .inl (0, .inl ([0, 0, 0])),
  .inl (0, .inl (List.replicate 6 0))]
def px_hs : List px_E := [
  .inr (6, [.ref 1, .int 0, .ref 92, .ref 114]),
  .inl (3, .inr (.inr ([some 2, some 17, some 32, some 47, some 62, some 77]))),
  .inr (4, [.int 0, .int 0, .ref 3, .ref 11]),
  .inr (1, [.int 0, .int 0, .int 0, .ref 4, .ref 5, .ref 6, .ref 7, .ref 8, .ref 9, .ref 10]),
  .inl (0, .inl (List.replicate 4 0)),
  .inl (0, .inl (List.replicate 4 0)),
  .inl (0, .inl (List.replicate 4 0)),
  .inl (0, .inl ([0, 0, 0])),
  .inl (0, .inl (List.replicate 12 0)),
  .inl (0, .inl (List.replicate 12 0)),
  .inl (0, .inl (List.replicate 6 (-1))),
  .inr (0, [.int 0, .ref 12, .ref 13, .ref 14, .ref 15, .ref 16]),
  .inl (0, .inl ([0, 0, 0])),
  .inl (0, .inl ([0, 0, 0])),
  .inl (0, .inl ([0, 0, 0])),
  .inl (0, .inl (List.replicate 9 (-1))),
  .inl (0, .inl (List.replicate 9 0)),
  .inr (4, [.int 0, .int 0, .ref 18, .ref 26]),
  .inr (1, [.int 0, .int 0, .int 0, .ref 19, .ref 20, .ref 21, .ref 22, .ref 23, .ref 24, .ref 25]),
  .inl (0, .inl (List.replicate 4 0)),
  .inl (0, .inl (List.replicate 4 0)),
  .inl (0, .inl (List.replicate 4 0)),
  .inl (0, .inl ([0, 0, 0])),
  .inl (0, .inl (List.replicate 12 0)),
  .inl (0, .inl (List.replicate 12 0)),
  .inl (0, .inl (List.replicate 6 (-1))),
  .inr (0, [.int 0, .ref 27, .ref 28, .ref 29, .ref 30, .ref 31]),
  .inl (0, .inl ([0, 0, 0])),
  .inl (0, .inl ([0, 0, 0])),
  .inl (0, .inl ([0, 0, 0])),
  .inl (0, .inl (List.replicate 9 (-1))),
  .inl (0, .inl (List.replicate 9 0)),
  .inr (4, [.int 0, .int 0, .ref 33, .ref 41]),
  .inr (1, [.int 0, .int 0, .int 0, .ref 34, .ref 35, .ref 36, .ref 37, .ref 38, .ref 39, .ref 40]),
  .inl (0, .inl (List.replicate 4 0)),
  .inl (0, .inl (List.replicate 4 0)),
  .inl (0, .inl (List.replicate 4 0)),
  .inl (0, .inl ([0, 0, 0])),
  .inl (0, .inl (List.replicate 12 0)),
  .inl (0, .inl (List.replicate 12 0)),
  .inl (0, .inl (List.replicate 6 (-1))),
  .inr (0, [.int 0, .ref 42, .ref 43, .ref 44, .ref 45, .ref 46]),
  .inl (0, .inl ([0, 0, 0])),
  .inl (0, .inl ([0, 0, 0])),
  .inl (0, .inl ([0, 0, 0])),
  .inl (0, .inl (List.replicate 9 (-1))),
  .inl (0, .inl (List.replicate 9 0)),
  .inr (4, [.int 0, .int 0, .ref 48, .ref 56]),
  .inr (1, [.int 0, .int 0, .int 0, .ref 49, .ref 50, .ref 51, .ref 52, .ref 53, .ref 54, .ref 55]),
  .inl (0, .inl (List.replicate 4 0)),
  .inl (0, .inl (List.replicate 4 0)),
  .inl (0, .inl (List.replicate 4 0)),
  .inl (0, .inl ([0, 0, 0])),
  .inl (0, .inl (List.replicate 12 0)),
  .inl (0, .inl (List.replicate 12 0)),
  .inl (0, .inl (List.replicate 6 (-1))),
  .inr (0, [.int 0, .ref 57, .ref 58, .ref 59, .ref 60, .ref 61]),
  .inl (0, .inl ([0, 0, 0])),
  .inl (0, .inl ([0, 0, 0])),
  .inl (0, .inl ([0, 0, 0])),
  .inl (0, .inl (List.replicate 9 (-1))),
  .inl (0, .inl (List.replicate 9 0)),
  .inr (4, [.int 0, .int 0, .ref 63, .ref 71]),
  .inr (1, [.int 0, .int 0, .int 0, .ref 64, .ref 65, .ref 66, .ref 67, .ref 68, .ref 69, .ref 70]),
  .inl (0, .inl (List.replicate 4 0)),
  .inl (0, .inl (List.replicate 4 0)),
  .inl (0, .inl (List.replicate 4 0)),
  .inl (0, .inl ([0, 0, 0])),
  .inl (0, .inl (List.replicate 12 0)),
  .inl (0, .inl (List.replicate 12 0)),
  .inl (0, .inl (List.replicate 6 (-1))),
  .inr (0, [.int 0, .ref 72, .ref 73, .ref 74, .ref 75, .ref 76]),
  .inl (0, .inl ([0, 0, 0])),
  .inl (0, .inl ([0, 0, 0])),
  .inl (0, .inl ([0, 0, 0])),
  .inl (0, .inl (List.replicate 9 (-1))),
  .inl (0, .inl (List.replicate 9 0)),
  .inr (4, [.int 0, .int 0, .ref 78, .ref 86]),
  .inr (1, [.int 0, .int 0, .int 0, .ref 79, .ref 80, .ref 81, .ref 82, .ref 83, .ref 84, .ref 85]),
  .inl (0, .inl (List.replicate 4 0)),
  .inl (0, .inl (List.replicate 4 0)),
  .inl (0, .inl (List.replicate 4 0)),
  .inl (0, .inl ([0, 0, 0])),
  .inl (0, .inl (List.replicate 12 0)),
  .inl (0, .inl (List.replicate 12 0)),
  .inl (0, .inl (List.replicate 6 (-1))),
  .inr (0, [.int 0, .ref 87, .ref 88, .ref 89, .ref 90, .ref 91]),
  .inl (0, .inl ([0, 0, 0])),
  .inl (0, .inl ([0, 0, 0])),
  .inl (0, .inl ([0, 0, 0])),
  .inl (0, .inl (List.replicate 9 (-1))),
  .inl (0, .inl (List.replicate 9 0)),
  .inr (5, [.ref 1, .ref 93, .ref 99, .ref 110, .int 0, .ref 111, .ref 112, .ref 113]),
  .inr (2, [.int 0, .int 0, .ref 94, .ref 95, .ref 96, .ref 97, .ref 98]),
  .inl (0, .inl (List.replicate 48 (-1))),
  .inl (1, .inl (List.replicate 48 0)),
  .inl (0, .inl (List.replicate 144 0)),
  .inl (0, .inl (List.replicate 8 0)),
  .inl (0, .inl (List.replicate 48 0)),
  .inr (3, [.ref 100, .ref 101, .ref 102, .ref 103, .ref 104, .ref 105, .ref 106, .ref 107, .ref 108, .ref 109]),
  .inl (0, .inl (List.replicate 6 1)),
  .inl (0, .inl (List.replicate 1296 0)),
  .inl (0, .inl (List.replicate 6 0)),
  .inl (0, .inl (List.replicate 1296 0)),
  .inl (1, .inl (List.replicate 1296 0)),
  .inl (2, .inr (.inl (List.replicate 1296 0))),
  .inl (0, .inl (List.replicate 3888 0)),
  .inl (0, .inl (List.replicate 3888 0)),
  .inl (0, .inl ([0, 0, 0])),
  .inl (0, .inl (List.replicate 6 0)),
  .inl (0, .inl (List.replicate 6 0)),
  .inl (0, .inl (List.replicate 48 0)),
  .inl (0, .inl ([0, 0, 0])),
  .inl (0, .inl (List.replicate 6 0)),
  .inr (5, [.ref 1, .ref 115, .ref 121, .ref 132, .int 0, .ref 133, .ref 134, .ref 135]),
  .inr (2, [.int 0, .int 0, .ref 116, .ref 117, .ref 118, .ref 119, .ref 120]),
  .inl (0, .inl (List.replicate 48 (-1))),
  .inl (1, .inl (List.replicate 48 0)),
  .inl (0, .inl (List.replicate 144 0)),
  .inl (0, .inl (List.replicate 8 0)),
  .inl (0, .inl (List.replicate 48 0)),
  .inr (3, [.ref 122, .ref 123, .ref 124, .ref 125, .ref 126, .ref 127, .ref 128, .ref 129, .ref 130, .ref 131]),
  .inl (0, .inl (List.replicate 6 1)),
  .inl (0, .inl (List.replicate 1296 0)),
  .inl (0, .inl (List.replicate 6 0)),
  .inl (0, .inl (List.replicate 1296 0)),
  .inl (1, .inl (List.replicate 1296 0)),
  .inl (2, .inr (.inl (List.replicate 1296 0))),
  .inl (0, .inl (List.replicate 3888 0)),
  .inl (0, .inl (List.replicate 3888 0)),
  .inl (0, .inl ([0, 0, 0])),
  .inl (0, .inl (List.replicate 6 0)),
  .inl (0, .inl (List.replicate 6 0)),
  .inl (0, .inl (List.replicate 48 0)),
  .inl (0, .inl ([0, 0, 0])),
  .inl (0, .inl (List.replicate 6 0)),
  .inr (10, [.ref 137, .int 0, .int 0, .ref 138, .ref 151, .long 0]),
  .inl (4, .inr (.inr (List.replicate 6 none))),
  .inr (9, [.int 0, .int 0, .int 0, .ref 139, .ref 140, .ref 141, .ref 143, .ref 145, .ref 147, .ref 149, .ref 150, .int 0, .ref 136]),
  .inl (1, .inl (List.replicate 6 0)),
  .inl (0, .inl (List.replicate 6 0)),
  .inr (7, [.int 6, .int 0, .ref 142]),
  .inl (0, .inl (List.replicate 96 0)),
  .inr (7, [.int 6, .int 0, .ref 144]),
  .inl (0, .inl (List.replicate 96 0)),
  .inr (7, [.int 2, .int 0, .ref 146]),
  .inl (0, .inl (List.replicate 32 0)),
  .inr (7, [.int 6, .int 0, .ref 148]),
  .inl (0, .inl (List.replicate 96 0)),
  .inl (0, .inl ([0, 0, 0])),
  .inl (0, .inl (List.replicate 6 0)),
  .inr (9, [.int 0, .int 0, .int 0, .ref 152, .ref 153, .ref 154, .ref 156, .ref 158, .ref 160, .ref 162, .ref 163, .int 0, .ref 136]),
  .inl (1, .inl (List.replicate 6 0)),
  .inl (0, .inl (List.replicate 6 0)),
  .inr (7, [.int 6, .int 0, .ref 155]),
  .inl (0, .inl (List.replicate 96 0)),
  .inr (7, [.int 6, .int 0, .ref 157]),
  .inl (0, .inl (List.replicate 96 0)),
  .inr (7, [.int 2, .int 0, .ref 159]),
  .inl (0, .inl (List.replicate 32 0)),
  .inr (7, [.int 6, .int 0, .ref 161]),
  .inl (0, .inl (List.replicate 96 0)),
  .inl (0, .inl ([0, 0, 0])),
  .inl (0, .inl (List.replicate 6 0)),
  .inl (2, .inr (.inl ([0])))]
def ph_0 : List px_E := px_h0 ++ ([.inr (10, [.null, .int 0, .int 0, .null, .null, .long 0])] : List px_E)
def ph_1 : List px_E := px_hs ++ ([.inr (12, [])] : List px_E)
def ph_2 : List px_E := ph_1.set 136 (.inr (10, [.ref 137, .int 0, .int 1, .ref 138, .ref 151, .long 0]))
def ph_3 (a1 : Int32) : List px_E := px_hs.set 2 (.inr (4, [.int a1, .int 0, .ref 3, .ref 11]))
def ph_4 (a1 : Int32) : List px_E := (ph_3 a1).set 0 (.inr (6, [.ref 1, .int 1, .ref 92, .ref 114]))
def ph_5 (a1 : Int32) : List px_E := (ph_4 a1).set 164 (.inl (2, .inr (.inl ([0]))))
def ph_6 (a1 : Int32) : List px_E := (ph_5 a1) ++ ([.inr (8, [.int 0, .int 0, .int 0, .null, .null])] : List px_E)
def ph_7 (a1 : Int32) : List px_E := (ph_6 a1) ++ ([.inl (5, .inr (.inr ([some 167, some 168, some 169, some 170]))), .inl (0, .inl (List.replicate 9 0)), .inl (0, .inl (List.replicate 9 0)), .inl (0, .inl (List.replicate 9 0)), .inl (0, .inl (List.replicate 9 0))] : List px_E)
def ph_8 (a1 : Int32) : List px_E := (ph_7 a1).set 165 (.inr (8, [.int 0, .int 0, .int 0, .ref 166, .null]))
def ph_9 (a1 : Int32) : List px_E := (ph_8 a1) ++ ([.inl (5, .inr (.inr ([some 172, some 173, some 174]))), .inl (0, .inl (List.replicate 8 0)), .inl (0, .inl (List.replicate 8 0)), .inl (0, .inl (List.replicate 8 0))] : List px_E)
def ph_10 (a1 : Int32) : List px_E := (ph_9 a1).set 165 (.inr (8, [.int 0, .int 0, .int 0, .ref 166, .ref 171]))
def ph_11 (a1 : Int32) : List px_E := (ph_10 a1).set 165 (.inr (8, [.int a1, .int 0, .int 0, .ref 166, .ref 171]))
def ph_12 (a1 : Int32) : List px_E := (ph_11 a1).set 137 (.inl (4, .inr (.inr ([some 165, none, none, none, none, none]))))
def ph_13 (a1 : Int32) : List px_E := (ph_12 a1).set 136 (.inr (10, [.ref 137, .int 1, .int 0, .ref 138, .ref 151, .long 0]))
def ph_14 : List px_E := px_hs ++ ([.inr (11, [])] : List px_E)
def ph_15 : List px_E := ph_14.set 136 (.inr (10, [.ref 137, .int 0, .int 1, .ref 138, .ref 151, .long 0]))
def ph_16 : List px_E := px_hs.set 94 (.inl (0, .inl ([0] ++ List.replicate 47 (-1))))
def ph_17 : List px_E := ph_16.set 93 (.inr (2, [.int 1, .int 0, .ref 94, .ref 95, .ref 96, .ref 97, .ref 98]))
def ph_18 : List px_E := ph_17.set 93 (.inr (2, [.int 1, .int 1, .ref 94, .ref 95, .ref 96, .ref 97, .ref 98]))
def ph_19 : List px_E := ph_18.set 95 (.inl (1, .inl (List.replicate 48 0)))
def ph_20 (a2 : Int32) : List px_E := ph_19.set 96 (.inl (0, .inl ([a2] ++ List.replicate 143 0)))
def ph_21 (a2 a3 : Int32) : List px_E := (ph_20 a2).set 96 (.inl (0, .inl ([a2] ++ [a3] ++ List.replicate 142 0)))
def ph_22 (a2 a3 a4 : Int32) : List px_E := (ph_21 a2 a3).set 96 (.inl (0, .inl ([a2] ++ [a3] ++ [a4] ++ List.replicate 141 0)))
def ph_23 (a2 a3 a4 : Int32) : List px_E := (ph_22 a2 a3 a4).set 98 (.inl (0, .inl (List.replicate 48 0)))
def ph_24 (a2 a3 a4 : Int32) : List px_E := (ph_23 a2 a3 a4).set 97 (.inl (0, .inl ([1, 0, 0, 0, 0, 0, 0, 0])))
def ph_25 (a2 a3 a4 : Int32) : List px_E := (ph_24 a2 a3 a4).set 95 (.inl (1, .inl ([1] ++ List.replicate 47 0)))
def ph_26 (a2 a3 a4 : Int32) : List px_E := (ph_25 a2 a3 a4).set 164 (.inl (2, .inr (.inl ([0]))))
def ph_27 (a2 a3 a4 : Int32) : List px_E := (ph_26 a2 a3 a4) ++ ([.inl (0, .inl (List.replicate 6 0))] : List px_E)
def ph_28 (a2 a3 a4 : Int32) : List px_E := (ph_27 a2 a3 a4).set 165 (.inl (0, .inl (List.replicate 6 0)))
def ph_29 (a2 a3 a4 : Int32) : List px_E := (ph_28 a2 a3 a4).set 165 (.inl (0, .inl (List.replicate 6 0)))
def ph_30 (a2 a3 a4 : Int32) : List px_E := (ph_29 a2 a3 a4).set 165 (.inl (0, .inl ([0, 0, a2, 0, 0, 0])))
def ph_31 (a2 a3 a4 : Int32) : List px_E := (ph_30 a2 a3 a4).set 165 (.inl (0, .inl ([0, 0, a2, a3, 0, 0])))
def ph_32 (a2 a3 a4 : Int32) : List px_E := (ph_31 a2 a3 a4).set 165 (.inl (0, .inl ([0, 0, a2, a3, a4, 0])))
def ph_33 (a2 a3 a4 : Int32) : List px_E := (ph_32 a2 a3 a4).set 165 (.inl (0, .inl ([0, 0, a2, a3, a4, 1])))
def ph_34 (a2 a3 a4 : Int32) : List px_E := (ph_33 a2 a3 a4).set 142 (.inl (0, .inl ([0, 0] ++ [a2] ++ [a3] ++ [a4] ++ [1] ++ List.replicate 90 0)))
def ph_35 (a2 a3 a4 : Int32) : List px_E := (ph_34 a2 a3 a4).set 141 (.inr (7, [.int 6, .int 1, .ref 142]))
def ph_36 (a2 a3 a4 : Int32) : List px_E := (ph_35 a2 a3 a4).set 138 (.inr (9, [.int 1, .int 0, .int 0, .ref 139, .ref 140, .ref 141, .ref 143, .ref 145, .ref 147, .ref 149, .ref 150, .int 0, .ref 136]))
def ph_37 (a2 a3 a4 : Int32) : List px_E := (ph_36 a2 a3 a4).set 144 (.inl (0, .inl (List.replicate 96 0)))
def ph_38 : List px_E := px_hs.set 94 (.inl (0, .inl (List.replicate 6 (-1) ++ [0] ++ List.replicate 41 (-1))))
def ph_39 : List px_E := ph_38.set 93 (.inr (2, [.int 1, .int 0, .ref 94, .ref 95, .ref 96, .ref 97, .ref 98]))
def ph_40 : List px_E := ph_39.set 93 (.inr (2, [.int 1, .int 1, .ref 94, .ref 95, .ref 96, .ref 97, .ref 98]))
def ph_41 : List px_E := ph_40.set 95 (.inl (1, .inl (List.replicate 48 0)))
def ph_42 (a2 : Int32) : List px_E := ph_41.set 96 (.inl (0, .inl (List.replicate 18 0 ++ [a2] ++ List.replicate 125 0)))
def ph_43 (a2 a3 : Int32) : List px_E := (ph_42 a2).set 96 (.inl (0, .inl (List.replicate 18 0 ++ [a2] ++ [a3] ++ List.replicate 124 0)))
def ph_44 (a2 a3 a4 : Int32) : List px_E := (ph_43 a2 a3).set 96 (.inl (0, .inl (List.replicate 18 0 ++ [a2] ++ [a3] ++ [a4] ++ List.replicate 123 0)))
def ph_45 (a2 a3 a4 : Int32) : List px_E := (ph_44 a2 a3 a4).set 98 (.inl (0, .inl (List.replicate 6 0 ++ [6] ++ List.replicate 41 0)))
def ph_46 (a2 a3 a4 : Int32) : List px_E := (ph_45 a2 a3 a4).set 97 (.inl (0, .inl ([0, 1, 0, 0, 0, 0, 0, 0])))
def ph_47 (a2 a3 a4 : Int32) : List px_E := (ph_46 a2 a3 a4).set 95 (.inl (1, .inl (List.replicate 6 0 ++ [1] ++ List.replicate 41 0)))
def ph_48 (a2 a3 a4 : Int32) : List px_E := (ph_47 a2 a3 a4).set 164 (.inl (2, .inr (.inl ([0]))))
def ph_49 (a2 a3 a4 : Int32) : List px_E := (ph_48 a2 a3 a4) ++ ([.inl (0, .inl (List.replicate 6 0))] : List px_E)
def ph_50 (a2 a3 a4 : Int32) : List px_E := (ph_49 a2 a3 a4).set 165 (.inl (0, .inl (List.replicate 6 0)))
def ph_51 (a2 a3 a4 : Int32) : List px_E := (ph_50 a2 a3 a4).set 165 (.inl (0, .inl ([0, 1, 0, 0, 0, 0])))
def ph_52 (a2 a3 a4 : Int32) : List px_E := (ph_51 a2 a3 a4).set 165 (.inl (0, .inl ([0, 1, a2, 0, 0, 0])))
def ph_53 (a2 a3 a4 : Int32) : List px_E := (ph_52 a2 a3 a4).set 165 (.inl (0, .inl ([0, 1, a2, a3, 0, 0])))
def ph_54 (a2 a3 a4 : Int32) : List px_E := (ph_53 a2 a3 a4).set 165 (.inl (0, .inl ([0, 1, a2, a3, a4, 0])))
def ph_55 (a2 a3 a4 : Int32) : List px_E := (ph_54 a2 a3 a4).set 165 (.inl (0, .inl ([0, 1, a2, a3, a4, 1])))
def ph_56 (a2 a3 a4 : Int32) : List px_E := (ph_55 a2 a3 a4).set 142 (.inl (0, .inl ([0] ++ [1] ++ [a2] ++ [a3] ++ [a4] ++ [1] ++ List.replicate 90 0)))
def ph_57 (a2 a3 a4 : Int32) : List px_E := (ph_56 a2 a3 a4).set 141 (.inr (7, [.int 6, .int 1, .ref 142]))
def ph_58 (a2 a3 a4 : Int32) : List px_E := (ph_57 a2 a3 a4).set 138 (.inr (9, [.int 1, .int 0, .int 0, .ref 139, .ref 140, .ref 141, .ref 143, .ref 145, .ref 147, .ref 149, .ref 150, .int 0, .ref 136]))
def ph_59 (a2 a3 a4 : Int32) : List px_E := (ph_58 a2 a3 a4).set 144 (.inl (0, .inl (List.replicate 96 0)))
def ph_60 : List px_E := px_hs.set 94 (.inl (0, .inl (List.replicate 12 (-1) ++ [0] ++ List.replicate 35 (-1))))
def ph_61 : List px_E := ph_60.set 93 (.inr (2, [.int 1, .int 0, .ref 94, .ref 95, .ref 96, .ref 97, .ref 98]))
def ph_62 : List px_E := ph_61.set 93 (.inr (2, [.int 1, .int 1, .ref 94, .ref 95, .ref 96, .ref 97, .ref 98]))
def ph_63 : List px_E := ph_62.set 95 (.inl (1, .inl (List.replicate 48 0)))
def ph_64 (a2 : Int32) : List px_E := ph_63.set 96 (.inl (0, .inl (List.replicate 36 0 ++ [a2] ++ List.replicate 107 0)))
def ph_65 (a2 a3 : Int32) : List px_E := (ph_64 a2).set 96 (.inl (0, .inl (List.replicate 36 0 ++ [a2] ++ [a3] ++ List.replicate 106 0)))
def ph_66 (a2 a3 a4 : Int32) : List px_E := (ph_65 a2 a3).set 96 (.inl (0, .inl (List.replicate 36 0 ++ [a2] ++ [a3] ++ [a4] ++ List.replicate 105 0)))
def ph_67 (a2 a3 a4 : Int32) : List px_E := (ph_66 a2 a3 a4).set 98 (.inl (0, .inl (List.replicate 12 0 ++ [12] ++ List.replicate 35 0)))
def ph_68 (a2 a3 a4 : Int32) : List px_E := (ph_67 a2 a3 a4).set 97 (.inl (0, .inl ([0, 0, 1, 0, 0, 0, 0, 0])))
def ph_69 (a2 a3 a4 : Int32) : List px_E := (ph_68 a2 a3 a4).set 95 (.inl (1, .inl (List.replicate 12 0 ++ [1] ++ List.replicate 35 0)))
def ph_70 (a2 a3 a4 : Int32) : List px_E := (ph_69 a2 a3 a4).set 164 (.inl (2, .inr (.inl ([0]))))
def ph_71 (a2 a3 a4 : Int32) : List px_E := (ph_70 a2 a3 a4) ++ ([.inl (0, .inl (List.replicate 6 0))] : List px_E)
def ph_72 (a2 a3 a4 : Int32) : List px_E := (ph_71 a2 a3 a4).set 165 (.inl (0, .inl (List.replicate 6 0)))
def ph_73 (a2 a3 a4 : Int32) : List px_E := (ph_72 a2 a3 a4).set 165 (.inl (0, .inl ([0, 2, 0, 0, 0, 0])))
def ph_74 (a2 a3 a4 : Int32) : List px_E := (ph_73 a2 a3 a4).set 165 (.inl (0, .inl ([0, 2, a2, 0, 0, 0])))
def ph_75 (a2 a3 a4 : Int32) : List px_E := (ph_74 a2 a3 a4).set 165 (.inl (0, .inl ([0, 2, a2, a3, 0, 0])))
def ph_76 (a2 a3 a4 : Int32) : List px_E := (ph_75 a2 a3 a4).set 165 (.inl (0, .inl ([0, 2, a2, a3, a4, 0])))
def ph_77 (a2 a3 a4 : Int32) : List px_E := (ph_76 a2 a3 a4).set 165 (.inl (0, .inl ([0, 2, a2, a3, a4, 1])))
def ph_78 (a2 a3 a4 : Int32) : List px_E := (ph_77 a2 a3 a4).set 142 (.inl (0, .inl ([0] ++ [2] ++ [a2] ++ [a3] ++ [a4] ++ [1] ++ List.replicate 90 0)))
def ph_79 (a2 a3 a4 : Int32) : List px_E := (ph_78 a2 a3 a4).set 141 (.inr (7, [.int 6, .int 1, .ref 142]))
def ph_80 (a2 a3 a4 : Int32) : List px_E := (ph_79 a2 a3 a4).set 138 (.inr (9, [.int 1, .int 0, .int 0, .ref 139, .ref 140, .ref 141, .ref 143, .ref 145, .ref 147, .ref 149, .ref 150, .int 0, .ref 136]))
def ph_81 (a2 a3 a4 : Int32) : List px_E := (ph_80 a2 a3 a4).set 144 (.inl (0, .inl (List.replicate 96 0)))
def ph_82 : List px_E := px_hs.set 94 (.inl (0, .inl (List.replicate 18 (-1) ++ [0] ++ List.replicate 29 (-1))))
def ph_83 : List px_E := ph_82.set 93 (.inr (2, [.int 1, .int 0, .ref 94, .ref 95, .ref 96, .ref 97, .ref 98]))
def ph_84 : List px_E := ph_83.set 93 (.inr (2, [.int 1, .int 1, .ref 94, .ref 95, .ref 96, .ref 97, .ref 98]))
def ph_85 : List px_E := ph_84.set 95 (.inl (1, .inl (List.replicate 48 0)))
def ph_86 (a2 : Int32) : List px_E := ph_85.set 96 (.inl (0, .inl (List.replicate 54 0 ++ [a2] ++ List.replicate 89 0)))
def ph_87 (a2 a3 : Int32) : List px_E := (ph_86 a2).set 96 (.inl (0, .inl (List.replicate 54 0 ++ [a2] ++ [a3] ++ List.replicate 88 0)))
def ph_88 (a2 a3 a4 : Int32) : List px_E := (ph_87 a2 a3).set 96 (.inl (0, .inl (List.replicate 54 0 ++ [a2] ++ [a3] ++ [a4] ++ List.replicate 87 0)))
def ph_89 (a2 a3 a4 : Int32) : List px_E := (ph_88 a2 a3 a4).set 98 (.inl (0, .inl (List.replicate 18 0 ++ [18] ++ List.replicate 29 0)))
def ph_90 (a2 a3 a4 : Int32) : List px_E := (ph_89 a2 a3 a4).set 97 (.inl (0, .inl ([0, 0, 0, 1, 0, 0, 0, 0])))
def ph_91 (a2 a3 a4 : Int32) : List px_E := (ph_90 a2 a3 a4).set 95 (.inl (1, .inl (List.replicate 18 0 ++ [1] ++ List.replicate 29 0)))
def ph_92 (a2 a3 a4 : Int32) : List px_E := (ph_91 a2 a3 a4).set 164 (.inl (2, .inr (.inl ([0]))))
def ph_93 (a2 a3 a4 : Int32) : List px_E := (ph_92 a2 a3 a4) ++ ([.inl (0, .inl (List.replicate 6 0))] : List px_E)
def ph_94 (a2 a3 a4 : Int32) : List px_E := (ph_93 a2 a3 a4).set 165 (.inl (0, .inl (List.replicate 6 0)))
def ph_95 (a2 a3 a4 : Int32) : List px_E := (ph_94 a2 a3 a4).set 165 (.inl (0, .inl ([0, 3, 0, 0, 0, 0])))
def ph_96 (a2 a3 a4 : Int32) : List px_E := (ph_95 a2 a3 a4).set 165 (.inl (0, .inl ([0, 3, a2, 0, 0, 0])))
def ph_97 (a2 a3 a4 : Int32) : List px_E := (ph_96 a2 a3 a4).set 165 (.inl (0, .inl ([0, 3, a2, a3, 0, 0])))
def ph_98 (a2 a3 a4 : Int32) : List px_E := (ph_97 a2 a3 a4).set 165 (.inl (0, .inl ([0, 3, a2, a3, a4, 0])))
def ph_99 (a2 a3 a4 : Int32) : List px_E := (ph_98 a2 a3 a4).set 165 (.inl (0, .inl ([0, 3, a2, a3, a4, 1])))
def ph_100 (a2 a3 a4 : Int32) : List px_E := (ph_99 a2 a3 a4).set 142 (.inl (0, .inl ([0] ++ [3] ++ [a2] ++ [a3] ++ [a4] ++ [1] ++ List.replicate 90 0)))
def ph_101 (a2 a3 a4 : Int32) : List px_E := (ph_100 a2 a3 a4).set 141 (.inr (7, [.int 6, .int 1, .ref 142]))
def ph_102 (a2 a3 a4 : Int32) : List px_E := (ph_101 a2 a3 a4).set 138 (.inr (9, [.int 1, .int 0, .int 0, .ref 139, .ref 140, .ref 141, .ref 143, .ref 145, .ref 147, .ref 149, .ref 150, .int 0, .ref 136]))
def ph_103 (a2 a3 a4 : Int32) : List px_E := (ph_102 a2 a3 a4).set 144 (.inl (0, .inl (List.replicate 96 0)))
def ph_104 : List px_E := px_hs.set 94 (.inl (0, .inl (List.replicate 24 (-1) ++ [0] ++ List.replicate 23 (-1))))
def ph_105 : List px_E := ph_104.set 93 (.inr (2, [.int 1, .int 0, .ref 94, .ref 95, .ref 96, .ref 97, .ref 98]))
def ph_106 : List px_E := ph_105.set 93 (.inr (2, [.int 1, .int 1, .ref 94, .ref 95, .ref 96, .ref 97, .ref 98]))
def ph_107 : List px_E := ph_106.set 95 (.inl (1, .inl (List.replicate 48 0)))
def ph_108 (a2 : Int32) : List px_E := ph_107.set 96 (.inl (0, .inl (List.replicate 72 0 ++ [a2] ++ List.replicate 71 0)))
def ph_109 (a2 a3 : Int32) : List px_E := (ph_108 a2).set 96 (.inl (0, .inl (List.replicate 72 0 ++ [a2] ++ [a3] ++ List.replicate 70 0)))
def ph_110 (a2 a3 a4 : Int32) : List px_E := (ph_109 a2 a3).set 96 (.inl (0, .inl (List.replicate 72 0 ++ [a2] ++ [a3] ++ [a4] ++ List.replicate 69 0)))
def ph_111 (a2 a3 a4 : Int32) : List px_E := (ph_110 a2 a3 a4).set 98 (.inl (0, .inl (List.replicate 24 0 ++ [24] ++ List.replicate 23 0)))
def ph_112 (a2 a3 a4 : Int32) : List px_E := (ph_111 a2 a3 a4).set 97 (.inl (0, .inl ([0, 0, 0, 0, 1, 0, 0, 0])))
def ph_113 (a2 a3 a4 : Int32) : List px_E := (ph_112 a2 a3 a4).set 95 (.inl (1, .inl (List.replicate 24 0 ++ [1] ++ List.replicate 23 0)))
def ph_114 (a2 a3 a4 : Int32) : List px_E := (ph_113 a2 a3 a4).set 164 (.inl (2, .inr (.inl ([0]))))
def ph_115 (a2 a3 a4 : Int32) : List px_E := (ph_114 a2 a3 a4) ++ ([.inl (0, .inl (List.replicate 6 0))] : List px_E)
def ph_116 (a2 a3 a4 : Int32) : List px_E := (ph_115 a2 a3 a4).set 165 (.inl (0, .inl (List.replicate 6 0)))
def ph_117 (a2 a3 a4 : Int32) : List px_E := (ph_116 a2 a3 a4).set 165 (.inl (0, .inl ([0, 4, 0, 0, 0, 0])))
def ph_118 (a2 a3 a4 : Int32) : List px_E := (ph_117 a2 a3 a4).set 165 (.inl (0, .inl ([0, 4, a2, 0, 0, 0])))
def ph_119 (a2 a3 a4 : Int32) : List px_E := (ph_118 a2 a3 a4).set 165 (.inl (0, .inl ([0, 4, a2, a3, 0, 0])))
def ph_120 (a2 a3 a4 : Int32) : List px_E := (ph_119 a2 a3 a4).set 165 (.inl (0, .inl ([0, 4, a2, a3, a4, 0])))
def ph_121 (a2 a3 a4 : Int32) : List px_E := (ph_120 a2 a3 a4).set 165 (.inl (0, .inl ([0, 4, a2, a3, a4, 1])))
def ph_122 (a2 a3 a4 : Int32) : List px_E := (ph_121 a2 a3 a4).set 142 (.inl (0, .inl ([0] ++ [4] ++ [a2] ++ [a3] ++ [a4] ++ [1] ++ List.replicate 90 0)))
def ph_123 (a2 a3 a4 : Int32) : List px_E := (ph_122 a2 a3 a4).set 141 (.inr (7, [.int 6, .int 1, .ref 142]))
def ph_124 (a2 a3 a4 : Int32) : List px_E := (ph_123 a2 a3 a4).set 138 (.inr (9, [.int 1, .int 0, .int 0, .ref 139, .ref 140, .ref 141, .ref 143, .ref 145, .ref 147, .ref 149, .ref 150, .int 0, .ref 136]))
def ph_125 (a2 a3 a4 : Int32) : List px_E := (ph_124 a2 a3 a4).set 144 (.inl (0, .inl (List.replicate 96 0)))
def ph_126 : List px_E := px_hs.set 94 (.inl (0, .inl (List.replicate 30 (-1) ++ [0] ++ List.replicate 17 (-1))))
def ph_127 : List px_E := ph_126.set 93 (.inr (2, [.int 1, .int 0, .ref 94, .ref 95, .ref 96, .ref 97, .ref 98]))
def ph_128 : List px_E := ph_127.set 93 (.inr (2, [.int 1, .int 1, .ref 94, .ref 95, .ref 96, .ref 97, .ref 98]))
def ph_129 : List px_E := ph_128.set 95 (.inl (1, .inl (List.replicate 48 0)))
def ph_130 (a2 : Int32) : List px_E := ph_129.set 96 (.inl (0, .inl (List.replicate 90 0 ++ [a2] ++ List.replicate 53 0)))
def ph_131 (a2 a3 : Int32) : List px_E := (ph_130 a2).set 96 (.inl (0, .inl (List.replicate 90 0 ++ [a2] ++ [a3] ++ List.replicate 52 0)))
def ph_132 (a2 a3 a4 : Int32) : List px_E := (ph_131 a2 a3).set 96 (.inl (0, .inl (List.replicate 90 0 ++ [a2] ++ [a3] ++ [a4] ++ List.replicate 51 0)))
def ph_133 (a2 a3 a4 : Int32) : List px_E := (ph_132 a2 a3 a4).set 98 (.inl (0, .inl (List.replicate 30 0 ++ [30] ++ List.replicate 17 0)))
def ph_134 (a2 a3 a4 : Int32) : List px_E := (ph_133 a2 a3 a4).set 97 (.inl (0, .inl ([0, 0, 0, 0, 0, 1, 0, 0])))
def ph_135 (a2 a3 a4 : Int32) : List px_E := (ph_134 a2 a3 a4).set 95 (.inl (1, .inl (List.replicate 30 0 ++ [1] ++ List.replicate 17 0)))
def ph_136 (a2 a3 a4 : Int32) : List px_E := (ph_135 a2 a3 a4).set 164 (.inl (2, .inr (.inl ([0]))))
def ph_137 (a2 a3 a4 : Int32) : List px_E := (ph_136 a2 a3 a4) ++ ([.inl (0, .inl (List.replicate 6 0))] : List px_E)
def ph_138 (a2 a3 a4 : Int32) : List px_E := (ph_137 a2 a3 a4).set 165 (.inl (0, .inl (List.replicate 6 0)))
def ph_139 (a2 a3 a4 : Int32) : List px_E := (ph_138 a2 a3 a4).set 165 (.inl (0, .inl ([0, 5, 0, 0, 0, 0])))
def ph_140 (a2 a3 a4 : Int32) : List px_E := (ph_139 a2 a3 a4).set 165 (.inl (0, .inl ([0, 5, a2, 0, 0, 0])))
def ph_141 (a2 a3 a4 : Int32) : List px_E := (ph_140 a2 a3 a4).set 165 (.inl (0, .inl ([0, 5, a2, a3, 0, 0])))
def ph_142 (a2 a3 a4 : Int32) : List px_E := (ph_141 a2 a3 a4).set 165 (.inl (0, .inl ([0, 5, a2, a3, a4, 0])))
def ph_143 (a2 a3 a4 : Int32) : List px_E := (ph_142 a2 a3 a4).set 165 (.inl (0, .inl ([0, 5, a2, a3, a4, 1])))
def ph_144 (a2 a3 a4 : Int32) : List px_E := (ph_143 a2 a3 a4).set 142 (.inl (0, .inl ([0] ++ [5] ++ [a2] ++ [a3] ++ [a4] ++ [1] ++ List.replicate 90 0)))
def ph_145 (a2 a3 a4 : Int32) : List px_E := (ph_144 a2 a3 a4).set 141 (.inr (7, [.int 6, .int 1, .ref 142]))
def ph_146 (a2 a3 a4 : Int32) : List px_E := (ph_145 a2 a3 a4).set 138 (.inr (9, [.int 1, .int 0, .int 0, .ref 139, .ref 140, .ref 141, .ref 143, .ref 145, .ref 147, .ref 149, .ref 150, .int 0, .ref 136]))
def ph_147 (a2 a3 a4 : Int32) : List px_E := (ph_146 a2 a3 a4).set 144 (.inl (0, .inl (List.replicate 96 0)))
def ph_148 : List px_E := px_hs.set 94 (.inl (0, .inl (List.replicate 36 (-1) ++ [0] ++ List.replicate 11 (-1))))
def ph_149 : List px_E := ph_148.set 93 (.inr (2, [.int 1, .int 0, .ref 94, .ref 95, .ref 96, .ref 97, .ref 98]))
def ph_150 : List px_E := ph_149.set 93 (.inr (2, [.int 1, .int 1, .ref 94, .ref 95, .ref 96, .ref 97, .ref 98]))
def ph_151 : List px_E := ph_150.set 95 (.inl (1, .inl (List.replicate 48 0)))
def ph_152 (a2 : Int32) : List px_E := ph_151.set 96 (.inl (0, .inl (List.replicate 108 0 ++ [a2] ++ List.replicate 35 0)))
def ph_153 (a2 a3 : Int32) : List px_E := (ph_152 a2).set 96 (.inl (0, .inl (List.replicate 108 0 ++ [a2] ++ [a3] ++ List.replicate 34 0)))
def ph_154 (a2 a3 a4 : Int32) : List px_E := (ph_153 a2 a3).set 96 (.inl (0, .inl (List.replicate 108 0 ++ [a2] ++ [a3] ++ [a4] ++ List.replicate 33 0)))
def ph_155 (a2 a3 a4 : Int32) : List px_E := (ph_154 a2 a3 a4).set 98 (.inl (0, .inl (List.replicate 36 0 ++ [36] ++ List.replicate 11 0)))
def ph_156 (a2 a3 a4 : Int32) : List px_E := (ph_155 a2 a3 a4).set 97 (.inl (0, .inl ([0, 0, 0, 0, 0, 0, 1, 0])))
def ph_157 (a2 a3 a4 : Int32) : List px_E := (ph_156 a2 a3 a4).set 95 (.inl (1, .inl (List.replicate 36 0 ++ [1] ++ List.replicate 11 0)))
def ph_158 (a2 a3 a4 : Int32) : List px_E := (ph_157 a2 a3 a4).set 164 (.inl (2, .inr (.inl ([0]))))
def ph_159 (a2 a3 a4 : Int32) : List px_E := (ph_158 a2 a3 a4) ++ ([.inl (0, .inl (List.replicate 6 0))] : List px_E)
def ph_160 (a2 a3 a4 : Int32) : List px_E := (ph_159 a2 a3 a4).set 165 (.inl (0, .inl (List.replicate 6 0)))
def ph_161 (a2 a3 a4 : Int32) : List px_E := (ph_160 a2 a3 a4).set 165 (.inl (0, .inl ([0, 6, 0, 0, 0, 0])))
def ph_162 (a2 a3 a4 : Int32) : List px_E := (ph_161 a2 a3 a4).set 165 (.inl (0, .inl ([0, 6, a2, 0, 0, 0])))
def ph_163 (a2 a3 a4 : Int32) : List px_E := (ph_162 a2 a3 a4).set 165 (.inl (0, .inl ([0, 6, a2, a3, 0, 0])))
def ph_164 (a2 a3 a4 : Int32) : List px_E := (ph_163 a2 a3 a4).set 165 (.inl (0, .inl ([0, 6, a2, a3, a4, 0])))
def ph_165 (a2 a3 a4 : Int32) : List px_E := (ph_164 a2 a3 a4).set 165 (.inl (0, .inl ([0, 6, a2, a3, a4, 1])))
def ph_166 (a2 a3 a4 : Int32) : List px_E := (ph_165 a2 a3 a4).set 142 (.inl (0, .inl ([0] ++ [6] ++ [a2] ++ [a3] ++ [a4] ++ [1] ++ List.replicate 90 0)))
def ph_167 (a2 a3 a4 : Int32) : List px_E := (ph_166 a2 a3 a4).set 141 (.inr (7, [.int 6, .int 1, .ref 142]))
def ph_168 (a2 a3 a4 : Int32) : List px_E := (ph_167 a2 a3 a4).set 138 (.inr (9, [.int 1, .int 0, .int 0, .ref 139, .ref 140, .ref 141, .ref 143, .ref 145, .ref 147, .ref 149, .ref 150, .int 0, .ref 136]))
def ph_169 (a2 a3 a4 : Int32) : List px_E := (ph_168 a2 a3 a4).set 144 (.inl (0, .inl (List.replicate 96 0)))
def ph_170 : List px_E := px_hs.set 94 (.inl (0, .inl (List.replicate 42 (-1) ++ [0] ++ List.replicate 5 (-1))))
def ph_171 : List px_E := ph_170.set 93 (.inr (2, [.int 1, .int 0, .ref 94, .ref 95, .ref 96, .ref 97, .ref 98]))
def ph_172 : List px_E := ph_171.set 93 (.inr (2, [.int 1, .int 1, .ref 94, .ref 95, .ref 96, .ref 97, .ref 98]))
def ph_173 : List px_E := ph_172.set 95 (.inl (1, .inl (List.replicate 48 0)))
def ph_174 (a2 : Int32) : List px_E := ph_173.set 96 (.inl (0, .inl (List.replicate 126 0 ++ [a2] ++ List.replicate 17 0)))
def ph_175 (a2 a3 : Int32) : List px_E := (ph_174 a2).set 96 (.inl (0, .inl (List.replicate 126 0 ++ [a2] ++ [a3] ++ List.replicate 16 0)))
def ph_176 (a2 a3 a4 : Int32) : List px_E := (ph_175 a2 a3).set 96 (.inl (0, .inl (List.replicate 126 0 ++ [a2] ++ [a3] ++ [a4] ++ List.replicate 15 0)))
def ph_177 (a2 a3 a4 : Int32) : List px_E := (ph_176 a2 a3 a4).set 98 (.inl (0, .inl (List.replicate 42 0 ++ [42] ++ List.replicate 5 0)))
def ph_178 (a2 a3 a4 : Int32) : List px_E := (ph_177 a2 a3 a4).set 97 (.inl (0, .inl ([0, 0, 0, 0, 0, 0, 0, 1])))
def ph_179 (a2 a3 a4 : Int32) : List px_E := (ph_178 a2 a3 a4).set 95 (.inl (1, .inl (List.replicate 42 0 ++ [1] ++ List.replicate 5 0)))
def ph_180 (a2 a3 a4 : Int32) : List px_E := (ph_179 a2 a3 a4).set 164 (.inl (2, .inr (.inl ([0]))))
def ph_181 (a2 a3 a4 : Int32) : List px_E := (ph_180 a2 a3 a4) ++ ([.inl (0, .inl (List.replicate 6 0))] : List px_E)
def ph_182 (a2 a3 a4 : Int32) : List px_E := (ph_181 a2 a3 a4).set 165 (.inl (0, .inl (List.replicate 6 0)))
def ph_183 (a2 a3 a4 : Int32) : List px_E := (ph_182 a2 a3 a4).set 165 (.inl (0, .inl ([0, 7, 0, 0, 0, 0])))
def ph_184 (a2 a3 a4 : Int32) : List px_E := (ph_183 a2 a3 a4).set 165 (.inl (0, .inl ([0, 7, a2, 0, 0, 0])))
def ph_185 (a2 a3 a4 : Int32) : List px_E := (ph_184 a2 a3 a4).set 165 (.inl (0, .inl ([0, 7, a2, a3, 0, 0])))
def ph_186 (a2 a3 a4 : Int32) : List px_E := (ph_185 a2 a3 a4).set 165 (.inl (0, .inl ([0, 7, a2, a3, a4, 0])))
def ph_187 (a2 a3 a4 : Int32) : List px_E := (ph_186 a2 a3 a4).set 165 (.inl (0, .inl ([0, 7, a2, a3, a4, 1])))
def ph_188 (a2 a3 a4 : Int32) : List px_E := (ph_187 a2 a3 a4).set 142 (.inl (0, .inl ([0] ++ [7] ++ [a2] ++ [a3] ++ [a4] ++ [1] ++ List.replicate 90 0)))
def ph_189 (a2 a3 a4 : Int32) : List px_E := (ph_188 a2 a3 a4).set 141 (.inr (7, [.int 6, .int 1, .ref 142]))
def ph_190 (a2 a3 a4 : Int32) : List px_E := (ph_189 a2 a3 a4).set 138 (.inr (9, [.int 1, .int 0, .int 0, .ref 139, .ref 140, .ref 141, .ref 143, .ref 145, .ref 147, .ref 149, .ref 150, .int 0, .ref 136]))
def ph_191 (a2 a3 a4 : Int32) : List px_E := (ph_190 a2 a3 a4).set 144 (.inl (0, .inl (List.replicate 96 0)))
def ph_192 : List px_E := px_hs.set 164 (.inl (2, .inr (.inl ([0]))))
def ph_193 : List px_E := px_hs.set 136 (.inr (10, [.ref 137, .int 0, .int 1, .ref 138, .ref 151, .long 0]))
def ph_194 : List px_E := ph_193.set 136 (.inr (10, [.ref 137, .int 0, .int 0, .ref 138, .ref 151, .long 0]))
def ph_195 : List px_E := px_hs.set 111 (.inl (0, .inl (List.replicate 48 (-1))))
def ph_196 : List px_E := ph_195.set 136 (.inr (10, [.ref 137, .int 0, .int 0, .ref 138, .ref 151, .long 1534238394738462484]))
def ph_197 : List px_E := ph_196 ++ ([.inl (0, .inl ([0, 0, 0, 0, (-1), (-1), (-1), (-1), 0])), .inl (0, .inl ([]))] : List px_E)
