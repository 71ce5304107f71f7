/-! LONG RUNS (wip/gen/p1gen.py) -/
set_option maxRecDepth 100000 in
theorem pq_0 {sx : Option (List Int32)} (a1 : Int32) (ha1 : (-9) ≤ a1.toInt ∧ a1.toInt ≤ 9) : px_C sx pm_X10_addRule [.ref 136, .int a1] (ph_5 a1) 2047 83979 10 72 (fun r h' => r = .inl (some (.int 0)) ∧ h' = ph_13 a1) := by
  refine px_C_of rfl ?_
  refine pr_s (pc1 := 1) (st1 := [.ref 136]) rfl (fun _ => rfl) ?_
  refine pr_s (pc1 := 2) (st1 := [.int 0, .ref 136]) rfl (fun _ => rfl) ?_
  refine pr_putf (pc1 := 5) (h1 := ph_5 a1) rfl rfl (pg_10 a1) rfl rfl rfl rfl rfl (px_set_same (pg_10 a1) rfl) rfl ?_
  refine pr_s (pc1 := 6) (st1 := [.int a1]) rfl (fun _ => rfl) ?_
  refine pr_s (pc1 := 8) (st1 := [.int (-9), .int a1]) rfl (fun _ => rfl) ?_
  refine pr_s (pc1 := 10) (st1 := [.int 9, .int (-9), .int a1]) rfl (fun _ => rfl) ?_
  refine pr_callv (N := pm_X10_is) (as := [.int a1, .int (-9), .int 9]) (rest := []) (f := 2046) (l := 83957) (c1 := 0) (k1 := 0) (c2 := 10) (k2 := 72) (v := some (.int 1)) (h1 := ph_5 a1) rfl (fun _ => rfl) ?_ (Nat.le_of_ble_eq_true rfl) (Nat.le_of_ble_eq_true rfl) ?_
  · refine px_C_of rfl ?_
    refine pr_s (pc1 := 1) (st1 := [.int a1]) rfl (fun _ => rfl) ?_
    refine pr_s (pc1 := 2) (st1 := [.int (-9), .int a1]) rfl (fun _ => rfl) ?_
    refine pr_bf (t := 14) (off := 12) (bb := decide (a1 < (-9))) (st1 := []) rfl rfl rfl rfl (pb_ltF ha1.1 (show ((-9) : Int32).toInt ≤ (-9) by decide) (by decide)) ?_
    refine pr_s (pc1 := 6) (st1 := [.int a1]) rfl (fun _ => rfl) ?_
    refine pr_s (pc1 := 7) (st1 := [.int 9, .int a1]) rfl (fun _ => rfl) ?_
    refine pr_bf (t := 14) (off := 7) (bb := decide ((9 : Int32) < a1)) (st1 := []) rfl rfl rfl rfl (pb_ltF (show 9 ≤ (9 : Int32).toInt by decide) ha1.2 (by decide)) ?_
    refine pr_s (pc1 := 11) (st1 := [.int 1]) rfl (fun _ => rfl) ?_
    refine pr_s (pc1 := 15) (st1 := [.int 1]) rfl (fun _ => rfl) ?_
    exact pr_e rfl (fun _ => rfl) ⟨rfl, rfl⟩
  show px_R _ _ _ _ (13, [(0, .ref 136), (1, .int a1)], [.int 1], _) _ _ _
  refine pr_bt (t := 22) (off := 9) (bb := !decide ((1 : Int32) = 0)) (st1 := []) rfl rfl rfl rfl (px_not_t (by decide)) ?_
  refine pr_s (pc1 := 23) (st1 := [.ref 136]) rfl (fun _ => rfl) ?_
  refine pr_getf (pc1 := 26) (v := .int 0) rfl rfl (pg_10 a1) rfl rfl ?_
  refine pr_s (pc1 := 28) (st1 := [.int 6, .int 0]) rfl (fun _ => rfl) ?_
  refine pr_bt (t := 37) (off := 9) (bb := !decide ((0 : Int32) = 6)) (st1 := []) rfl rfl rfl rfl (px_not_t (by decide)) ?_
  refine pr_s (pc1 := 38) (st1 := [.ref 136]) rfl (fun _ => rfl) ?_
  refine pr_getf (pc1 := 41) (v := .ref 137) rfl rfl (pg_10 a1) rfl rfl ?_
  refine pr_s (pc1 := 42) (st1 := [.ref 136, .ref 137]) rfl (fun _ => rfl) ?_
  refine pr_getf (pc1 := 45) (v := .int 0) rfl rfl (pg_10 a1) rfl rfl ?_
  refine pr_mh (z1 := 1) (z2 := 5) (c1 := 9) (k1 := 67) (pc1 := 48) (n := 165) (r := [.int 0, .ref 137]) (h1 := ph_6 a1) (es := fun n => [.inr (8, [.int 0, .int 0, .int 0, .null, .null])]) rfl (fun _ => rfl) (pl_4 a1) rfl (Nat.le_of_ble_eq_true rfl) (Nat.le_of_ble_eq_true rfl) ?_
  refine pr_s (pc1 := 49) (st1 := [.ref 165, .ref 165, .int 0, .ref 137]) rfl (fun _ => rfl) ?_
  refine pr_s (pc1 := 50) (st1 := [.int a1, .ref 165, .ref 165, .int 0, .ref 137]) rfl (fun _ => rfl) ?_
  refine pr_callv (N := pm_X8_init) (as := [.ref 165, .int a1]) (rest := [.ref 165, .int 0, .ref 137]) (f := 2046) (l := 83958) (c1 := 9) (k1 := 67) (c2 := 0) (k2 := 0) (v := none) (h1 := ph_11 a1) rfl (fun _ => rfl) ?_ (Nat.le_of_ble_eq_true rfl) (Nat.le_of_ble_eq_true rfl) ?_
  · refine px_C_of rfl ?_
    refine pr_s (pc1 := 1) (st1 := [.ref 165]) rfl (fun _ => rfl) ?_
    refine pr_s (pc1 := 4) (st1 := []) rfl (fun _ => rfl) ?_
    refine pr_s (pc1 := 5) (st1 := [.ref 165]) rfl (fun _ => rfl) ?_
    refine pr_s (pc1 := 6) (st1 := [.int 4, .ref 165]) rfl (fun _ => rfl) ?_
    refine pr_s (pc1 := 8) (st1 := [.int 9, .int 4, .ref 165]) rfl (fun _ => rfl) ?_
    refine pr_mh (z1 := 5) (z2 := 40) (c1 := 4) (k1 := 27) (pc1 := 12) (n := 166) (r := [.ref 165]) (h1 := ph_7 a1) (es := fun n => .inl (5, .inr (.inr [some (n + 1 + 0), some (n + 1 + 1), some (n + 1 + 2), some (n + 1 + 3)])) :: List.replicate 4 (.inl (0, .inl (List.replicate 9 0)))) rfl (fun _ => rfl) (pl_5 a1) rfl (Nat.le_of_ble_eq_true rfl) (Nat.le_of_ble_eq_true rfl) ?_
    refine pr_putf (pc1 := 15) (h1 := ph_8 a1) rfl rfl (pg_11 a1) rfl rfl rfl rfl rfl rfl rfl ?_
    refine pr_s (pc1 := 16) (st1 := [.ref 165]) rfl (fun _ => rfl) ?_
    refine pr_s (pc1 := 17) (st1 := [.int 3, .ref 165]) rfl (fun _ => rfl) ?_
    refine pr_s (pc1 := 19) (st1 := [.int 8, .int 3, .ref 165]) rfl (fun _ => rfl) ?_
    refine pr_mh (z1 := 4) (z2 := 27) (c1 := 0) (k1 := 0) (pc1 := 23) (n := 171) (r := [.ref 165]) (h1 := ph_9 a1) (es := fun n => .inl (5, .inr (.inr [some (n + 1 + 0), some (n + 1 + 1), some (n + 1 + 2)])) :: List.replicate 3 (.inl (0, .inl (List.replicate 8 0)))) rfl (fun _ => rfl) (pl_7 a1) rfl (Nat.le_of_ble_eq_true rfl) (Nat.le_of_ble_eq_true rfl) ?_
    refine pr_putf (pc1 := 26) (h1 := ph_10 a1) rfl rfl (pg_12 a1) rfl rfl rfl rfl rfl rfl rfl ?_
    refine pr_s (pc1 := 27) (st1 := [.ref 165]) rfl (fun _ => rfl) ?_
    refine pr_s (pc1 := 28) (st1 := [.int a1, .ref 165]) rfl (fun _ => rfl) ?_
    refine pr_putf (pc1 := 31) (h1 := ph_11 a1) rfl rfl (pg_13 a1) rfl rfl rfl rfl rfl rfl rfl ?_
    exact pr_e rfl (fun _ => rfl) ⟨rfl, rfl⟩
  show px_R _ _ _ _ (53, [(0, .ref 136), (1, .int a1)], [.ref 165, .int 0, .ref 137], _) _ _ _
  refine pr_aast (pc1 := 54) (h1 := ph_12 a1) rfl (pg_15 a1) rfl (pg_16 a1) rfl rfl rfl ?_
  refine pr_s (pc1 := 55) (st1 := [.ref 136]) rfl (fun _ => rfl) ?_
  refine pr_s (pc1 := 56) (st1 := [.ref 136, .ref 136]) rfl (fun _ => rfl) ?_
  refine pr_getf (pc1 := 59) (v := .int 0) rfl rfl (pg_17 a1) rfl rfl ?_
  refine pr_s (pc1 := 60) (st1 := [.int 1, .int 0, .ref 136]) rfl (fun _ => rfl) ?_
  refine pr_s (pc1 := 61) (st1 := [.int 1, .ref 136]) rfl (fun _ => rfl) ?_
  refine pr_putf (pc1 := 64) (h1 := ph_13 a1) rfl rfl (pg_17 a1) rfl rfl rfl rfl rfl rfl rfl ?_
  refine pr_s (pc1 := 65) (st1 := [.ref 136]) rfl (fun _ => rfl) ?_
  refine pr_getf (pc1 := 68) (v := .int 1) rfl rfl (pg_18 a1) rfl rfl ?_
  refine pr_s (pc1 := 69) (st1 := [.int 1, .int 1]) rfl (fun _ => rfl) ?_
  refine pr_s (pc1 := 70) (st1 := [.int 0]) rfl (fun _ => rfl) ?_
  exact pr_e rfl (fun _ => rfl) ⟨rfl, rfl⟩
set_option maxRecDepth 100000 in
theorem pq_1 {sx : Option (List Int32)} (a1 a2 a3 a4 : Int32) (ha1 : 0 ≤ a1.toInt ∧ a1.toInt ≤ 7) (ha2 : (-999) ≤ a2.toInt ∧ a2.toInt ≤ 999) (ha3 : (-2147483648) ≤ a3.toInt ∧ a3.toInt ≤ (-1000)) : px_C sx pm_X10_state [.ref 136, .int a1, .int a2, .int a3, .int a4] (ph_1) 2047 83974 0 0 (fun r h' => r = .inl (some (.int 0)) ∧ h' = ph_2) := by
  refine px_C_of rfl ?_
  refine pr_s (pc1 := 1) (st1 := [.ref 136]) rfl (fun _ => rfl) ?_
  refine pr_s (pc1 := 2) (st1 := [.int 0, .ref 136]) rfl (fun _ => rfl) ?_
  refine pr_putf (pc1 := 5) (h1 := ph_1) rfl rfl pg_2 rfl rfl rfl rfl rfl (px_set_same pg_2 rfl) rfl ?_
  refine pr_s (pc1 := 6) (st1 := [.int a1]) rfl (fun _ => rfl) ?_
  refine pr_s (pc1 := 7) (st1 := [.int 0, .int a1]) rfl (fun _ => rfl) ?_
  refine pr_s (pc1 := 9) (st1 := [.int 7, .int 0, .int a1]) rfl (fun _ => rfl) ?_
  refine pr_callv (N := pm_X10_is) (as := [.int a1, .int 0, .int 7]) (rest := []) (f := 2046) (l := 83952) (c1 := 0) (k1 := 0) (c2 := 0) (k2 := 0) (v := some (.int 1)) (h1 := ph_1) rfl (fun _ => rfl) ?_ (Nat.le_of_ble_eq_true rfl) (Nat.le_of_ble_eq_true rfl) ?_
  · refine px_C_of rfl ?_
    refine pr_s (pc1 := 1) (st1 := [.int a1]) rfl (fun _ => rfl) ?_
    refine pr_s (pc1 := 2) (st1 := [.int 0, .int a1]) rfl (fun _ => rfl) ?_
    refine pr_bf (t := 14) (off := 12) (bb := decide (a1 < 0)) (st1 := []) rfl rfl rfl rfl (pb_ltF ha1.1 (show (0 : Int32).toInt ≤ 0 by decide) (by decide)) ?_
    refine pr_s (pc1 := 6) (st1 := [.int a1]) rfl (fun _ => rfl) ?_
    refine pr_s (pc1 := 7) (st1 := [.int 7, .int a1]) rfl (fun _ => rfl) ?_
    refine pr_bf (t := 14) (off := 7) (bb := decide ((7 : Int32) < a1)) (st1 := []) rfl rfl rfl rfl (pb_ltF (show 7 ≤ (7 : Int32).toInt by decide) ha1.2 (by decide)) ?_
    refine pr_s (pc1 := 11) (st1 := [.int 1]) rfl (fun _ => rfl) ?_
    refine pr_s (pc1 := 15) (st1 := [.int 1]) rfl (fun _ => rfl) ?_
    exact pr_e rfl (fun _ => rfl) ⟨rfl, rfl⟩
  show px_R _ _ _ _ (12, [(0, .ref 136), (1, .int a1), (2, .int a2), (3, .int a3), (4, .int a4)], [.int 1], _) _ _ _
  refine pr_bf (t := 37) (off := 25) (bb := decide ((1 : Int32) = 0)) (st1 := []) rfl rfl rfl rfl (by decide) ?_
  refine pr_s (pc1 := 16) (st1 := [.int a2]) rfl (fun _ => rfl) ?_
  refine pr_callv (N := pm_X10_isValue) (as := [.int a2]) (rest := []) (f := 2046) (l := 83954) (c1 := 0) (k1 := 0) (c2 := 0) (k2 := 0) (v := some (.int 1)) (h1 := ph_1) rfl (fun _ => rfl) ?_ (Nat.le_of_ble_eq_true rfl) (Nat.le_of_ble_eq_true rfl) ?_
  · refine px_C_of rfl ?_
    refine pr_s (pc1 := 1) (st1 := [.int a2]) rfl (fun _ => rfl) ?_
    refine pr_s (pc1 := 4) (st1 := [.int (-999), .int a2]) rfl (fun _ => rfl) ?_
    refine pr_s (pc1 := 7) (st1 := [.int 999, .int (-999), .int a2]) rfl (fun _ => rfl) ?_
    refine pr_callv (N := pm_X10_is) (as := [.int a2, .int (-999), .int 999]) (rest := []) (f := 2045) (l := 83932) (c1 := 0) (k1 := 0) (c2 := 0) (k2 := 0) (v := some (.int 1)) (h1 := ph_1) rfl (fun _ => rfl) ?_ (Nat.le_of_ble_eq_true rfl) (Nat.le_of_ble_eq_true rfl) ?_
    · refine px_C_of rfl ?_
      refine pr_s (pc1 := 1) (st1 := [.int a2]) rfl (fun _ => rfl) ?_
      refine pr_s (pc1 := 2) (st1 := [.int (-999), .int a2]) rfl (fun _ => rfl) ?_
      refine pr_bf (t := 14) (off := 12) (bb := decide (a2 < (-999))) (st1 := []) rfl rfl rfl rfl (pb_ltF ha2.1 (show ((-999) : Int32).toInt ≤ (-999) by decide) (by decide)) ?_
      refine pr_s (pc1 := 6) (st1 := [.int a2]) rfl (fun _ => rfl) ?_
      refine pr_s (pc1 := 7) (st1 := [.int 999, .int a2]) rfl (fun _ => rfl) ?_
      refine pr_bf (t := 14) (off := 7) (bb := decide ((999 : Int32) < a2)) (st1 := []) rfl rfl rfl rfl (pb_ltF (show 999 ≤ (999 : Int32).toInt by decide) ha2.2 (by decide)) ?_
      refine pr_s (pc1 := 11) (st1 := [.int 1]) rfl (fun _ => rfl) ?_
      refine pr_s (pc1 := 15) (st1 := [.int 1]) rfl (fun _ => rfl) ?_
      exact pr_e rfl (fun _ => rfl) ⟨rfl, rfl⟩
    show px_R _ _ _ _ (10, [(0, .int a2)], [.int 1], _) _ _ _
    exact pr_e rfl (fun _ => rfl) ⟨rfl, rfl⟩
  show px_R _ _ _ _ (19, [(0, .ref 136), (1, .int a1), (2, .int a2), (3, .int a3), (4, .int a4)], [.int 1], _) _ _ _
  refine pr_bf (t := 37) (off := 18) (bb := decide ((1 : Int32) = 0)) (st1 := []) rfl rfl rfl rfl (by decide) ?_
  refine pr_s (pc1 := 23) (st1 := [.int a3]) rfl (fun _ => rfl) ?_
  refine pr_callv (N := pm_X10_isValue) (as := [.int a3]) (rest := []) (f := 2046) (l := 83954) (c1 := 0) (k1 := 0) (c2 := 0) (k2 := 0) (v := some (.int 0)) (h1 := ph_1) rfl (fun _ => rfl) ?_ (Nat.le_of_ble_eq_true rfl) (Nat.le_of_ble_eq_true rfl) ?_
  · refine px_C_of rfl ?_
    refine pr_s (pc1 := 1) (st1 := [.int a3]) rfl (fun _ => rfl) ?_
    refine pr_s (pc1 := 4) (st1 := [.int (-999), .int a3]) rfl (fun _ => rfl) ?_
    refine pr_s (pc1 := 7) (st1 := [.int 999, .int (-999), .int a3]) rfl (fun _ => rfl) ?_
    refine pr_callv (N := pm_X10_is) (as := [.int a3, .int (-999), .int 999]) (rest := []) (f := 2045) (l := 83932) (c1 := 0) (k1 := 0) (c2 := 0) (k2 := 0) (v := some (.int 0)) (h1 := ph_1) rfl (fun _ => rfl) ?_ (Nat.le_of_ble_eq_true rfl) (Nat.le_of_ble_eq_true rfl) ?_
    · refine px_C_of rfl ?_
      refine pr_s (pc1 := 1) (st1 := [.int a3]) rfl (fun _ => rfl) ?_
      refine pr_s (pc1 := 2) (st1 := [.int (-999), .int a3]) rfl (fun _ => rfl) ?_
      refine pr_bt (t := 14) (off := 12) (bb := decide (a3 < (-999))) (st1 := []) rfl rfl rfl rfl (pb_ltT ha3.2 (show (-999) ≤ ((-999) : Int32).toInt by decide) (by decide)) ?_
      refine pr_s (pc1 := 15) (st1 := [.int 0]) rfl (fun _ => rfl) ?_
      exact pr_e rfl (fun _ => rfl) ⟨rfl, rfl⟩
    show px_R _ _ _ _ (10, [(0, .int a3)], [.int 0], _) _ _ _
    exact pr_e rfl (fun _ => rfl) ⟨rfl, rfl⟩
  show px_R _ _ _ _ (26, [(0, .ref 136), (1, .int a1), (2, .int a2), (3, .int a3), (4, .int a4)], [.int 0], _) _ _ _
  refine pr_bt (t := 37) (off := 11) (bb := decide ((0 : Int32) = 0)) (st1 := []) rfl rfl rfl rfl (by decide) ?_
  refine pr_s (pc1 := 38) (st1 := [.ref 136]) rfl (fun _ => rfl) ?_
  refine pr_s (pc1 := 39) (st1 := [.int 1, .ref 136]) rfl (fun _ => rfl) ?_
  refine pr_callv (N := pm_X10_refuse) (as := [.ref 136, .int 1]) (rest := []) (f := 2046) (l := 83953) (c1 := 0) (k1 := 0) (c2 := 0) (k2 := 0) (v := some (.int 0)) (h1 := ph_2) rfl (fun ex => px_inv_hs ex rfl rfl rfl pg_2 rfl rfl rfl rfl) ?_ (Nat.le_of_ble_eq_true rfl) (Nat.le_of_ble_eq_true rfl) ?_
  · refine px_C_of rfl ?_
    refine pr_s (pc1 := 1) (st1 := [.ref 136]) rfl (fun _ => rfl) ?_
    refine pr_s (pc1 := 2) (st1 := [.int 1, .ref 136]) rfl (fun _ => rfl) ?_
    refine pr_putf (pc1 := 5) (h1 := ph_2) rfl rfl pg_2 rfl rfl rfl rfl rfl rfl rfl ?_
    refine pr_s (pc1 := 6) (st1 := [.int 0]) rfl (fun _ => rfl) ?_
    exact pr_e rfl (fun _ => rfl) ⟨rfl, rfl⟩
  show px_R _ _ _ _ (42, [(0, .ref 136), (1, .int a1), (2, .int a2), (3, .int a3), (4, .int a4)], [.int 0], _) _ _ _
  exact pr_e rfl (fun _ => rfl) ⟨rfl, rfl⟩
set_option maxRecDepth 100000 in
theorem pq_2 {sx : Option (List Int32)} (a1 a2 a3 a4 : Int32) (ha1 : 0 ≤ a1.toInt ∧ a1.toInt ≤ 7) (ha2 : (-999) ≤ a2.toInt ∧ a2.toInt ≤ 999) (ha3 : (-999) ≤ a3.toInt ∧ a3.toInt ≤ 999) (ha4 : (-2147483648) ≤ a4.toInt ∧ a4.toInt ≤ (-1000)) : px_C sx pm_L_state [.ref 0, .int a1, .int a2, .int a3, .int a4, .ref 164] (px_hs) 2047 83974 1 6 (fun r h' => r = .inl (some (.int 1)) ∧ h' = ph_1) := by
  refine px_C_of rfl ?_
  refine pr_s (pc1 := 2) (st1 := [.ref 164]) rfl (fun _ => rfl) ?_
  refine pr_s (pc1 := 3) (st1 := [.int 0, .ref 164]) rfl (fun _ => rfl) ?_
  refine pr_s (pc1 := 4) (st1 := [.ref 0, .int 0, .ref 164]) rfl (fun _ => rfl) ?_
  refine pr_s (pc1 := 5) (st1 := [.int a1, .ref 0, .int 0, .ref 164]) rfl (fun _ => rfl) ?_
  refine pr_s (pc1 := 6) (st1 := [.int a2, .int a1, .ref 0, .int 0, .ref 164]) rfl (fun _ => rfl) ?_
  refine pr_s (pc1 := 7) (st1 := [.int a3, .int a2, .int a1, .ref 0, .int 0, .ref 164]) rfl (fun _ => rfl) ?_
  refine pr_s (pc1 := 9) (st1 := [.int a4, .int a3, .int a2, .int a1, .ref 0, .int 0, .ref 164]) rfl (fun _ => rfl) ?_
  refine pr_callx (N := pm_X6_state) (as := [.ref 0, .int a1, .int a2, .int a3, .int a4]) (rest := [.int 0, .ref 164]) (f := 2046) (l := 83949) (c1 := 1) (k1 := 6) (c2 := 0) (k2 := 0) (E := 12) (h1 := ph_1) (a := 17) (y1 := 6) (y2 := 2) rfl (fun ex => px_inv_hs ex rfl rfl rfl pg_0 rfl rfl rfl rfl) ?_ (Nat.le_of_ble_eq_true rfl) (Nat.le_of_ble_eq_true rfl) rfl rfl rfl rfl ?_
  · refine px_C_of rfl ?_
    refine pr_s (pc1 := 1) (st1 := [.int a1]) rfl (fun _ => rfl) ?_
    refine pr_callv (N := pm_X6_isKind) (as := [.int a1]) (rest := []) (f := 2045) (l := 83929) (c1 := 0) (k1 := 0) (c2 := 1) (k2 := 6) (v := some (.int 1)) (h1 := px_hs) rfl (fun _ => rfl) ?_ (Nat.le_of_ble_eq_true rfl) (Nat.le_of_ble_eq_true rfl) ?_
    · refine px_C_of rfl ?_
      refine pr_s (pc1 := 1) (st1 := [.int a1]) rfl (fun _ => rfl) ?_
      refine pr_bf (t := 14) (off := 13) (bb := decide (a1 < 0)) (st1 := []) rfl rfl rfl rfl (pb_ltF ha1.1 (show (0 : Int32).toInt ≤ 0 by decide) (by decide)) ?_
      refine pr_s (pc1 := 5) (st1 := [.int a1]) rfl (fun _ => rfl) ?_
      refine pr_s (pc1 := 7) (st1 := [.int 8, .int a1]) rfl (fun _ => rfl) ?_
      refine pr_bf (t := 14) (off := 7) (bb := decide ((8 : Int32) ≤ a1)) (st1 := []) rfl rfl rfl rfl (pb_leF (show 8 ≤ (8 : Int32).toInt by decide) ha1.2 (by decide)) ?_
      refine pr_s (pc1 := 11) (st1 := [.int 1]) rfl (fun _ => rfl) ?_
      refine pr_s (pc1 := 15) (st1 := [.int 1]) rfl (fun _ => rfl) ?_
      exact pr_e rfl (fun _ => rfl) ⟨rfl, rfl⟩
    show px_R _ _ _ _ (4, [(0, .ref 0), (1, .int a1), (2, .int a2), (3, .int a3), (4, .int a4)], [.int 1], _) _ _ _
    refine pr_bf (t := 29) (off := 25) (bb := decide ((1 : Int32) = 0)) (st1 := []) rfl rfl rfl rfl (by decide) ?_
    refine pr_s (pc1 := 8) (st1 := [.int a2]) rfl (fun _ => rfl) ?_
    refine pr_callv (N := pm_X6_isValue) (as := [.int a2]) (rest := []) (f := 2045) (l := 83929) (c1 := 0) (k1 := 0) (c2 := 1) (k2 := 6) (v := some (.int 1)) (h1 := px_hs) rfl (fun _ => rfl) ?_ (Nat.le_of_ble_eq_true rfl) (Nat.le_of_ble_eq_true rfl) ?_
    · refine px_C_of rfl ?_
      refine pr_s (pc1 := 1) (st1 := [.int a2]) rfl (fun _ => rfl) ?_
      refine pr_s (pc1 := 4) (st1 := [.int (-999), .int a2]) rfl (fun _ => rfl) ?_
      refine pr_bf (t := 18) (off := 14) (bb := decide (a2 < (-999))) (st1 := []) rfl rfl rfl rfl (pb_ltF ha2.1 (show ((-999) : Int32).toInt ≤ (-999) by decide) (by decide)) ?_
      refine pr_s (pc1 := 8) (st1 := [.int a2]) rfl (fun _ => rfl) ?_
      refine pr_s (pc1 := 11) (st1 := [.int 999, .int a2]) rfl (fun _ => rfl) ?_
      refine pr_bf (t := 18) (off := 7) (bb := decide ((999 : Int32) < a2)) (st1 := []) rfl rfl rfl rfl (pb_ltF (show 999 ≤ (999 : Int32).toInt by decide) ha2.2 (by decide)) ?_
      refine pr_s (pc1 := 15) (st1 := [.int 1]) rfl (fun _ => rfl) ?_
      refine pr_s (pc1 := 19) (st1 := [.int 1]) rfl (fun _ => rfl) ?_
      exact pr_e rfl (fun _ => rfl) ⟨rfl, rfl⟩
    show px_R _ _ _ _ (11, [(0, .ref 0), (1, .int a1), (2, .int a2), (3, .int a3), (4, .int a4)], [.int 1], _) _ _ _
    refine pr_bf (t := 29) (off := 18) (bb := decide ((1 : Int32) = 0)) (st1 := []) rfl rfl rfl rfl (by decide) ?_
    refine pr_s (pc1 := 15) (st1 := [.int a3]) rfl (fun _ => rfl) ?_
    refine pr_callv (N := pm_X6_isValue) (as := [.int a3]) (rest := []) (f := 2045) (l := 83929) (c1 := 0) (k1 := 0) (c2 := 1) (k2 := 6) (v := some (.int 1)) (h1 := px_hs) rfl (fun _ => rfl) ?_ (Nat.le_of_ble_eq_true rfl) (Nat.le_of_ble_eq_true rfl) ?_
    · refine px_C_of rfl ?_
      refine pr_s (pc1 := 1) (st1 := [.int a3]) rfl (fun _ => rfl) ?_
      refine pr_s (pc1 := 4) (st1 := [.int (-999), .int a3]) rfl (fun _ => rfl) ?_
      refine pr_bf (t := 18) (off := 14) (bb := decide (a3 < (-999))) (st1 := []) rfl rfl rfl rfl (pb_ltF ha3.1 (show ((-999) : Int32).toInt ≤ (-999) by decide) (by decide)) ?_
      refine pr_s (pc1 := 8) (st1 := [.int a3]) rfl (fun _ => rfl) ?_
      refine pr_s (pc1 := 11) (st1 := [.int 999, .int a3]) rfl (fun _ => rfl) ?_
      refine pr_bf (t := 18) (off := 7) (bb := decide ((999 : Int32) < a3)) (st1 := []) rfl rfl rfl rfl (pb_ltF (show 999 ≤ (999 : Int32).toInt by decide) ha3.2 (by decide)) ?_
      refine pr_s (pc1 := 15) (st1 := [.int 1]) rfl (fun _ => rfl) ?_
      refine pr_s (pc1 := 19) (st1 := [.int 1]) rfl (fun _ => rfl) ?_
      exact pr_e rfl (fun _ => rfl) ⟨rfl, rfl⟩
    show px_R _ _ _ _ (18, [(0, .ref 0), (1, .int a1), (2, .int a2), (3, .int a3), (4, .int a4)], [.int 1], _) _ _ _
    refine pr_bf (t := 29) (off := 11) (bb := decide ((1 : Int32) = 0)) (st1 := []) rfl rfl rfl rfl (by decide) ?_
    refine pr_s (pc1 := 23) (st1 := [.int a4]) rfl (fun _ => rfl) ?_
    refine pr_callv (N := pm_X6_isValue) (as := [.int a4]) (rest := []) (f := 2045) (l := 83929) (c1 := 0) (k1 := 0) (c2 := 1) (k2 := 6) (v := some (.int 0)) (h1 := px_hs) rfl (fun _ => rfl) ?_ (Nat.le_of_ble_eq_true rfl) (Nat.le_of_ble_eq_true rfl) ?_
    · refine px_C_of rfl ?_
      refine pr_s (pc1 := 1) (st1 := [.int a4]) rfl (fun _ => rfl) ?_
      refine pr_s (pc1 := 4) (st1 := [.int (-999), .int a4]) rfl (fun _ => rfl) ?_
      refine pr_bt (t := 18) (off := 14) (bb := decide (a4 < (-999))) (st1 := []) rfl rfl rfl rfl (pb_ltT ha4.2 (show (-999) ≤ ((-999) : Int32).toInt by decide) (by decide)) ?_
      refine pr_s (pc1 := 19) (st1 := [.int 0]) rfl (fun _ => rfl) ?_
      exact pr_e rfl (fun _ => rfl) ⟨rfl, rfl⟩
    show px_R _ _ _ _ (26, [(0, .ref 0), (1, .int a1), (2, .int a2), (3, .int a3), (4, .int a4)], [.int 0], _) _ _ _
    refine pr_bf (t := 39) (off := 13) (bb := !decide ((0 : Int32) = 0)) (st1 := []) rfl rfl rfl rfl (px_not_f (by decide)) ?_
    refine pr_mh (z1 := 1) (z2 := 6) (c1 := 0) (k1 := 0) (pc1 := 38) (n := 165) (r := []) (h1 := ph_1) (es := fun n => [.inr (12, [])]) rfl (fun _ => rfl) pl_0 rfl (Nat.le_of_ble_eq_true rfl) (Nat.le_of_ble_eq_true rfl) ?_
    exact pr_e rfl (fun _ => rfl) ⟨rfl, rfl⟩
  show px_R _ _ _ _ (19, [(0, .ref 0), (1, .int a1), (2, .int a2), (3, .int a3), (4, .int a4), (5, .ref 164)], [], _) _ _ _
  refine pr_s (pc1 := 20) (st1 := [.int 1]) rfl (fun _ => rfl) ?_
  exact pr_e rfl (fun _ => rfl) ⟨rfl, rfl⟩
set_option maxRecDepth 100000 in
theorem pq_3 {sx : Option (List Int32)} (a1 a2 a3 a4 : Int32) (ha1 : 0 ≤ a1.toInt ∧ a1.toInt ≤ 7) (ha2 : (-999) ≤ a2.toInt ∧ a2.toInt ≤ 999) (ha3 : (-999) ≤ a3.toInt ∧ a3.toInt ≤ 999) (ha4 : (-2147483648) ≤ a4.toInt ∧ a4.toInt ≤ (-1000)) : px_C sx pm_X10_state [.ref 136, .int a1, .int a2, .int a3, .int a4] (ph_1) 2047 83974 0 0 (fun r h' => r = .inl (some (.int 0)) ∧ h' = ph_2) := by
  refine px_C_of rfl ?_
  refine pr_s (pc1 := 1) (st1 := [.ref 136]) rfl (fun _ => rfl) ?_
  refine pr_s (pc1 := 2) (st1 := [.int 0, .ref 136]) rfl (fun _ => rfl) ?_
  refine pr_putf (pc1 := 5) (h1 := ph_1) rfl rfl pg_2 rfl rfl rfl rfl rfl (px_set_same pg_2 rfl) rfl ?_
  refine pr_s (pc1 := 6) (st1 := [.int a1]) rfl (fun _ => rfl) ?_
  refine pr_s (pc1 := 7) (st1 := [.int 0, .int a1]) rfl (fun _ => rfl) ?_
  refine pr_s (pc1 := 9) (st1 := [.int 7, .int 0, .int a1]) rfl (fun _ => rfl) ?_
  refine pr_callv (N := pm_X10_is) (as := [.int a1, .int 0, .int 7]) (rest := []) (f := 2046) (l := 83952) (c1 := 0) (k1 := 0) (c2 := 0) (k2 := 0) (v := some (.int 1)) (h1 := ph_1) rfl (fun _ => rfl) ?_ (Nat.le_of_ble_eq_true rfl) (Nat.le_of_ble_eq_true rfl) ?_
  · refine px_C_of rfl ?_
    refine pr_s (pc1 := 1) (st1 := [.int a1]) rfl (fun _ => rfl) ?_
    refine pr_s (pc1 := 2) (st1 := [.int 0, .int a1]) rfl (fun _ => rfl) ?_
    refine pr_bf (t := 14) (off := 12) (bb := decide (a1 < 0)) (st1 := []) rfl rfl rfl rfl (pb_ltF ha1.1 (show (0 : Int32).toInt ≤ 0 by decide) (by decide)) ?_
    refine pr_s (pc1 := 6) (st1 := [.int a1]) rfl (fun _ => rfl) ?_
    refine pr_s (pc1 := 7) (st1 := [.int 7, .int a1]) rfl (fun _ => rfl) ?_
    refine pr_bf (t := 14) (off := 7) (bb := decide ((7 : Int32) < a1)) (st1 := []) rfl rfl rfl rfl (pb_ltF (show 7 ≤ (7 : Int32).toInt by decide) ha1.2 (by decide)) ?_
    refine pr_s (pc1 := 11) (st1 := [.int 1]) rfl (fun _ => rfl) ?_
    refine pr_s (pc1 := 15) (st1 := [.int 1]) rfl (fun _ => rfl) ?_
    exact pr_e rfl (fun _ => rfl) ⟨rfl, rfl⟩
  show px_R _ _ _ _ (12, [(0, .ref 136), (1, .int a1), (2, .int a2), (3, .int a3), (4, .int a4)], [.int 1], _) _ _ _
  refine pr_bf (t := 37) (off := 25) (bb := decide ((1 : Int32) = 0)) (st1 := []) rfl rfl rfl rfl (by decide) ?_
  refine pr_s (pc1 := 16) (st1 := [.int a2]) rfl (fun _ => rfl) ?_
  refine pr_callv (N := pm_X10_isValue) (as := [.int a2]) (rest := []) (f := 2046) (l := 83954) (c1 := 0) (k1 := 0) (c2 := 0) (k2 := 0) (v := some (.int 1)) (h1 := ph_1) rfl (fun _ => rfl) ?_ (Nat.le_of_ble_eq_true rfl) (Nat.le_of_ble_eq_true rfl) ?_
  · refine px_C_of rfl ?_
    refine pr_s (pc1 := 1) (st1 := [.int a2]) rfl (fun _ => rfl) ?_
    refine pr_s (pc1 := 4) (st1 := [.int (-999), .int a2]) rfl (fun _ => rfl) ?_
    refine pr_s (pc1 := 7) (st1 := [.int 999, .int (-999), .int a2]) rfl (fun _ => rfl) ?_
    refine pr_callv (N := pm_X10_is) (as := [.int a2, .int (-999), .int 999]) (rest := []) (f := 2045) (l := 83932) (c1 := 0) (k1 := 0) (c2 := 0) (k2 := 0) (v := some (.int 1)) (h1 := ph_1) rfl (fun _ => rfl) ?_ (Nat.le_of_ble_eq_true rfl) (Nat.le_of_ble_eq_true rfl) ?_
    · refine px_C_of rfl ?_
      refine pr_s (pc1 := 1) (st1 := [.int a2]) rfl (fun _ => rfl) ?_
      refine pr_s (pc1 := 2) (st1 := [.int (-999), .int a2]) rfl (fun _ => rfl) ?_
      refine pr_bf (t := 14) (off := 12) (bb := decide (a2 < (-999))) (st1 := []) rfl rfl rfl rfl (pb_ltF ha2.1 (show ((-999) : Int32).toInt ≤ (-999) by decide) (by decide)) ?_
      refine pr_s (pc1 := 6) (st1 := [.int a2]) rfl (fun _ => rfl) ?_
      refine pr_s (pc1 := 7) (st1 := [.int 999, .int a2]) rfl (fun _ => rfl) ?_
      refine pr_bf (t := 14) (off := 7) (bb := decide ((999 : Int32) < a2)) (st1 := []) rfl rfl rfl rfl (pb_ltF (show 999 ≤ (999 : Int32).toInt by decide) ha2.2 (by decide)) ?_
      refine pr_s (pc1 := 11) (st1 := [.int 1]) rfl (fun _ => rfl) ?_
      refine pr_s (pc1 := 15) (st1 := [.int 1]) rfl (fun _ => rfl) ?_
      exact pr_e rfl (fun _ => rfl) ⟨rfl, rfl⟩
    show px_R _ _ _ _ (10, [(0, .int a2)], [.int 1], _) _ _ _
    exact pr_e rfl (fun _ => rfl) ⟨rfl, rfl⟩
  show px_R _ _ _ _ (19, [(0, .ref 136), (1, .int a1), (2, .int a2), (3, .int a3), (4, .int a4)], [.int 1], _) _ _ _
  refine pr_bf (t := 37) (off := 18) (bb := decide ((1 : Int32) = 0)) (st1 := []) rfl rfl rfl rfl (by decide) ?_
  refine pr_s (pc1 := 23) (st1 := [.int a3]) rfl (fun _ => rfl) ?_
  refine pr_callv (N := pm_X10_isValue) (as := [.int a3]) (rest := []) (f := 2046) (l := 83954) (c1 := 0) (k1 := 0) (c2 := 0) (k2 := 0) (v := some (.int 1)) (h1 := ph_1) rfl (fun _ => rfl) ?_ (Nat.le_of_ble_eq_true rfl) (Nat.le_of_ble_eq_true rfl) ?_
  · refine px_C_of rfl ?_
    refine pr_s (pc1 := 1) (st1 := [.int a3]) rfl (fun _ => rfl) ?_
    refine pr_s (pc1 := 4) (st1 := [.int (-999), .int a3]) rfl (fun _ => rfl) ?_
    refine pr_s (pc1 := 7) (st1 := [.int 999, .int (-999), .int a3]) rfl (fun _ => rfl) ?_
    refine pr_callv (N := pm_X10_is) (as := [.int a3, .int (-999), .int 999]) (rest := []) (f := 2045) (l := 83932) (c1 := 0) (k1 := 0) (c2 := 0) (k2 := 0) (v := some (.int 1)) (h1 := ph_1) rfl (fun _ => rfl) ?_ (Nat.le_of_ble_eq_true rfl) (Nat.le_of_ble_eq_true rfl) ?_
    · refine px_C_of rfl ?_
      refine pr_s (pc1 := 1) (st1 := [.int a3]) rfl (fun _ => rfl) ?_
      refine pr_s (pc1 := 2) (st1 := [.int (-999), .int a3]) rfl (fun _ => rfl) ?_
      refine pr_bf (t := 14) (off := 12) (bb := decide (a3 < (-999))) (st1 := []) rfl rfl rfl rfl (pb_ltF ha3.1 (show ((-999) : Int32).toInt ≤ (-999) by decide) (by decide)) ?_
      refine pr_s (pc1 := 6) (st1 := [.int a3]) rfl (fun _ => rfl) ?_
      refine pr_s (pc1 := 7) (st1 := [.int 999, .int a3]) rfl (fun _ => rfl) ?_
      refine pr_bf (t := 14) (off := 7) (bb := decide ((999 : Int32) < a3)) (st1 := []) rfl rfl rfl rfl (pb_ltF (show 999 ≤ (999 : Int32).toInt by decide) ha3.2 (by decide)) ?_
      refine pr_s (pc1 := 11) (st1 := [.int 1]) rfl (fun _ => rfl) ?_
      refine pr_s (pc1 := 15) (st1 := [.int 1]) rfl (fun _ => rfl) ?_
      exact pr_e rfl (fun _ => rfl) ⟨rfl, rfl⟩
    show px_R _ _ _ _ (10, [(0, .int a3)], [.int 1], _) _ _ _
    exact pr_e rfl (fun _ => rfl) ⟨rfl, rfl⟩
  show px_R _ _ _ _ (26, [(0, .ref 136), (1, .int a1), (2, .int a2), (3, .int a3), (4, .int a4)], [.int 1], _) _ _ _
  refine pr_bf (t := 37) (off := 11) (bb := decide ((1 : Int32) = 0)) (st1 := []) rfl rfl rfl rfl (by decide) ?_
  refine pr_s (pc1 := 31) (st1 := [.int a4]) rfl (fun _ => rfl) ?_
  refine pr_callv (N := pm_X10_isValue) (as := [.int a4]) (rest := []) (f := 2046) (l := 83954) (c1 := 0) (k1 := 0) (c2 := 0) (k2 := 0) (v := some (.int 0)) (h1 := ph_1) rfl (fun _ => rfl) ?_ (Nat.le_of_ble_eq_true rfl) (Nat.le_of_ble_eq_true rfl) ?_
  · refine px_C_of rfl ?_
    refine pr_s (pc1 := 1) (st1 := [.int a4]) rfl (fun _ => rfl) ?_
    refine pr_s (pc1 := 4) (st1 := [.int (-999), .int a4]) rfl (fun _ => rfl) ?_
    refine pr_s (pc1 := 7) (st1 := [.int 999, .int (-999), .int a4]) rfl (fun _ => rfl) ?_
    refine pr_callv (N := pm_X10_is) (as := [.int a4, .int (-999), .int 999]) (rest := []) (f := 2045) (l := 83932) (c1 := 0) (k1 := 0) (c2 := 0) (k2 := 0) (v := some (.int 0)) (h1 := ph_1) rfl (fun _ => rfl) ?_ (Nat.le_of_ble_eq_true rfl) (Nat.le_of_ble_eq_true rfl) ?_
    · refine px_C_of rfl ?_
      refine pr_s (pc1 := 1) (st1 := [.int a4]) rfl (fun _ => rfl) ?_
      refine pr_s (pc1 := 2) (st1 := [.int (-999), .int a4]) rfl (fun _ => rfl) ?_
      refine pr_bt (t := 14) (off := 12) (bb := decide (a4 < (-999))) (st1 := []) rfl rfl rfl rfl (pb_ltT ha4.2 (show (-999) ≤ ((-999) : Int32).toInt by decide) (by decide)) ?_
      refine pr_s (pc1 := 15) (st1 := [.int 0]) rfl (fun _ => rfl) ?_
      exact pr_e rfl (fun _ => rfl) ⟨rfl, rfl⟩
    show px_R _ _ _ _ (10, [(0, .int a4)], [.int 0], _) _ _ _
    exact pr_e rfl (fun _ => rfl) ⟨rfl, rfl⟩
  show px_R _ _ _ _ (34, [(0, .ref 136), (1, .int a1), (2, .int a2), (3, .int a3), (4, .int a4)], [.int 0], _) _ _ _
  refine pr_bf (t := 43) (off := 9) (bb := !decide ((0 : Int32) = 0)) (st1 := []) rfl rfl rfl rfl (px_not_f (by decide)) ?_
  refine pr_s (pc1 := 38) (st1 := [.ref 136]) rfl (fun _ => rfl) ?_
  refine pr_s (pc1 := 39) (st1 := [.int 1, .ref 136]) rfl (fun _ => rfl) ?_
  refine pr_callv (N := pm_X10_refuse) (as := [.ref 136, .int 1]) (rest := []) (f := 2046) (l := 83953) (c1 := 0) (k1 := 0) (c2 := 0) (k2 := 0) (v := some (.int 0)) (h1 := ph_2) rfl (fun ex => px_inv_hs ex rfl rfl rfl pg_2 rfl rfl rfl rfl) ?_ (Nat.le_of_ble_eq_true rfl) (Nat.le_of_ble_eq_true rfl) ?_
  · refine px_C_of rfl ?_
    refine pr_s (pc1 := 1) (st1 := [.ref 136]) rfl (fun _ => rfl) ?_
    refine pr_s (pc1 := 2) (st1 := [.int 1, .ref 136]) rfl (fun _ => rfl) ?_
    refine pr_putf (pc1 := 5) (h1 := ph_2) rfl rfl pg_2 rfl rfl rfl rfl rfl rfl rfl ?_
    refine pr_s (pc1 := 6) (st1 := [.int 0]) rfl (fun _ => rfl) ?_
    exact pr_e rfl (fun _ => rfl) ⟨rfl, rfl⟩
  show px_R _ _ _ _ (42, [(0, .ref 136), (1, .int a1), (2, .int a2), (3, .int a3), (4, .int a4)], [.int 0], _) _ _ _
  exact pr_e rfl (fun _ => rfl) ⟨rfl, rfl⟩
set_option maxRecDepth 100000 in
theorem pq_4 {sx : Option (List Int32)} (a2 a3 a4 : Int32) : px_C sx pm_X2_placeLike [.ref 93, .int 0, .int a2, .int a3, .int a4] (px_hs) 2043 83871 0 0 (fun r h' => r = .inl (some (.int (-1))) ∧ h' = px_hs) := by
  refine px_C_of rfl ?_
  refine pr_s (pc1 := 1) (st1 := [.int 0]) rfl (fun _ => rfl) ?_
  refine pr_bf (t := 10) (off := 9) (bb := decide ((0 : Int32) < 0)) (st1 := []) rfl rfl rfl rfl (by decide) ?_
  refine pr_s (pc1 := 5) (st1 := [.int 0]) rfl (fun _ => rfl) ?_
  refine pr_s (pc1 := 7) (st1 := [.int 8, .int 0]) rfl (fun _ => rfl) ?_
  refine pr_bt (t := 12) (off := 5) (bb := decide ((0 : Int32) < 8)) (st1 := []) rfl rfl rfl rfl (by decide) ?_
  refine pr_s (pc1 := 13) (st1 := [.int 0]) rfl (fun _ => rfl) ?_
  refine pr_s (pc1 := 15) (st1 := [.int 6, .int 0]) rfl (fun _ => rfl) ?_
  refine pr_s (pc1 := 16) (st1 := [.int 0]) rfl (fun _ => rfl) ?_
  refine pr_s (pc1 := 18) (lv1 := [(5, .int 0), (0, .ref 93), (1, .int 0), (2, .int a2), (3, .int a3), (4, .int a4)]) (st1 := []) rfl (fun _ => rfl) ?_
  refine pr_s (pc1 := 20) (st1 := [.int 0]) rfl (fun _ => rfl) ?_
  refine pr_s (pc1 := 21) (st1 := [.int 0, .int 0]) rfl (fun _ => rfl) ?_
  refine pr_s (pc1 := 22) (st1 := [.int 1, .int 0, .int 0]) rfl (fun _ => rfl) ?_
  refine pr_s (pc1 := 23) (st1 := [.int 1, .int 0]) rfl (fun _ => rfl) ?_
  refine pr_s (pc1 := 25) (st1 := [.int 6, .int 1, .int 0]) rfl (fun _ => rfl) ?_
  refine pr_s (pc1 := 26) (st1 := [.int 6, .int 0]) rfl (fun _ => rfl) ?_
  refine pr_bf (t := 92) (off := 66) (bb := decide ((6 : Int32) ≤ (0 : Int32))) (st1 := []) rfl rfl rfl rfl (by decide) ?_
  refine pr_s (pc1 := 31) (st1 := [.int 0]) rfl (fun _ => rfl) ?_
  refine pr_s (pc1 := 32) (st1 := [.int 3, .int 0]) rfl (fun _ => rfl) ?_
  refine pr_s (pc1 := 33) (st1 := [.int 0]) rfl (fun _ => rfl) ?_
  refine pr_s (pc1 := 35) (lv1 := [(6, .int 0), (5, .int 0), (0, .ref 93), (1, .int 0), (2, .int a2), (3, .int a3), (4, .int a4)]) (st1 := []) rfl (fun _ => rfl) ?_
  refine pr_s (pc1 := 36) (st1 := [.ref 93]) rfl (fun _ => rfl) ?_
  refine pr_getf (pc1 := 39) (v := .ref 94) rfl rfl pg_23 rfl rfl ?_
  refine pr_s (pc1 := 41) (st1 := [.int 0, .ref 94]) rfl (fun _ => rfl) ?_
  refine pr_iald (pc1 := 42) (x := (-1)) rfl pg_24 rfl rfl rfl ?_
  refine pr_bt (t := 86) (off := 44) (bb := decide (((-1) : Int32) < 0)) (st1 := []) rfl rfl rfl rfl (by decide) ?_
  refine pr_s (pc1 := 89) (lv1 := [(5, .int 1), (6, .int 0), (0, .ref 93), (1, .int 0), (2, .int a2), (3, .int a3), (4, .int a4)]) (st1 := []) rfl (fun _ => rfl) ?_
  refine pr_s (pc1 := 18) (st1 := []) rfl (fun _ => rfl) ?_
  refine pr_s (pc1 := 20) (st1 := [.int 1]) rfl (fun _ => rfl) ?_
  refine pr_s (pc1 := 21) (st1 := [.int 0, .int 1]) rfl (fun _ => rfl) ?_
  refine pr_s (pc1 := 22) (st1 := [.int 1, .int 0, .int 1]) rfl (fun _ => rfl) ?_
  refine pr_s (pc1 := 23) (st1 := [.int 1, .int 1]) rfl (fun _ => rfl) ?_
  refine pr_s (pc1 := 25) (st1 := [.int 6, .int 1, .int 1]) rfl (fun _ => rfl) ?_
  refine pr_s (pc1 := 26) (st1 := [.int 6, .int 1]) rfl (fun _ => rfl) ?_
  refine pr_bf (t := 92) (off := 66) (bb := decide ((6 : Int32) ≤ (1 : Int32))) (st1 := []) rfl rfl rfl rfl (by decide) ?_
  refine pr_s (pc1 := 31) (st1 := [.int 1]) rfl (fun _ => rfl) ?_
  refine pr_s (pc1 := 32) (st1 := [.int 3, .int 1]) rfl (fun _ => rfl) ?_
  refine pr_s (pc1 := 33) (st1 := [.int 3]) rfl (fun _ => rfl) ?_
  refine pr_s (pc1 := 35) (lv1 := [(6, .int 3), (5, .int 1), (0, .ref 93), (1, .int 0), (2, .int a2), (3, .int a3), (4, .int a4)]) (st1 := []) rfl (fun _ => rfl) ?_
  refine pr_s (pc1 := 36) (st1 := [.ref 93]) rfl (fun _ => rfl) ?_
  refine pr_getf (pc1 := 39) (v := .ref 94) rfl rfl pg_23 rfl rfl ?_
  refine pr_s (pc1 := 41) (st1 := [.int 1, .ref 94]) rfl (fun _ => rfl) ?_
  refine pr_iald (pc1 := 42) (x := (-1)) rfl pg_24 rfl rfl rfl ?_
  refine pr_bt (t := 86) (off := 44) (bb := decide (((-1) : Int32) < 0)) (st1 := []) rfl rfl rfl rfl (by decide) ?_
  refine pr_s (pc1 := 89) (lv1 := [(5, .int 2), (6, .int 3), (0, .ref 93), (1, .int 0), (2, .int a2), (3, .int a3), (4, .int a4)]) (st1 := []) rfl (fun _ => rfl) ?_
  refine pr_s (pc1 := 18) (st1 := []) rfl (fun _ => rfl) ?_
  refine pr_s (pc1 := 20) (st1 := [.int 2]) rfl (fun _ => rfl) ?_
  refine pr_s (pc1 := 21) (st1 := [.int 0, .int 2]) rfl (fun _ => rfl) ?_
  refine pr_s (pc1 := 22) (st1 := [.int 1, .int 0, .int 2]) rfl (fun _ => rfl) ?_
  refine pr_s (pc1 := 23) (st1 := [.int 1, .int 2]) rfl (fun _ => rfl) ?_
  refine pr_s (pc1 := 25) (st1 := [.int 6, .int 1, .int 2]) rfl (fun _ => rfl) ?_
  refine pr_s (pc1 := 26) (st1 := [.int 6, .int 2]) rfl (fun _ => rfl) ?_
  refine pr_bf (t := 92) (off := 66) (bb := decide ((6 : Int32) ≤ (2 : Int32))) (st1 := []) rfl rfl rfl rfl (by decide) ?_
  refine pr_s (pc1 := 31) (st1 := [.int 2]) rfl (fun _ => rfl) ?_
  refine pr_s (pc1 := 32) (st1 := [.int 3, .int 2]) rfl (fun _ => rfl) ?_
  refine pr_s (pc1 := 33) (st1 := [.int 6]) rfl (fun _ => rfl) ?_
  refine pr_s (pc1 := 35) (lv1 := [(6, .int 6), (5, .int 2), (0, .ref 93), (1, .int 0), (2, .int a2), (3, .int a3), (4, .int a4)]) (st1 := []) rfl (fun _ => rfl) ?_
  refine pr_s (pc1 := 36) (st1 := [.ref 93]) rfl (fun _ => rfl) ?_
  refine pr_getf (pc1 := 39) (v := .ref 94) rfl rfl pg_23 rfl rfl ?_
  refine pr_s (pc1 := 41) (st1 := [.int 2, .ref 94]) rfl (fun _ => rfl) ?_
  refine pr_iald (pc1 := 42) (x := (-1)) rfl pg_24 rfl rfl rfl ?_
  refine pr_bt (t := 86) (off := 44) (bb := decide (((-1) : Int32) < 0)) (st1 := []) rfl rfl rfl rfl (by decide) ?_
  refine pr_s (pc1 := 89) (lv1 := [(5, .int 3), (6, .int 6), (0, .ref 93), (1, .int 0), (2, .int a2), (3, .int a3), (4, .int a4)]) (st1 := []) rfl (fun _ => rfl) ?_
  refine pr_s (pc1 := 18) (st1 := []) rfl (fun _ => rfl) ?_
  refine pr_s (pc1 := 20) (st1 := [.int 3]) rfl (fun _ => rfl) ?_
  refine pr_s (pc1 := 21) (st1 := [.int 0, .int 3]) rfl (fun _ => rfl) ?_
  refine pr_s (pc1 := 22) (st1 := [.int 1, .int 0, .int 3]) rfl (fun _ => rfl) ?_
  refine pr_s (pc1 := 23) (st1 := [.int 1, .int 3]) rfl (fun _ => rfl) ?_
  refine pr_s (pc1 := 25) (st1 := [.int 6, .int 1, .int 3]) rfl (fun _ => rfl) ?_
  refine pr_s (pc1 := 26) (st1 := [.int 6, .int 3]) rfl (fun _ => rfl) ?_
  refine pr_bf (t := 92) (off := 66) (bb := decide ((6 : Int32) ≤ (3 : Int32))) (st1 := []) rfl rfl rfl rfl (by decide) ?_
  refine pr_s (pc1 := 31) (st1 := [.int 3]) rfl (fun _ => rfl) ?_
  refine pr_s (pc1 := 32) (st1 := [.int 3, .int 3]) rfl (fun _ => rfl) ?_
  refine pr_s (pc1 := 33) (st1 := [.int 9]) rfl (fun _ => rfl) ?_
  refine pr_s (pc1 := 35) (lv1 := [(6, .int 9), (5, .int 3), (0, .ref 93), (1, .int 0), (2, .int a2), (3, .int a3), (4, .int a4)]) (st1 := []) rfl (fun _ => rfl) ?_
  refine pr_s (pc1 := 36) (st1 := [.ref 93]) rfl (fun _ => rfl) ?_
  refine pr_getf (pc1 := 39) (v := .ref 94) rfl rfl pg_23 rfl rfl ?_
  refine pr_s (pc1 := 41) (st1 := [.int 3, .ref 94]) rfl (fun _ => rfl) ?_
  refine pr_iald (pc1 := 42) (x := (-1)) rfl pg_24 rfl rfl rfl ?_
  refine pr_bt (t := 86) (off := 44) (bb := decide (((-1) : Int32) < 0)) (st1 := []) rfl rfl rfl rfl (by decide) ?_
  refine pr_s (pc1 := 89) (lv1 := [(5, .int 4), (6, .int 9), (0, .ref 93), (1, .int 0), (2, .int a2), (3, .int a3), (4, .int a4)]) (st1 := []) rfl (fun _ => rfl) ?_
  refine pr_s (pc1 := 18) (st1 := []) rfl (fun _ => rfl) ?_
  refine pr_s (pc1 := 20) (st1 := [.int 4]) rfl (fun _ => rfl) ?_
  refine pr_s (pc1 := 21) (st1 := [.int 0, .int 4]) rfl (fun _ => rfl) ?_
  refine pr_s (pc1 := 22) (st1 := [.int 1, .int 0, .int 4]) rfl (fun _ => rfl) ?_
  refine pr_s (pc1 := 23) (st1 := [.int 1, .int 4]) rfl (fun _ => rfl) ?_
  refine pr_s (pc1 := 25) (st1 := [.int 6, .int 1, .int 4]) rfl (fun _ => rfl) ?_
  refine pr_s (pc1 := 26) (st1 := [.int 6, .int 4]) rfl (fun _ => rfl) ?_
  refine pr_bf (t := 92) (off := 66) (bb := decide ((6 : Int32) ≤ (4 : Int32))) (st1 := []) rfl rfl rfl rfl (by decide) ?_
  refine pr_s (pc1 := 31) (st1 := [.int 4]) rfl (fun _ => rfl) ?_
  refine pr_s (pc1 := 32) (st1 := [.int 3, .int 4]) rfl (fun _ => rfl) ?_
  refine pr_s (pc1 := 33) (st1 := [.int 12]) rfl (fun _ => rfl) ?_
  refine pr_s (pc1 := 35) (lv1 := [(6, .int 12), (5, .int 4), (0, .ref 93), (1, .int 0), (2, .int a2), (3, .int a3), (4, .int a4)]) (st1 := []) rfl (fun _ => rfl) ?_
  refine pr_s (pc1 := 36) (st1 := [.ref 93]) rfl (fun _ => rfl) ?_
  refine pr_getf (pc1 := 39) (v := .ref 94) rfl rfl pg_23 rfl rfl ?_
  refine pr_s (pc1 := 41) (st1 := [.int 4, .ref 94]) rfl (fun _ => rfl) ?_
  refine pr_iald (pc1 := 42) (x := (-1)) rfl pg_24 rfl rfl rfl ?_
  refine pr_bt (t := 86) (off := 44) (bb := decide (((-1) : Int32) < 0)) (st1 := []) rfl rfl rfl rfl (by decide) ?_
  refine pr_s (pc1 := 89) (lv1 := [(5, .int 5), (6, .int 12), (0, .ref 93), (1, .int 0), (2, .int a2), (3, .int a3), (4, .int a4)]) (st1 := []) rfl (fun _ => rfl) ?_
  refine pr_s (pc1 := 18) (st1 := []) rfl (fun _ => rfl) ?_
  refine pr_s (pc1 := 20) (st1 := [.int 5]) rfl (fun _ => rfl) ?_
  refine pr_s (pc1 := 21) (st1 := [.int 0, .int 5]) rfl (fun _ => rfl) ?_
  refine pr_s (pc1 := 22) (st1 := [.int 1, .int 0, .int 5]) rfl (fun _ => rfl) ?_
  refine pr_s (pc1 := 23) (st1 := [.int 1, .int 5]) rfl (fun _ => rfl) ?_
  refine pr_s (pc1 := 25) (st1 := [.int 6, .int 1, .int 5]) rfl (fun _ => rfl) ?_
  refine pr_s (pc1 := 26) (st1 := [.int 6, .int 5]) rfl (fun _ => rfl) ?_
  refine pr_bf (t := 92) (off := 66) (bb := decide ((6 : Int32) ≤ (5 : Int32))) (st1 := []) rfl rfl rfl rfl (by decide) ?_
  refine pr_s (pc1 := 31) (st1 := [.int 5]) rfl (fun _ => rfl) ?_
  refine pr_s (pc1 := 32) (st1 := [.int 3, .int 5]) rfl (fun _ => rfl) ?_
  refine pr_s (pc1 := 33) (st1 := [.int 15]) rfl (fun _ => rfl) ?_
  refine pr_s (pc1 := 35) (lv1 := [(6, .int 15), (5, .int 5), (0, .ref 93), (1, .int 0), (2, .int a2), (3, .int a3), (4, .int a4)]) (st1 := []) rfl (fun _ => rfl) ?_
  refine pr_s (pc1 := 36) (st1 := [.ref 93]) rfl (fun _ => rfl) ?_
  refine pr_getf (pc1 := 39) (v := .ref 94) rfl rfl pg_23 rfl rfl ?_
  refine pr_s (pc1 := 41) (st1 := [.int 5, .ref 94]) rfl (fun _ => rfl) ?_
  refine pr_iald (pc1 := 42) (x := (-1)) rfl pg_24 rfl rfl rfl ?_
  refine pr_bt (t := 86) (off := 44) (bb := decide (((-1) : Int32) < 0)) (st1 := []) rfl rfl rfl rfl (by decide) ?_
  refine pr_s (pc1 := 89) (lv1 := [(5, .int 6), (6, .int 15), (0, .ref 93), (1, .int 0), (2, .int a2), (3, .int a3), (4, .int a4)]) (st1 := []) rfl (fun _ => rfl) ?_
  refine pr_s (pc1 := 18) (st1 := []) rfl (fun _ => rfl) ?_
  refine pr_s (pc1 := 20) (st1 := [.int 6]) rfl (fun _ => rfl) ?_
  refine pr_s (pc1 := 21) (st1 := [.int 0, .int 6]) rfl (fun _ => rfl) ?_
  refine pr_s (pc1 := 22) (st1 := [.int 1, .int 0, .int 6]) rfl (fun _ => rfl) ?_
  refine pr_s (pc1 := 23) (st1 := [.int 1, .int 6]) rfl (fun _ => rfl) ?_
  refine pr_s (pc1 := 25) (st1 := [.int 6, .int 1, .int 6]) rfl (fun _ => rfl) ?_
  refine pr_s (pc1 := 26) (st1 := [.int 6, .int 6]) rfl (fun _ => rfl) ?_
  refine pr_bt (t := 92) (off := 66) (bb := decide ((6 : Int32) ≤ (6 : Int32))) (st1 := []) rfl rfl rfl rfl (by decide) ?_
  refine pr_s (pc1 := 93) (st1 := [.int (-1)]) rfl (fun _ => rfl) ?_
  exact pr_e rfl (fun _ => rfl) ⟨rfl, rfl⟩
set_option maxRecDepth 100000 in
theorem pq_5 {sx : Option (List Int32)} (a2 a3 a4 : Int32) : px_C sx pm_X2_create [.ref 93, .int 0, .int a2, .int a3, .int a4] (px_hs) 2043 83872 0 0 (fun r h' => r = .inl (some (.int 0)) ∧ h' = ph_24 a2 a3 a4) := by
  refine px_C_of rfl ?_
  refine pr_s (pc1 := 1) (st1 := [.ref 93]) rfl (fun _ => rfl) ?_
  refine pr_s (pc1 := 2) (st1 := [.int 0, .ref 93]) rfl (fun _ => rfl) ?_
  refine pr_callv (N := pm_X2_freePlace) (as := [.ref 93, .int 0]) (rest := []) (f := 2042) (l := 83850) (c1 := 0) (k1 := 0) (c2 := 0) (k2 := 0) (v := some (.int 0)) (h1 := px_hs) rfl (fun ex => px_inv_hs ex rfl rfl rfl pg_23 rfl rfl rfl rfl) ?_ (Nat.le_of_ble_eq_true rfl) (Nat.le_of_ble_eq_true rfl) ?_
  · refine px_C_of rfl ?_
    refine pr_s (pc1 := 1) (st1 := [.int 0]) rfl (fun _ => rfl) ?_
    refine pr_bf (t := 10) (off := 9) (bb := decide ((0 : Int32) < 0)) (st1 := []) rfl rfl rfl rfl (by decide) ?_
    refine pr_s (pc1 := 5) (st1 := [.int 0]) rfl (fun _ => rfl) ?_
    refine pr_s (pc1 := 7) (st1 := [.int 8, .int 0]) rfl (fun _ => rfl) ?_
    refine pr_bt (t := 12) (off := 5) (bb := decide ((0 : Int32) < 8)) (st1 := []) rfl rfl rfl rfl (by decide) ?_
    refine pr_s (pc1 := 13) (st1 := [.int 0]) rfl (fun _ => rfl) ?_
    refine pr_s (pc1 := 15) (st1 := [.int 6, .int 0]) rfl (fun _ => rfl) ?_
    refine pr_s (pc1 := 16) (st1 := [.int 0]) rfl (fun _ => rfl) ?_
    refine pr_s (pc1 := 17) (lv1 := [(2, .int 0), (0, .ref 93), (1, .int 0)]) (st1 := []) rfl (fun _ => rfl) ?_
    refine pr_s (pc1 := 18) (st1 := [.int 0]) rfl (fun _ => rfl) ?_
    refine pr_s (pc1 := 19) (st1 := [.int 0, .int 0]) rfl (fun _ => rfl) ?_
    refine pr_s (pc1 := 20) (st1 := [.int 1, .int 0, .int 0]) rfl (fun _ => rfl) ?_
    refine pr_s (pc1 := 21) (st1 := [.int 1, .int 0]) rfl (fun _ => rfl) ?_
    refine pr_s (pc1 := 23) (st1 := [.int 6, .int 1, .int 0]) rfl (fun _ => rfl) ?_
    refine pr_s (pc1 := 24) (st1 := [.int 6, .int 0]) rfl (fun _ => rfl) ?_
    refine pr_bf (t := 44) (off := 20) (bb := decide ((6 : Int32) ≤ (0 : Int32))) (st1 := []) rfl rfl rfl rfl (by decide) ?_
    refine pr_s (pc1 := 28) (st1 := [.ref 93]) rfl (fun _ => rfl) ?_
    refine pr_getf (pc1 := 31) (v := .ref 94) rfl rfl pg_23 rfl rfl ?_
    refine pr_s (pc1 := 32) (st1 := [.int 0, .ref 94]) rfl (fun _ => rfl) ?_
    refine pr_iald (pc1 := 33) (x := (-1)) rfl pg_24 rfl rfl rfl ?_
    refine pr_bf (t := 38) (off := 5) (bb := decide ((0 : Int32) ≤ ((-1) : Int32))) (st1 := []) rfl rfl rfl rfl (by decide) ?_
    refine pr_s (pc1 := 37) (st1 := [.int 0]) rfl (fun _ => rfl) ?_
    exact pr_e rfl (fun _ => rfl) ⟨rfl, rfl⟩
  show px_R _ _ _ _ (5, [(0, .ref 93), (1, .int 0), (2, .int a2), (3, .int a3), (4, .int a4)], [.int 0], _) _ _ _
  refine pr_s (pc1 := 7) (lv1 := [(5, .int 0), (0, .ref 93), (1, .int 0), (2, .int a2), (3, .int a3), (4, .int a4)]) (st1 := []) rfl (fun _ => rfl) ?_
  refine pr_s (pc1 := 9) (st1 := [.int 0]) rfl (fun _ => rfl) ?_
  refine pr_bf (t := 22) (off := 13) (bb := decide ((0 : Int32) < 0)) (st1 := []) rfl rfl rfl rfl (by decide) ?_
  refine pr_s (pc1 := 13) (st1 := [.ref 93]) rfl (fun _ => rfl) ?_
  refine pr_s (pc1 := 14) (st1 := [.int 0, .ref 93]) rfl (fun _ => rfl) ?_
  refine pr_callv (N := pm_X2_countOf) (as := [.ref 93, .int 0]) (rest := []) (f := 2042) (l := 83851) (c1 := 0) (k1 := 0) (c2 := 0) (k2 := 0) (v := some (.int 0)) (h1 := px_hs) rfl (fun ex => px_inv_hs ex rfl rfl rfl pg_23 rfl rfl rfl rfl) ?_ (Nat.le_of_ble_eq_true rfl) (Nat.le_of_ble_eq_true rfl) ?_
  · refine px_C_of rfl ?_
    refine pr_s (pc1 := 1) (st1 := [.int 0]) rfl (fun _ => rfl) ?_
    refine pr_bf (t := 19) (off := 18) (bb := decide ((0 : Int32) < 0)) (st1 := []) rfl rfl rfl rfl (by decide) ?_
    refine pr_s (pc1 := 5) (st1 := [.int 0]) rfl (fun _ => rfl) ?_
    refine pr_s (pc1 := 7) (st1 := [.int 8, .int 0]) rfl (fun _ => rfl) ?_
    refine pr_bf (t := 19) (off := 12) (bb := decide ((8 : Int32) ≤ (0 : Int32))) (st1 := []) rfl rfl rfl rfl (by decide) ?_
    refine pr_s (pc1 := 11) (st1 := [.ref 93]) rfl (fun _ => rfl) ?_
    refine pr_getf (pc1 := 14) (v := .ref 97) rfl rfl pg_23 rfl rfl ?_
    refine pr_s (pc1 := 15) (st1 := [.int 0, .ref 97]) rfl (fun _ => rfl) ?_
    refine pr_iald (pc1 := 16) (x := 0) rfl pg_25 rfl rfl rfl ?_
    refine pr_s (pc1 := 20) (st1 := [.int 0]) rfl (fun _ => rfl) ?_
    exact pr_e rfl (fun _ => rfl) ⟨rfl, rfl⟩
  show px_R _ _ _ _ (17, [(5, .int 0), (0, .ref 93), (1, .int 0), (2, .int a2), (3, .int a3), (4, .int a4)], [.int 0], _) _ _ _
  refine pr_s (pc1 := 19) (st1 := [.int 6, .int 0]) rfl (fun _ => rfl) ?_
  refine pr_bt (t := 24) (off := 5) (bb := decide ((0 : Int32) < 6)) (st1 := []) rfl rfl rfl rfl (by decide) ?_
  refine pr_s (pc1 := 25) (st1 := [.ref 93]) rfl (fun _ => rfl) ?_
  refine pr_getf (pc1 := 28) (v := .ref 94) rfl rfl pg_23 rfl rfl ?_
  refine pr_s (pc1 := 30) (st1 := [.int 0, .ref 94]) rfl (fun _ => rfl) ?_
  refine pr_s (pc1 := 31) (st1 := [.ref 93, .int 0, .ref 94]) rfl (fun _ => rfl) ?_
  refine pr_getf (pc1 := 34) (v := .int 0) rfl rfl pg_23 rfl rfl ?_
  refine pr_iast (pc1 := 35) (h1 := ph_16) rfl pg_24 rfl rfl rfl ?_
  refine pr_s (pc1 := 36) (st1 := [.ref 93]) rfl (fun _ => rfl) ?_
  refine pr_s (pc1 := 37) (st1 := [.ref 93, .ref 93]) rfl (fun _ => rfl) ?_
  refine pr_getf (pc1 := 40) (v := .int 0) rfl rfl pg_26 rfl rfl ?_
  refine pr_s (pc1 := 41) (st1 := [.int 1, .int 0, .ref 93]) rfl (fun _ => rfl) ?_
  refine pr_s (pc1 := 42) (st1 := [.int 1, .ref 93]) rfl (fun _ => rfl) ?_
  refine pr_putf (pc1 := 45) (h1 := ph_17) rfl rfl pg_26 rfl rfl rfl rfl rfl rfl rfl ?_
  refine pr_s (pc1 := 46) (st1 := [.ref 93]) rfl (fun _ => rfl) ?_
  refine pr_s (pc1 := 47) (st1 := [.ref 93, .ref 93]) rfl (fun _ => rfl) ?_
  refine pr_getf (pc1 := 50) (v := .int 0) rfl rfl pg_27 rfl rfl ?_
  refine pr_s (pc1 := 51) (st1 := [.int 1, .int 0, .ref 93]) rfl (fun _ => rfl) ?_
  refine pr_s (pc1 := 52) (st1 := [.int 1, .ref 93]) rfl (fun _ => rfl) ?_
  refine pr_putf (pc1 := 55) (h1 := ph_18) rfl rfl pg_27 rfl rfl rfl rfl rfl rfl rfl ?_
  refine pr_s (pc1 := 56) (st1 := [.ref 93]) rfl (fun _ => rfl) ?_
  refine pr_getf (pc1 := 59) (v := .ref 95) rfl rfl pg_28 rfl rfl ?_
  refine pr_s (pc1 := 61) (st1 := [.int 0, .ref 95]) rfl (fun _ => rfl) ?_
  refine pr_s (pc1 := 62) (st1 := [.int 0, .int 0, .ref 95]) rfl (fun _ => rfl) ?_
  refine pr_zast (pc1 := 63) (h1 := ph_19) rfl pg_30 rfl rfl rfl rfl ?_
  refine pr_s (pc1 := 64) (st1 := [.ref 93]) rfl (fun _ => rfl) ?_
  refine pr_getf (pc1 := 67) (v := .ref 96) rfl rfl pg_31 rfl rfl ?_
  refine pr_s (pc1 := 69) (st1 := [.int 0, .ref 96]) rfl (fun _ => rfl) ?_
  refine pr_s (pc1 := 70) (st1 := [.int 3, .int 0, .ref 96]) rfl (fun _ => rfl) ?_
  refine pr_s (pc1 := 71) (st1 := [.int 0, .ref 96]) rfl (fun _ => rfl) ?_
  refine pr_s (pc1 := 72) (st1 := [.int a2, .int 0, .ref 96]) rfl (fun _ => rfl) ?_
  refine pr_iast (pc1 := 73) (h1 := ph_20 a2) rfl pg_33 rfl rfl rfl ?_
  refine pr_s (pc1 := 74) (st1 := [.ref 93]) rfl (fun _ => rfl) ?_
  refine pr_getf (pc1 := 77) (v := .ref 96) rfl rfl (pg_34 a2) rfl rfl ?_
  refine pr_s (pc1 := 79) (st1 := [.int 0, .ref 96]) rfl (fun _ => rfl) ?_
  refine pr_s (pc1 := 80) (st1 := [.int 3, .int 0, .ref 96]) rfl (fun _ => rfl) ?_
  refine pr_s (pc1 := 81) (st1 := [.int 0, .ref 96]) rfl (fun _ => rfl) ?_
  refine pr_s (pc1 := 82) (st1 := [.int 1, .int 0, .ref 96]) rfl (fun _ => rfl) ?_
  refine pr_s (pc1 := 83) (st1 := [.int 1, .ref 96]) rfl (fun _ => rfl) ?_
  refine pr_s (pc1 := 84) (st1 := [.int a3, .int 1, .ref 96]) rfl (fun _ => rfl) ?_
  refine pr_iast (pc1 := 85) (h1 := ph_21 a2 a3) rfl (pg_35 a2) rfl rfl rfl ?_
  refine pr_s (pc1 := 86) (st1 := [.ref 93]) rfl (fun _ => rfl) ?_
  refine pr_getf (pc1 := 89) (v := .ref 96) rfl rfl (pg_36 a2 a3) rfl rfl ?_
  refine pr_s (pc1 := 91) (st1 := [.int 0, .ref 96]) rfl (fun _ => rfl) ?_
  refine pr_s (pc1 := 92) (st1 := [.int 3, .int 0, .ref 96]) rfl (fun _ => rfl) ?_
  refine pr_s (pc1 := 93) (st1 := [.int 0, .ref 96]) rfl (fun _ => rfl) ?_
  refine pr_s (pc1 := 94) (st1 := [.int 2, .int 0, .ref 96]) rfl (fun _ => rfl) ?_
  refine pr_s (pc1 := 95) (st1 := [.int 2, .ref 96]) rfl (fun _ => rfl) ?_
  refine pr_s (pc1 := 97) (st1 := [.int a4, .int 2, .ref 96]) rfl (fun _ => rfl) ?_
  refine pr_iast (pc1 := 98) (h1 := ph_22 a2 a3 a4) rfl (pg_37 a2 a3) rfl rfl rfl ?_
  refine pr_s (pc1 := 99) (st1 := [.ref 93]) rfl (fun _ => rfl) ?_
  refine pr_getf (pc1 := 102) (v := .ref 98) rfl rfl (pg_38 a2 a3 a4) rfl rfl ?_
  refine pr_s (pc1 := 103) (st1 := [.int 0, .ref 98]) rfl (fun _ => rfl) ?_
  refine pr_s (pc1 := 105) (st1 := [.int 6, .int 0, .ref 98]) rfl (fun _ => rfl) ?_
  refine pr_s (pc1 := 106) (st1 := [.int 0, .ref 98]) rfl (fun _ => rfl) ?_
  refine pr_s (pc1 := 107) (st1 := [.ref 93, .int 0, .ref 98]) rfl (fun _ => rfl) ?_
  refine pr_getf (pc1 := 110) (v := .ref 97) rfl rfl (pg_38 a2 a3 a4) rfl rfl ?_
  refine pr_s (pc1 := 111) (st1 := [.int 0, .ref 97, .int 0, .ref 98]) rfl (fun _ => rfl) ?_
  refine pr_iald (pc1 := 112) (x := 0) rfl (pg_39 a2 a3 a4) rfl rfl rfl ?_
  refine pr_s (pc1 := 113) (st1 := [.int 0, .ref 98]) rfl (fun _ => rfl) ?_
  refine pr_s (pc1 := 115) (st1 := [.int 0, .int 0, .ref 98]) rfl (fun _ => rfl) ?_
  refine pr_iast (pc1 := 116) (h1 := ph_23 a2 a3 a4) rfl (pg_41 a2 a3 a4) rfl rfl rfl ?_
  refine pr_s (pc1 := 117) (st1 := [.ref 93]) rfl (fun _ => rfl) ?_
  refine pr_getf (pc1 := 120) (v := .ref 97) rfl rfl (pg_42 a2 a3 a4) rfl rfl ?_
  refine pr_s (pc1 := 121) (st1 := [.int 0, .ref 97]) rfl (fun _ => rfl) ?_
  refine pr_s (pc1 := 122) (st1 := [.int 0, .ref 97, .int 0, .ref 97]) rfl (fun _ => rfl) ?_
  refine pr_iald (pc1 := 123) (x := 0) rfl (pg_43 a2 a3 a4) rfl rfl rfl ?_
  refine pr_s (pc1 := 124) (st1 := [.int 1, .int 0, .int 0, .ref 97]) rfl (fun _ => rfl) ?_
  refine pr_s (pc1 := 125) (st1 := [.int 1, .int 0, .ref 97]) rfl (fun _ => rfl) ?_
  refine pr_iast (pc1 := 126) (h1 := ph_24 a2 a3 a4) rfl (pg_43 a2 a3 a4) rfl rfl rfl ?_
  refine pr_s (pc1 := 128) (st1 := [.int 0]) rfl (fun _ => rfl) ?_
  exact pr_e rfl (fun _ => rfl) ⟨rfl, rfl⟩
set_option maxRecDepth 100000 in
theorem pq_6 {sx : Option (List Int32)} (a2 a3 a4 : Int32) : px_C sx pm_X5_dropLoose [.ref 92] (ph_25 a2 a3 a4) 2043 83876 0 0 (fun r h' => r = .inl (some (.int 0)) ∧ h' = ph_25 a2 a3 a4) := by
  refine px_C_of rfl ?_
  refine pr_s (pc1 := 1) (st1 := [.int 0]) rfl (fun _ => rfl) ?_
  refine pr_s (pc1 := 2) (lv1 := [(1, .int 0), (0, .ref 92)]) (st1 := []) rfl (fun _ => rfl) ?_
  refine pr_s (pc1 := 3) (st1 := [.int 0]) rfl (fun _ => rfl) ?_
  refine pr_s (pc1 := 4) (lv1 := [(2, .int 0), (1, .int 0), (0, .ref 92)]) (st1 := []) rfl (fun _ => rfl) ?_
  refine pr_s (pc1 := 5) (st1 := [.int 0]) rfl (fun _ => rfl) ?_
  refine pr_s (pc1 := 7) (st1 := [.int 48, .int 0]) rfl (fun _ => rfl) ?_
  refine pr_bf (t := 73) (off := 66) (bb := decide ((48 : Int32) ≤ (0 : Int32))) (st1 := []) rfl rfl rfl rfl (by decide) ?_
  refine pr_s (pc1 := 11) (st1 := [.ref 92]) rfl (fun _ => rfl) ?_
  refine pr_getf (pc1 := 14) (v := .ref 93) rfl rfl (pg_48 a2 a3 a4) rfl rfl ?_
  refine pr_getf (pc1 := 17) (v := .ref 94) rfl rfl (pg_49 a2 a3 a4) rfl rfl ?_
  refine pr_s (pc1 := 18) (st1 := [.int 0, .ref 94]) rfl (fun _ => rfl) ?_
  refine pr_iald (pc1 := 19) (x := 0) rfl (pg_62 a2 a3 a4) rfl rfl rfl ?_
  refine pr_bf (t := 67) (off := 48) (bb := decide ((0 : Int32) < 0)) (st1 := []) rfl rfl rfl rfl (by decide) ?_
  refine pr_s (pc1 := 23) (st1 := [.ref 92]) rfl (fun _ => rfl) ?_
  refine pr_getf (pc1 := 26) (v := .ref 93) rfl rfl (pg_48 a2 a3 a4) rfl rfl ?_
  refine pr_getf (pc1 := 29) (v := .ref 95) rfl rfl (pg_49 a2 a3 a4) rfl rfl ?_
  refine pr_s (pc1 := 30) (st1 := [.int 0, .ref 95]) rfl (fun _ => rfl) ?_
  refine pr_zald (pc1 := 31) (x := 1) rfl (pg_63 a2 a3 a4) rfl rfl rfl ?_
  refine pr_bt (t := 67) (off := 36) (bb := !decide ((1 : Int32) = 0)) (st1 := []) rfl rfl rfl rfl (px_not_t (by decide)) ?_
  refine pr_s (pc1 := 70) (lv1 := [(2, .int 1), (1, .int 0), (0, .ref 92)]) (st1 := []) rfl (fun _ => rfl) ?_
  refine pr_s (pc1 := 4) (st1 := []) rfl (fun _ => rfl) ?_
  refine pr_s (pc1 := 5) (st1 := [.int 1]) rfl (fun _ => rfl) ?_
  refine pr_s (pc1 := 7) (st1 := [.int 48, .int 1]) rfl (fun _ => rfl) ?_
  refine pr_bf (t := 73) (off := 66) (bb := decide ((48 : Int32) ≤ (1 : Int32))) (st1 := []) rfl rfl rfl rfl (by decide) ?_
  refine pr_s (pc1 := 11) (st1 := [.ref 92]) rfl (fun _ => rfl) ?_
  refine pr_getf (pc1 := 14) (v := .ref 93) rfl rfl (pg_48 a2 a3 a4) rfl rfl ?_
  refine pr_getf (pc1 := 17) (v := .ref 94) rfl rfl (pg_49 a2 a3 a4) rfl rfl ?_
  refine pr_s (pc1 := 18) (st1 := [.int 1, .ref 94]) rfl (fun _ => rfl) ?_
  refine pr_iald (pc1 := 19) (x := (-1)) rfl (pg_62 a2 a3 a4) rfl rfl rfl ?_
  refine pr_bt (t := 67) (off := 48) (bb := decide (((-1) : Int32) < 0)) (st1 := []) rfl rfl rfl rfl (by decide) ?_
  refine pr_s (pc1 := 70) (lv1 := [(2, .int 2), (1, .int 0), (0, .ref 92)]) (st1 := []) rfl (fun _ => rfl) ?_
  refine pr_s (pc1 := 4) (st1 := []) rfl (fun _ => rfl) ?_
  refine pr_s (pc1 := 5) (st1 := [.int 2]) rfl (fun _ => rfl) ?_
  refine pr_s (pc1 := 7) (st1 := [.int 48, .int 2]) rfl (fun _ => rfl) ?_
  refine pr_bf (t := 73) (off := 66) (bb := decide ((48 : Int32) ≤ (2 : Int32))) (st1 := []) rfl rfl rfl rfl (by decide) ?_
  refine pr_s (pc1 := 11) (st1 := [.ref 92]) rfl (fun _ => rfl) ?_
  refine pr_getf (pc1 := 14) (v := .ref 93) rfl rfl (pg_48 a2 a3 a4) rfl rfl ?_
  refine pr_getf (pc1 := 17) (v := .ref 94) rfl rfl (pg_49 a2 a3 a4) rfl rfl ?_
  refine pr_s (pc1 := 18) (st1 := [.int 2, .ref 94]) rfl (fun _ => rfl) ?_
  refine pr_iald (pc1 := 19) (x := (-1)) rfl (pg_62 a2 a3 a4) rfl rfl rfl ?_
  refine pr_bt (t := 67) (off := 48) (bb := decide (((-1) : Int32) < 0)) (st1 := []) rfl rfl rfl rfl (by decide) ?_
  refine pr_s (pc1 := 70) (lv1 := [(2, .int 3), (1, .int 0), (0, .ref 92)]) (st1 := []) rfl (fun _ => rfl) ?_
  refine pr_s (pc1 := 4) (st1 := []) rfl (fun _ => rfl) ?_
  refine pr_s (pc1 := 5) (st1 := [.int 3]) rfl (fun _ => rfl) ?_
  refine pr_s (pc1 := 7) (st1 := [.int 48, .int 3]) rfl (fun _ => rfl) ?_
  refine pr_bf (t := 73) (off := 66) (bb := decide ((48 : Int32) ≤ (3 : Int32))) (st1 := []) rfl rfl rfl rfl (by decide) ?_
  refine pr_s (pc1 := 11) (st1 := [.ref 92]) rfl (fun _ => rfl) ?_
  refine pr_getf (pc1 := 14) (v := .ref 93) rfl rfl (pg_48 a2 a3 a4) rfl rfl ?_
  refine pr_getf (pc1 := 17) (v := .ref 94) rfl rfl (pg_49 a2 a3 a4) rfl rfl ?_
  refine pr_s (pc1 := 18) (st1 := [.int 3, .ref 94]) rfl (fun _ => rfl) ?_
  refine pr_iald (pc1 := 19) (x := (-1)) rfl (pg_62 a2 a3 a4) rfl rfl rfl ?_
  refine pr_bt (t := 67) (off := 48) (bb := decide (((-1) : Int32) < 0)) (st1 := []) rfl rfl rfl rfl (by decide) ?_
  refine pr_s (pc1 := 70) (lv1 := [(2, .int 4), (1, .int 0), (0, .ref 92)]) (st1 := []) rfl (fun _ => rfl) ?_
  refine pr_s (pc1 := 4) (st1 := []) rfl (fun _ => rfl) ?_
  refine pr_s (pc1 := 5) (st1 := [.int 4]) rfl (fun _ => rfl) ?_
  refine pr_s (pc1 := 7) (st1 := [.int 48, .int 4]) rfl (fun _ => rfl) ?_
  refine pr_bf (t := 73) (off := 66) (bb := decide ((48 : Int32) ≤ (4 : Int32))) (st1 := []) rfl rfl rfl rfl (by decide) ?_
  refine pr_s (pc1 := 11) (st1 := [.ref 92]) rfl (fun _ => rfl) ?_
  refine pr_getf (pc1 := 14) (v := .ref 93) rfl rfl (pg_48 a2 a3 a4) rfl rfl ?_
  refine pr_getf (pc1 := 17) (v := .ref 94) rfl rfl (pg_49 a2 a3 a4) rfl rfl ?_
  refine pr_s (pc1 := 18) (st1 := [.int 4, .ref 94]) rfl (fun _ => rfl) ?_
  refine pr_iald (pc1 := 19) (x := (-1)) rfl (pg_62 a2 a3 a4) rfl rfl rfl ?_
  refine pr_bt (t := 67) (off := 48) (bb := decide (((-1) : Int32) < 0)) (st1 := []) rfl rfl rfl rfl (by decide) ?_
  refine pr_s (pc1 := 70) (lv1 := [(2, .int 5), (1, .int 0), (0, .ref 92)]) (st1 := []) rfl (fun _ => rfl) ?_
  refine pr_s (pc1 := 4) (st1 := []) rfl (fun _ => rfl) ?_
  refine pr_s (pc1 := 5) (st1 := [.int 5]) rfl (fun _ => rfl) ?_
  refine pr_s (pc1 := 7) (st1 := [.int 48, .int 5]) rfl (fun _ => rfl) ?_
  refine pr_bf (t := 73) (off := 66) (bb := decide ((48 : Int32) ≤ (5 : Int32))) (st1 := []) rfl rfl rfl rfl (by decide) ?_
  refine pr_s (pc1 := 11) (st1 := [.ref 92]) rfl (fun _ => rfl) ?_
  refine pr_getf (pc1 := 14) (v := .ref 93) rfl rfl (pg_48 a2 a3 a4) rfl rfl ?_
  refine pr_getf (pc1 := 17) (v := .ref 94) rfl rfl (pg_49 a2 a3 a4) rfl rfl ?_
  refine pr_s (pc1 := 18) (st1 := [.int 5, .ref 94]) rfl (fun _ => rfl) ?_
  refine pr_iald (pc1 := 19) (x := (-1)) rfl (pg_62 a2 a3 a4) rfl rfl rfl ?_
  refine pr_bt (t := 67) (off := 48) (bb := decide (((-1) : Int32) < 0)) (st1 := []) rfl rfl rfl rfl (by decide) ?_
  refine pr_s (pc1 := 70) (lv1 := [(2, .int 6), (1, .int 0), (0, .ref 92)]) (st1 := []) rfl (fun _ => rfl) ?_
  refine pr_s (pc1 := 4) (st1 := []) rfl (fun _ => rfl) ?_
  refine pr_s (pc1 := 5) (st1 := [.int 6]) rfl (fun _ => rfl) ?_
  refine pr_s (pc1 := 7) (st1 := [.int 48, .int 6]) rfl (fun _ => rfl) ?_
  refine pr_bf (t := 73) (off := 66) (bb := decide ((48 : Int32) ≤ (6 : Int32))) (st1 := []) rfl rfl rfl rfl (by decide) ?_
  refine pr_s (pc1 := 11) (st1 := [.ref 92]) rfl (fun _ => rfl) ?_
  refine pr_getf (pc1 := 14) (v := .ref 93) rfl rfl (pg_48 a2 a3 a4) rfl rfl ?_
  refine pr_getf (pc1 := 17) (v := .ref 94) rfl rfl (pg_49 a2 a3 a4) rfl rfl ?_
  refine pr_s (pc1 := 18) (st1 := [.int 6, .ref 94]) rfl (fun _ => rfl) ?_
  refine pr_iald (pc1 := 19) (x := (-1)) rfl (pg_62 a2 a3 a4) rfl rfl rfl ?_
  refine pr_bt (t := 67) (off := 48) (bb := decide (((-1) : Int32) < 0)) (st1 := []) rfl rfl rfl rfl (by decide) ?_
  refine pr_s (pc1 := 70) (lv1 := [(2, .int 7), (1, .int 0), (0, .ref 92)]) (st1 := []) rfl (fun _ => rfl) ?_
  refine pr_s (pc1 := 4) (st1 := []) rfl (fun _ => rfl) ?_
  refine pr_s (pc1 := 5) (st1 := [.int 7]) rfl (fun _ => rfl) ?_
  refine pr_s (pc1 := 7) (st1 := [.int 48, .int 7]) rfl (fun _ => rfl) ?_
  refine pr_bf (t := 73) (off := 66) (bb := decide ((48 : Int32) ≤ (7 : Int32))) (st1 := []) rfl rfl rfl rfl (by decide) ?_
  refine pr_s (pc1 := 11) (st1 := [.ref 92]) rfl (fun _ => rfl) ?_
  refine pr_getf (pc1 := 14) (v := .ref 93) rfl rfl (pg_48 a2 a3 a4) rfl rfl ?_
  refine pr_getf (pc1 := 17) (v := .ref 94) rfl rfl (pg_49 a2 a3 a4) rfl rfl ?_
  refine pr_s (pc1 := 18) (st1 := [.int 7, .ref 94]) rfl (fun _ => rfl) ?_
  refine pr_iald (pc1 := 19) (x := (-1)) rfl (pg_62 a2 a3 a4) rfl rfl rfl ?_
  refine pr_bt (t := 67) (off := 48) (bb := decide (((-1) : Int32) < 0)) (st1 := []) rfl rfl rfl rfl (by decide) ?_
  refine pr_s (pc1 := 70) (lv1 := [(2, .int 8), (1, .int 0), (0, .ref 92)]) (st1 := []) rfl (fun _ => rfl) ?_
  refine pr_s (pc1 := 4) (st1 := []) rfl (fun _ => rfl) ?_
  refine pr_s (pc1 := 5) (st1 := [.int 8]) rfl (fun _ => rfl) ?_
  refine pr_s (pc1 := 7) (st1 := [.int 48, .int 8]) rfl (fun _ => rfl) ?_
  refine pr_bf (t := 73) (off := 66) (bb := decide ((48 : Int32) ≤ (8 : Int32))) (st1 := []) rfl rfl rfl rfl (by decide) ?_
  refine pr_s (pc1 := 11) (st1 := [.ref 92]) rfl (fun _ => rfl) ?_
  refine pr_getf (pc1 := 14) (v := .ref 93) rfl rfl (pg_48 a2 a3 a4) rfl rfl ?_
  refine pr_getf (pc1 := 17) (v := .ref 94) rfl rfl (pg_49 a2 a3 a4) rfl rfl ?_
  refine pr_s (pc1 := 18) (st1 := [.int 8, .ref 94]) rfl (fun _ => rfl) ?_
  refine pr_iald (pc1 := 19) (x := (-1)) rfl (pg_62 a2 a3 a4) rfl rfl rfl ?_
  refine pr_bt (t := 67) (off := 48) (bb := decide (((-1) : Int32) < 0)) (st1 := []) rfl rfl rfl rfl (by decide) ?_
  refine pr_s (pc1 := 70) (lv1 := [(2, .int 9), (1, .int 0), (0, .ref 92)]) (st1 := []) rfl (fun _ => rfl) ?_
  refine pr_s (pc1 := 4) (st1 := []) rfl (fun _ => rfl) ?_
  refine pr_s (pc1 := 5) (st1 := [.int 9]) rfl (fun _ => rfl) ?_
  refine pr_s (pc1 := 7) (st1 := [.int 48, .int 9]) rfl (fun _ => rfl) ?_
  refine pr_bf (t := 73) (off := 66) (bb := decide ((48 : Int32) ≤ (9 : Int32))) (st1 := []) rfl rfl rfl rfl (by decide) ?_
  refine pr_s (pc1 := 11) (st1 := [.ref 92]) rfl (fun _ => rfl) ?_
  refine pr_getf (pc1 := 14) (v := .ref 93) rfl rfl (pg_48 a2 a3 a4) rfl rfl ?_
  refine pr_getf (pc1 := 17) (v := .ref 94) rfl rfl (pg_49 a2 a3 a4) rfl rfl ?_
  refine pr_s (pc1 := 18) (st1 := [.int 9, .ref 94]) rfl (fun _ => rfl) ?_
  refine pr_iald (pc1 := 19) (x := (-1)) rfl (pg_62 a2 a3 a4) rfl rfl rfl ?_
  refine pr_bt (t := 67) (off := 48) (bb := decide (((-1) : Int32) < 0)) (st1 := []) rfl rfl rfl rfl (by decide) ?_
  refine pr_s (pc1 := 70) (lv1 := [(2, .int 10), (1, .int 0), (0, .ref 92)]) (st1 := []) rfl (fun _ => rfl) ?_
  refine pr_s (pc1 := 4) (st1 := []) rfl (fun _ => rfl) ?_
  refine pr_s (pc1 := 5) (st1 := [.int 10]) rfl (fun _ => rfl) ?_
  refine pr_s (pc1 := 7) (st1 := [.int 48, .int 10]) rfl (fun _ => rfl) ?_
  refine pr_bf (t := 73) (off := 66) (bb := decide ((48 : Int32) ≤ (10 : Int32))) (st1 := []) rfl rfl rfl rfl (by decide) ?_
  refine pr_s (pc1 := 11) (st1 := [.ref 92]) rfl (fun _ => rfl) ?_
  refine pr_getf (pc1 := 14) (v := .ref 93) rfl rfl (pg_48 a2 a3 a4) rfl rfl ?_
  refine pr_getf (pc1 := 17) (v := .ref 94) rfl rfl (pg_49 a2 a3 a4) rfl rfl ?_
  refine pr_s (pc1 := 18) (st1 := [.int 10, .ref 94]) rfl (fun _ => rfl) ?_
  refine pr_iald (pc1 := 19) (x := (-1)) rfl (pg_62 a2 a3 a4) rfl rfl rfl ?_
  refine pr_bt (t := 67) (off := 48) (bb := decide (((-1) : Int32) < 0)) (st1 := []) rfl rfl rfl rfl (by decide) ?_
  refine pr_s (pc1 := 70) (lv1 := [(2, .int 11), (1, .int 0), (0, .ref 92)]) (st1 := []) rfl (fun _ => rfl) ?_
  refine pr_s (pc1 := 4) (st1 := []) rfl (fun _ => rfl) ?_
  refine pr_s (pc1 := 5) (st1 := [.int 11]) rfl (fun _ => rfl) ?_
  refine pr_s (pc1 := 7) (st1 := [.int 48, .int 11]) rfl (fun _ => rfl) ?_
  refine pr_bf (t := 73) (off := 66) (bb := decide ((48 : Int32) ≤ (11 : Int32))) (st1 := []) rfl rfl rfl rfl (by decide) ?_
  refine pr_s (pc1 := 11) (st1 := [.ref 92]) rfl (fun _ => rfl) ?_
  refine pr_getf (pc1 := 14) (v := .ref 93) rfl rfl (pg_48 a2 a3 a4) rfl rfl ?_
  refine pr_getf (pc1 := 17) (v := .ref 94) rfl rfl (pg_49 a2 a3 a4) rfl rfl ?_
  refine pr_s (pc1 := 18) (st1 := [.int 11, .ref 94]) rfl (fun _ => rfl) ?_
  refine pr_iald (pc1 := 19) (x := (-1)) rfl (pg_62 a2 a3 a4) rfl rfl rfl ?_
  refine pr_bt (t := 67) (off := 48) (bb := decide (((-1) : Int32) < 0)) (st1 := []) rfl rfl rfl rfl (by decide) ?_
  refine pr_s (pc1 := 70) (lv1 := [(2, .int 12), (1, .int 0), (0, .ref 92)]) (st1 := []) rfl (fun _ => rfl) ?_
  refine pr_s (pc1 := 4) (st1 := []) rfl (fun _ => rfl) ?_
  refine pr_s (pc1 := 5) (st1 := [.int 12]) rfl (fun _ => rfl) ?_
  refine pr_s (pc1 := 7) (st1 := [.int 48, .int 12]) rfl (fun _ => rfl) ?_
  refine pr_bf (t := 73) (off := 66) (bb := decide ((48 : Int32) ≤ (12 : Int32))) (st1 := []) rfl rfl rfl rfl (by decide) ?_
  refine pr_s (pc1 := 11) (st1 := [.ref 92]) rfl (fun _ => rfl) ?_
  refine pr_getf (pc1 := 14) (v := .ref 93) rfl rfl (pg_48 a2 a3 a4) rfl rfl ?_
  refine pr_getf (pc1 := 17) (v := .ref 94) rfl rfl (pg_49 a2 a3 a4) rfl rfl ?_
  refine pr_s (pc1 := 18) (st1 := [.int 12, .ref 94]) rfl (fun _ => rfl) ?_
  refine pr_iald (pc1 := 19) (x := (-1)) rfl (pg_62 a2 a3 a4) rfl rfl rfl ?_
  refine pr_bt (t := 67) (off := 48) (bb := decide (((-1) : Int32) < 0)) (st1 := []) rfl rfl rfl rfl (by decide) ?_
  refine pr_s (pc1 := 70) (lv1 := [(2, .int 13), (1, .int 0), (0, .ref 92)]) (st1 := []) rfl (fun _ => rfl) ?_
  refine pr_s (pc1 := 4) (st1 := []) rfl (fun _ => rfl) ?_
  refine pr_s (pc1 := 5) (st1 := [.int 13]) rfl (fun _ => rfl) ?_
  refine pr_s (pc1 := 7) (st1 := [.int 48, .int 13]) rfl (fun _ => rfl) ?_
  refine pr_bf (t := 73) (off := 66) (bb := decide ((48 : Int32) ≤ (13 : Int32))) (st1 := []) rfl rfl rfl rfl (by decide) ?_
  refine pr_s (pc1 := 11) (st1 := [.ref 92]) rfl (fun _ => rfl) ?_
  refine pr_getf (pc1 := 14) (v := .ref 93) rfl rfl (pg_48 a2 a3 a4) rfl rfl ?_
  refine pr_getf (pc1 := 17) (v := .ref 94) rfl rfl (pg_49 a2 a3 a4) rfl rfl ?_
  refine pr_s (pc1 := 18) (st1 := [.int 13, .ref 94]) rfl (fun _ => rfl) ?_
  refine pr_iald (pc1 := 19) (x := (-1)) rfl (pg_62 a2 a3 a4) rfl rfl rfl ?_
  refine pr_bt (t := 67) (off := 48) (bb := decide (((-1) : Int32) < 0)) (st1 := []) rfl rfl rfl rfl (by decide) ?_
  refine pr_s (pc1 := 70) (lv1 := [(2, .int 14), (1, .int 0), (0, .ref 92)]) (st1 := []) rfl (fun _ => rfl) ?_
  refine pr_s (pc1 := 4) (st1 := []) rfl (fun _ => rfl) ?_
  refine pr_s (pc1 := 5) (st1 := [.int 14]) rfl (fun _ => rfl) ?_
  refine pr_s (pc1 := 7) (st1 := [.int 48, .int 14]) rfl (fun _ => rfl) ?_
  refine pr_bf (t := 73) (off := 66) (bb := decide ((48 : Int32) ≤ (14 : Int32))) (st1 := []) rfl rfl rfl rfl (by decide) ?_
  refine pr_s (pc1 := 11) (st1 := [.ref 92]) rfl (fun _ => rfl) ?_
  refine pr_getf (pc1 := 14) (v := .ref 93) rfl rfl (pg_48 a2 a3 a4) rfl rfl ?_
  refine pr_getf (pc1 := 17) (v := .ref 94) rfl rfl (pg_49 a2 a3 a4) rfl rfl ?_
  refine pr_s (pc1 := 18) (st1 := [.int 14, .ref 94]) rfl (fun _ => rfl) ?_
  refine pr_iald (pc1 := 19) (x := (-1)) rfl (pg_62 a2 a3 a4) rfl rfl rfl ?_
  refine pr_bt (t := 67) (off := 48) (bb := decide (((-1) : Int32) < 0)) (st1 := []) rfl rfl rfl rfl (by decide) ?_
  refine pr_s (pc1 := 70) (lv1 := [(2, .int 15), (1, .int 0), (0, .ref 92)]) (st1 := []) rfl (fun _ => rfl) ?_
  refine pr_s (pc1 := 4) (st1 := []) rfl (fun _ => rfl) ?_
  refine pr_s (pc1 := 5) (st1 := [.int 15]) rfl (fun _ => rfl) ?_
  refine pr_s (pc1 := 7) (st1 := [.int 48, .int 15]) rfl (fun _ => rfl) ?_
  refine pr_bf (t := 73) (off := 66) (bb := decide ((48 : Int32) ≤ (15 : Int32))) (st1 := []) rfl rfl rfl rfl (by decide) ?_
  refine pr_s (pc1 := 11) (st1 := [.ref 92]) rfl (fun _ => rfl) ?_
  refine pr_getf (pc1 := 14) (v := .ref 93) rfl rfl (pg_48 a2 a3 a4) rfl rfl ?_
  refine pr_getf (pc1 := 17) (v := .ref 94) rfl rfl (pg_49 a2 a3 a4) rfl rfl ?_
  refine pr_s (pc1 := 18) (st1 := [.int 15, .ref 94]) rfl (fun _ => rfl) ?_
  refine pr_iald (pc1 := 19) (x := (-1)) rfl (pg_62 a2 a3 a4) rfl rfl rfl ?_
  refine pr_bt (t := 67) (off := 48) (bb := decide (((-1) : Int32) < 0)) (st1 := []) rfl rfl rfl rfl (by decide) ?_
  refine pr_s (pc1 := 70) (lv1 := [(2, .int 16), (1, .int 0), (0, .ref 92)]) (st1 := []) rfl (fun _ => rfl) ?_
  refine pr_s (pc1 := 4) (st1 := []) rfl (fun _ => rfl) ?_
  refine pr_s (pc1 := 5) (st1 := [.int 16]) rfl (fun _ => rfl) ?_
  refine pr_s (pc1 := 7) (st1 := [.int 48, .int 16]) rfl (fun _ => rfl) ?_
  refine pr_bf (t := 73) (off := 66) (bb := decide ((48 : Int32) ≤ (16 : Int32))) (st1 := []) rfl rfl rfl rfl (by decide) ?_
  refine pr_s (pc1 := 11) (st1 := [.ref 92]) rfl (fun _ => rfl) ?_
  refine pr_getf (pc1 := 14) (v := .ref 93) rfl rfl (pg_48 a2 a3 a4) rfl rfl ?_
  refine pr_getf (pc1 := 17) (v := .ref 94) rfl rfl (pg_49 a2 a3 a4) rfl rfl ?_
  refine pr_s (pc1 := 18) (st1 := [.int 16, .ref 94]) rfl (fun _ => rfl) ?_
  refine pr_iald (pc1 := 19) (x := (-1)) rfl (pg_62 a2 a3 a4) rfl rfl rfl ?_
  refine pr_bt (t := 67) (off := 48) (bb := decide (((-1) : Int32) < 0)) (st1 := []) rfl rfl rfl rfl (by decide) ?_
  refine pr_s (pc1 := 70) (lv1 := [(2, .int 17), (1, .int 0), (0, .ref 92)]) (st1 := []) rfl (fun _ => rfl) ?_
  refine pr_s (pc1 := 4) (st1 := []) rfl (fun _ => rfl) ?_
  refine pr_s (pc1 := 5) (st1 := [.int 17]) rfl (fun _ => rfl) ?_
  refine pr_s (pc1 := 7) (st1 := [.int 48, .int 17]) rfl (fun _ => rfl) ?_
  refine pr_bf (t := 73) (off := 66) (bb := decide ((48 : Int32) ≤ (17 : Int32))) (st1 := []) rfl rfl rfl rfl (by decide) ?_
  refine pr_s (pc1 := 11) (st1 := [.ref 92]) rfl (fun _ => rfl) ?_
  refine pr_getf (pc1 := 14) (v := .ref 93) rfl rfl (pg_48 a2 a3 a4) rfl rfl ?_
  refine pr_getf (pc1 := 17) (v := .ref 94) rfl rfl (pg_49 a2 a3 a4) rfl rfl ?_
  refine pr_s (pc1 := 18) (st1 := [.int 17, .ref 94]) rfl (fun _ => rfl) ?_
  refine pr_iald (pc1 := 19) (x := (-1)) rfl (pg_62 a2 a3 a4) rfl rfl rfl ?_
  refine pr_bt (t := 67) (off := 48) (bb := decide (((-1) : Int32) < 0)) (st1 := []) rfl rfl rfl rfl (by decide) ?_
  refine pr_s (pc1 := 70) (lv1 := [(2, .int 18), (1, .int 0), (0, .ref 92)]) (st1 := []) rfl (fun _ => rfl) ?_
  refine pr_s (pc1 := 4) (st1 := []) rfl (fun _ => rfl) ?_
  refine pr_s (pc1 := 5) (st1 := [.int 18]) rfl (fun _ => rfl) ?_
  refine pr_s (pc1 := 7) (st1 := [.int 48, .int 18]) rfl (fun _ => rfl) ?_
  refine pr_bf (t := 73) (off := 66) (bb := decide ((48 : Int32) ≤ (18 : Int32))) (st1 := []) rfl rfl rfl rfl (by decide) ?_
  refine pr_s (pc1 := 11) (st1 := [.ref 92]) rfl (fun _ => rfl) ?_
  refine pr_getf (pc1 := 14) (v := .ref 93) rfl rfl (pg_48 a2 a3 a4) rfl rfl ?_
  refine pr_getf (pc1 := 17) (v := .ref 94) rfl rfl (pg_49 a2 a3 a4) rfl rfl ?_
  refine pr_s (pc1 := 18) (st1 := [.int 18, .ref 94]) rfl (fun _ => rfl) ?_
  refine pr_iald (pc1 := 19) (x := (-1)) rfl (pg_62 a2 a3 a4) rfl rfl rfl ?_
  refine pr_bt (t := 67) (off := 48) (bb := decide (((-1) : Int32) < 0)) (st1 := []) rfl rfl rfl rfl (by decide) ?_
  refine pr_s (pc1 := 70) (lv1 := [(2, .int 19), (1, .int 0), (0, .ref 92)]) (st1 := []) rfl (fun _ => rfl) ?_
  refine pr_s (pc1 := 4) (st1 := []) rfl (fun _ => rfl) ?_
  refine pr_s (pc1 := 5) (st1 := [.int 19]) rfl (fun _ => rfl) ?_
  refine pr_s (pc1 := 7) (st1 := [.int 48, .int 19]) rfl (fun _ => rfl) ?_
  refine pr_bf (t := 73) (off := 66) (bb := decide ((48 : Int32) ≤ (19 : Int32))) (st1 := []) rfl rfl rfl rfl (by decide) ?_
  refine pr_s (pc1 := 11) (st1 := [.ref 92]) rfl (fun _ => rfl) ?_
  refine pr_getf (pc1 := 14) (v := .ref 93) rfl rfl (pg_48 a2 a3 a4) rfl rfl ?_
  refine pr_getf (pc1 := 17) (v := .ref 94) rfl rfl (pg_49 a2 a3 a4) rfl rfl ?_
  refine pr_s (pc1 := 18) (st1 := [.int 19, .ref 94]) rfl (fun _ => rfl) ?_
  refine pr_iald (pc1 := 19) (x := (-1)) rfl (pg_62 a2 a3 a4) rfl rfl rfl ?_
  refine pr_bt (t := 67) (off := 48) (bb := decide (((-1) : Int32) < 0)) (st1 := []) rfl rfl rfl rfl (by decide) ?_
  refine pr_s (pc1 := 70) (lv1 := [(2, .int 20), (1, .int 0), (0, .ref 92)]) (st1 := []) rfl (fun _ => rfl) ?_
  refine pr_s (pc1 := 4) (st1 := []) rfl (fun _ => rfl) ?_
  refine pr_s (pc1 := 5) (st1 := [.int 20]) rfl (fun _ => rfl) ?_
  refine pr_s (pc1 := 7) (st1 := [.int 48, .int 20]) rfl (fun _ => rfl) ?_
  refine pr_bf (t := 73) (off := 66) (bb := decide ((48 : Int32) ≤ (20 : Int32))) (st1 := []) rfl rfl rfl rfl (by decide) ?_
  refine pr_s (pc1 := 11) (st1 := [.ref 92]) rfl (fun _ => rfl) ?_
  refine pr_getf (pc1 := 14) (v := .ref 93) rfl rfl (pg_48 a2 a3 a4) rfl rfl ?_
  refine pr_getf (pc1 := 17) (v := .ref 94) rfl rfl (pg_49 a2 a3 a4) rfl rfl ?_
  refine pr_s (pc1 := 18) (st1 := [.int 20, .ref 94]) rfl (fun _ => rfl) ?_
  refine pr_iald (pc1 := 19) (x := (-1)) rfl (pg_62 a2 a3 a4) rfl rfl rfl ?_
  refine pr_bt (t := 67) (off := 48) (bb := decide (((-1) : Int32) < 0)) (st1 := []) rfl rfl rfl rfl (by decide) ?_
  refine pr_s (pc1 := 70) (lv1 := [(2, .int 21), (1, .int 0), (0, .ref 92)]) (st1 := []) rfl (fun _ => rfl) ?_
  refine pr_s (pc1 := 4) (st1 := []) rfl (fun _ => rfl) ?_
  refine pr_s (pc1 := 5) (st1 := [.int 21]) rfl (fun _ => rfl) ?_
  refine pr_s (pc1 := 7) (st1 := [.int 48, .int 21]) rfl (fun _ => rfl) ?_
  refine pr_bf (t := 73) (off := 66) (bb := decide ((48 : Int32) ≤ (21 : Int32))) (st1 := []) rfl rfl rfl rfl (by decide) ?_
  refine pr_s (pc1 := 11) (st1 := [.ref 92]) rfl (fun _ => rfl) ?_
  refine pr_getf (pc1 := 14) (v := .ref 93) rfl rfl (pg_48 a2 a3 a4) rfl rfl ?_
  refine pr_getf (pc1 := 17) (v := .ref 94) rfl rfl (pg_49 a2 a3 a4) rfl rfl ?_
  refine pr_s (pc1 := 18) (st1 := [.int 21, .ref 94]) rfl (fun _ => rfl) ?_
  refine pr_iald (pc1 := 19) (x := (-1)) rfl (pg_62 a2 a3 a4) rfl rfl rfl ?_
  refine pr_bt (t := 67) (off := 48) (bb := decide (((-1) : Int32) < 0)) (st1 := []) rfl rfl rfl rfl (by decide) ?_
  refine pr_s (pc1 := 70) (lv1 := [(2, .int 22), (1, .int 0), (0, .ref 92)]) (st1 := []) rfl (fun _ => rfl) ?_
  refine pr_s (pc1 := 4) (st1 := []) rfl (fun _ => rfl) ?_
  refine pr_s (pc1 := 5) (st1 := [.int 22]) rfl (fun _ => rfl) ?_
  refine pr_s (pc1 := 7) (st1 := [.int 48, .int 22]) rfl (fun _ => rfl) ?_
  refine pr_bf (t := 73) (off := 66) (bb := decide ((48 : Int32) ≤ (22 : Int32))) (st1 := []) rfl rfl rfl rfl (by decide) ?_
  refine pr_s (pc1 := 11) (st1 := [.ref 92]) rfl (fun _ => rfl) ?_
  refine pr_getf (pc1 := 14) (v := .ref 93) rfl rfl (pg_48 a2 a3 a4) rfl rfl ?_
  refine pr_getf (pc1 := 17) (v := .ref 94) rfl rfl (pg_49 a2 a3 a4) rfl rfl ?_
  refine pr_s (pc1 := 18) (st1 := [.int 22, .ref 94]) rfl (fun _ => rfl) ?_
  refine pr_iald (pc1 := 19) (x := (-1)) rfl (pg_62 a2 a3 a4) rfl rfl rfl ?_
  refine pr_bt (t := 67) (off := 48) (bb := decide (((-1) : Int32) < 0)) (st1 := []) rfl rfl rfl rfl (by decide) ?_
  refine pr_s (pc1 := 70) (lv1 := [(2, .int 23), (1, .int 0), (0, .ref 92)]) (st1 := []) rfl (fun _ => rfl) ?_
  refine pr_s (pc1 := 4) (st1 := []) rfl (fun _ => rfl) ?_
  refine pr_s (pc1 := 5) (st1 := [.int 23]) rfl (fun _ => rfl) ?_
  refine pr_s (pc1 := 7) (st1 := [.int 48, .int 23]) rfl (fun _ => rfl) ?_
  refine pr_bf (t := 73) (off := 66) (bb := decide ((48 : Int32) ≤ (23 : Int32))) (st1 := []) rfl rfl rfl rfl (by decide) ?_
  refine pr_s (pc1 := 11) (st1 := [.ref 92]) rfl (fun _ => rfl) ?_
  refine pr_getf (pc1 := 14) (v := .ref 93) rfl rfl (pg_48 a2 a3 a4) rfl rfl ?_
  refine pr_getf (pc1 := 17) (v := .ref 94) rfl rfl (pg_49 a2 a3 a4) rfl rfl ?_
  refine pr_s (pc1 := 18) (st1 := [.int 23, .ref 94]) rfl (fun _ => rfl) ?_
  refine pr_iald (pc1 := 19) (x := (-1)) rfl (pg_62 a2 a3 a4) rfl rfl rfl ?_
  refine pr_bt (t := 67) (off := 48) (bb := decide (((-1) : Int32) < 0)) (st1 := []) rfl rfl rfl rfl (by decide) ?_
  refine pr_s (pc1 := 70) (lv1 := [(2, .int 24), (1, .int 0), (0, .ref 92)]) (st1 := []) rfl (fun _ => rfl) ?_
  refine pr_s (pc1 := 4) (st1 := []) rfl (fun _ => rfl) ?_
  refine pr_s (pc1 := 5) (st1 := [.int 24]) rfl (fun _ => rfl) ?_
  refine pr_s (pc1 := 7) (st1 := [.int 48, .int 24]) rfl (fun _ => rfl) ?_
  refine pr_bf (t := 73) (off := 66) (bb := decide ((48 : Int32) ≤ (24 : Int32))) (st1 := []) rfl rfl rfl rfl (by decide) ?_
  refine pr_s (pc1 := 11) (st1 := [.ref 92]) rfl (fun _ => rfl) ?_
  refine pr_getf (pc1 := 14) (v := .ref 93) rfl rfl (pg_48 a2 a3 a4) rfl rfl ?_
  refine pr_getf (pc1 := 17) (v := .ref 94) rfl rfl (pg_49 a2 a3 a4) rfl rfl ?_
  refine pr_s (pc1 := 18) (st1 := [.int 24, .ref 94]) rfl (fun _ => rfl) ?_
  refine pr_iald (pc1 := 19) (x := (-1)) rfl (pg_62 a2 a3 a4) rfl rfl rfl ?_
  refine pr_bt (t := 67) (off := 48) (bb := decide (((-1) : Int32) < 0)) (st1 := []) rfl rfl rfl rfl (by decide) ?_
  refine pr_s (pc1 := 70) (lv1 := [(2, .int 25), (1, .int 0), (0, .ref 92)]) (st1 := []) rfl (fun _ => rfl) ?_
  refine pr_s (pc1 := 4) (st1 := []) rfl (fun _ => rfl) ?_
  refine pr_s (pc1 := 5) (st1 := [.int 25]) rfl (fun _ => rfl) ?_
  refine pr_s (pc1 := 7) (st1 := [.int 48, .int 25]) rfl (fun _ => rfl) ?_
  refine pr_bf (t := 73) (off := 66) (bb := decide ((48 : Int32) ≤ (25 : Int32))) (st1 := []) rfl rfl rfl rfl (by decide) ?_
  refine pr_s (pc1 := 11) (st1 := [.ref 92]) rfl (fun _ => rfl) ?_
  refine pr_getf (pc1 := 14) (v := .ref 93) rfl rfl (pg_48 a2 a3 a4) rfl rfl ?_
  refine pr_getf (pc1 := 17) (v := .ref 94) rfl rfl (pg_49 a2 a3 a4) rfl rfl ?_
  refine pr_s (pc1 := 18) (st1 := [.int 25, .ref 94]) rfl (fun _ => rfl) ?_
  refine pr_iald (pc1 := 19) (x := (-1)) rfl (pg_62 a2 a3 a4) rfl rfl rfl ?_
  refine pr_bt (t := 67) (off := 48) (bb := decide (((-1) : Int32) < 0)) (st1 := []) rfl rfl rfl rfl (by decide) ?_
  refine pr_s (pc1 := 70) (lv1 := [(2, .int 26), (1, .int 0), (0, .ref 92)]) (st1 := []) rfl (fun _ => rfl) ?_
  refine pr_s (pc1 := 4) (st1 := []) rfl (fun _ => rfl) ?_
  refine pr_s (pc1 := 5) (st1 := [.int 26]) rfl (fun _ => rfl) ?_
  refine pr_s (pc1 := 7) (st1 := [.int 48, .int 26]) rfl (fun _ => rfl) ?_
  refine pr_bf (t := 73) (off := 66) (bb := decide ((48 : Int32) ≤ (26 : Int32))) (st1 := []) rfl rfl rfl rfl (by decide) ?_
  refine pr_s (pc1 := 11) (st1 := [.ref 92]) rfl (fun _ => rfl) ?_
  refine pr_getf (pc1 := 14) (v := .ref 93) rfl rfl (pg_48 a2 a3 a4) rfl rfl ?_
  refine pr_getf (pc1 := 17) (v := .ref 94) rfl rfl (pg_49 a2 a3 a4) rfl rfl ?_
  refine pr_s (pc1 := 18) (st1 := [.int 26, .ref 94]) rfl (fun _ => rfl) ?_
  refine pr_iald (pc1 := 19) (x := (-1)) rfl (pg_62 a2 a3 a4) rfl rfl rfl ?_
  refine pr_bt (t := 67) (off := 48) (bb := decide (((-1) : Int32) < 0)) (st1 := []) rfl rfl rfl rfl (by decide) ?_
  refine pr_s (pc1 := 70) (lv1 := [(2, .int 27), (1, .int 0), (0, .ref 92)]) (st1 := []) rfl (fun _ => rfl) ?_
  refine pr_s (pc1 := 4) (st1 := []) rfl (fun _ => rfl) ?_
  refine pr_s (pc1 := 5) (st1 := [.int 27]) rfl (fun _ => rfl) ?_
  refine pr_s (pc1 := 7) (st1 := [.int 48, .int 27]) rfl (fun _ => rfl) ?_
  refine pr_bf (t := 73) (off := 66) (bb := decide ((48 : Int32) ≤ (27 : Int32))) (st1 := []) rfl rfl rfl rfl (by decide) ?_
  refine pr_s (pc1 := 11) (st1 := [.ref 92]) rfl (fun _ => rfl) ?_
  refine pr_getf (pc1 := 14) (v := .ref 93) rfl rfl (pg_48 a2 a3 a4) rfl rfl ?_
  refine pr_getf (pc1 := 17) (v := .ref 94) rfl rfl (pg_49 a2 a3 a4) rfl rfl ?_
  refine pr_s (pc1 := 18) (st1 := [.int 27, .ref 94]) rfl (fun _ => rfl) ?_
  refine pr_iald (pc1 := 19) (x := (-1)) rfl (pg_62 a2 a3 a4) rfl rfl rfl ?_
  refine pr_bt (t := 67) (off := 48) (bb := decide (((-1) : Int32) < 0)) (st1 := []) rfl rfl rfl rfl (by decide) ?_
  refine pr_s (pc1 := 70) (lv1 := [(2, .int 28), (1, .int 0), (0, .ref 92)]) (st1 := []) rfl (fun _ => rfl) ?_
  refine pr_s (pc1 := 4) (st1 := []) rfl (fun _ => rfl) ?_
  refine pr_s (pc1 := 5) (st1 := [.int 28]) rfl (fun _ => rfl) ?_
  refine pr_s (pc1 := 7) (st1 := [.int 48, .int 28]) rfl (fun _ => rfl) ?_
  refine pr_bf (t := 73) (off := 66) (bb := decide ((48 : Int32) ≤ (28 : Int32))) (st1 := []) rfl rfl rfl rfl (by decide) ?_
  refine pr_s (pc1 := 11) (st1 := [.ref 92]) rfl (fun _ => rfl) ?_
  refine pr_getf (pc1 := 14) (v := .ref 93) rfl rfl (pg_48 a2 a3 a4) rfl rfl ?_
  refine pr_getf (pc1 := 17) (v := .ref 94) rfl rfl (pg_49 a2 a3 a4) rfl rfl ?_
  refine pr_s (pc1 := 18) (st1 := [.int 28, .ref 94]) rfl (fun _ => rfl) ?_
  refine pr_iald (pc1 := 19) (x := (-1)) rfl (pg_62 a2 a3 a4) rfl rfl rfl ?_
  refine pr_bt (t := 67) (off := 48) (bb := decide (((-1) : Int32) < 0)) (st1 := []) rfl rfl rfl rfl (by decide) ?_
  refine pr_s (pc1 := 70) (lv1 := [(2, .int 29), (1, .int 0), (0, .ref 92)]) (st1 := []) rfl (fun _ => rfl) ?_
  refine pr_s (pc1 := 4) (st1 := []) rfl (fun _ => rfl) ?_
  refine pr_s (pc1 := 5) (st1 := [.int 29]) rfl (fun _ => rfl) ?_
  refine pr_s (pc1 := 7) (st1 := [.int 48, .int 29]) rfl (fun _ => rfl) ?_
  refine pr_bf (t := 73) (off := 66) (bb := decide ((48 : Int32) ≤ (29 : Int32))) (st1 := []) rfl rfl rfl rfl (by decide) ?_
  refine pr_s (pc1 := 11) (st1 := [.ref 92]) rfl (fun _ => rfl) ?_
  refine pr_getf (pc1 := 14) (v := .ref 93) rfl rfl (pg_48 a2 a3 a4) rfl rfl ?_
  refine pr_getf (pc1 := 17) (v := .ref 94) rfl rfl (pg_49 a2 a3 a4) rfl rfl ?_
  refine pr_s (pc1 := 18) (st1 := [.int 29, .ref 94]) rfl (fun _ => rfl) ?_
  refine pr_iald (pc1 := 19) (x := (-1)) rfl (pg_62 a2 a3 a4) rfl rfl rfl ?_
  refine pr_bt (t := 67) (off := 48) (bb := decide (((-1) : Int32) < 0)) (st1 := []) rfl rfl rfl rfl (by decide) ?_
  refine pr_s (pc1 := 70) (lv1 := [(2, .int 30), (1, .int 0), (0, .ref 92)]) (st1 := []) rfl (fun _ => rfl) ?_
  refine pr_s (pc1 := 4) (st1 := []) rfl (fun _ => rfl) ?_
  refine pr_s (pc1 := 5) (st1 := [.int 30]) rfl (fun _ => rfl) ?_
  refine pr_s (pc1 := 7) (st1 := [.int 48, .int 30]) rfl (fun _ => rfl) ?_
  refine pr_bf (t := 73) (off := 66) (bb := decide ((48 : Int32) ≤ (30 : Int32))) (st1 := []) rfl rfl rfl rfl (by decide) ?_
  refine pr_s (pc1 := 11) (st1 := [.ref 92]) rfl (fun _ => rfl) ?_
  refine pr_getf (pc1 := 14) (v := .ref 93) rfl rfl (pg_48 a2 a3 a4) rfl rfl ?_
  refine pr_getf (pc1 := 17) (v := .ref 94) rfl rfl (pg_49 a2 a3 a4) rfl rfl ?_
  refine pr_s (pc1 := 18) (st1 := [.int 30, .ref 94]) rfl (fun _ => rfl) ?_
  refine pr_iald (pc1 := 19) (x := (-1)) rfl (pg_62 a2 a3 a4) rfl rfl rfl ?_
  refine pr_bt (t := 67) (off := 48) (bb := decide (((-1) : Int32) < 0)) (st1 := []) rfl rfl rfl rfl (by decide) ?_
  refine pr_s (pc1 := 70) (lv1 := [(2, .int 31), (1, .int 0), (0, .ref 92)]) (st1 := []) rfl (fun _ => rfl) ?_
  refine pr_s (pc1 := 4) (st1 := []) rfl (fun _ => rfl) ?_
  refine pr_s (pc1 := 5) (st1 := [.int 31]) rfl (fun _ => rfl) ?_
  refine pr_s (pc1 := 7) (st1 := [.int 48, .int 31]) rfl (fun _ => rfl) ?_
  refine pr_bf (t := 73) (off := 66) (bb := decide ((48 : Int32) ≤ (31 : Int32))) (st1 := []) rfl rfl rfl rfl (by decide) ?_
  refine pr_s (pc1 := 11) (st1 := [.ref 92]) rfl (fun _ => rfl) ?_
  refine pr_getf (pc1 := 14) (v := .ref 93) rfl rfl (pg_48 a2 a3 a4) rfl rfl ?_
  refine pr_getf (pc1 := 17) (v := .ref 94) rfl rfl (pg_49 a2 a3 a4) rfl rfl ?_
  refine pr_s (pc1 := 18) (st1 := [.int 31, .ref 94]) rfl (fun _ => rfl) ?_
  refine pr_iald (pc1 := 19) (x := (-1)) rfl (pg_62 a2 a3 a4) rfl rfl rfl ?_
  refine pr_bt (t := 67) (off := 48) (bb := decide (((-1) : Int32) < 0)) (st1 := []) rfl rfl rfl rfl (by decide) ?_
  refine pr_s (pc1 := 70) (lv1 := [(2, .int 32), (1, .int 0), (0, .ref 92)]) (st1 := []) rfl (fun _ => rfl) ?_
  refine pr_s (pc1 := 4) (st1 := []) rfl (fun _ => rfl) ?_
  refine pr_s (pc1 := 5) (st1 := [.int 32]) rfl (fun _ => rfl) ?_
  refine pr_s (pc1 := 7) (st1 := [.int 48, .int 32]) rfl (fun _ => rfl) ?_
  refine pr_bf (t := 73) (off := 66) (bb := decide ((48 : Int32) ≤ (32 : Int32))) (st1 := []) rfl rfl rfl rfl (by decide) ?_
  refine pr_s (pc1 := 11) (st1 := [.ref 92]) rfl (fun _ => rfl) ?_
  refine pr_getf (pc1 := 14) (v := .ref 93) rfl rfl (pg_48 a2 a3 a4) rfl rfl ?_
  refine pr_getf (pc1 := 17) (v := .ref 94) rfl rfl (pg_49 a2 a3 a4) rfl rfl ?_
  refine pr_s (pc1 := 18) (st1 := [.int 32, .ref 94]) rfl (fun _ => rfl) ?_
  refine pr_iald (pc1 := 19) (x := (-1)) rfl (pg_62 a2 a3 a4) rfl rfl rfl ?_
  refine pr_bt (t := 67) (off := 48) (bb := decide (((-1) : Int32) < 0)) (st1 := []) rfl rfl rfl rfl (by decide) ?_
  refine pr_s (pc1 := 70) (lv1 := [(2, .int 33), (1, .int 0), (0, .ref 92)]) (st1 := []) rfl (fun _ => rfl) ?_
  refine pr_s (pc1 := 4) (st1 := []) rfl (fun _ => rfl) ?_
  refine pr_s (pc1 := 5) (st1 := [.int 33]) rfl (fun _ => rfl) ?_
  refine pr_s (pc1 := 7) (st1 := [.int 48, .int 33]) rfl (fun _ => rfl) ?_
  refine pr_bf (t := 73) (off := 66) (bb := decide ((48 : Int32) ≤ (33 : Int32))) (st1 := []) rfl rfl rfl rfl (by decide) ?_
  refine pr_s (pc1 := 11) (st1 := [.ref 92]) rfl (fun _ => rfl) ?_
  refine pr_getf (pc1 := 14) (v := .ref 93) rfl rfl (pg_48 a2 a3 a4) rfl rfl ?_
  refine pr_getf (pc1 := 17) (v := .ref 94) rfl rfl (pg_49 a2 a3 a4) rfl rfl ?_
  refine pr_s (pc1 := 18) (st1 := [.int 33, .ref 94]) rfl (fun _ => rfl) ?_
  refine pr_iald (pc1 := 19) (x := (-1)) rfl (pg_62 a2 a3 a4) rfl rfl rfl ?_
  refine pr_bt (t := 67) (off := 48) (bb := decide (((-1) : Int32) < 0)) (st1 := []) rfl rfl rfl rfl (by decide) ?_
  refine pr_s (pc1 := 70) (lv1 := [(2, .int 34), (1, .int 0), (0, .ref 92)]) (st1 := []) rfl (fun _ => rfl) ?_
  refine pr_s (pc1 := 4) (st1 := []) rfl (fun _ => rfl) ?_
  refine pr_s (pc1 := 5) (st1 := [.int 34]) rfl (fun _ => rfl) ?_
  refine pr_s (pc1 := 7) (st1 := [.int 48, .int 34]) rfl (fun _ => rfl) ?_
  refine pr_bf (t := 73) (off := 66) (bb := decide ((48 : Int32) ≤ (34 : Int32))) (st1 := []) rfl rfl rfl rfl (by decide) ?_
  refine pr_s (pc1 := 11) (st1 := [.ref 92]) rfl (fun _ => rfl) ?_
  refine pr_getf (pc1 := 14) (v := .ref 93) rfl rfl (pg_48 a2 a3 a4) rfl rfl ?_
  refine pr_getf (pc1 := 17) (v := .ref 94) rfl rfl (pg_49 a2 a3 a4) rfl rfl ?_
  refine pr_s (pc1 := 18) (st1 := [.int 34, .ref 94]) rfl (fun _ => rfl) ?_
  refine pr_iald (pc1 := 19) (x := (-1)) rfl (pg_62 a2 a3 a4) rfl rfl rfl ?_
  refine pr_bt (t := 67) (off := 48) (bb := decide (((-1) : Int32) < 0)) (st1 := []) rfl rfl rfl rfl (by decide) ?_
  refine pr_s (pc1 := 70) (lv1 := [(2, .int 35), (1, .int 0), (0, .ref 92)]) (st1 := []) rfl (fun _ => rfl) ?_
  refine pr_s (pc1 := 4) (st1 := []) rfl (fun _ => rfl) ?_
  refine pr_s (pc1 := 5) (st1 := [.int 35]) rfl (fun _ => rfl) ?_
  refine pr_s (pc1 := 7) (st1 := [.int 48, .int 35]) rfl (fun _ => rfl) ?_
  refine pr_bf (t := 73) (off := 66) (bb := decide ((48 : Int32) ≤ (35 : Int32))) (st1 := []) rfl rfl rfl rfl (by decide) ?_
  refine pr_s (pc1 := 11) (st1 := [.ref 92]) rfl (fun _ => rfl) ?_
  refine pr_getf (pc1 := 14) (v := .ref 93) rfl rfl (pg_48 a2 a3 a4) rfl rfl ?_
  refine pr_getf (pc1 := 17) (v := .ref 94) rfl rfl (pg_49 a2 a3 a4) rfl rfl ?_
  refine pr_s (pc1 := 18) (st1 := [.int 35, .ref 94]) rfl (fun _ => rfl) ?_
  refine pr_iald (pc1 := 19) (x := (-1)) rfl (pg_62 a2 a3 a4) rfl rfl rfl ?_
  refine pr_bt (t := 67) (off := 48) (bb := decide (((-1) : Int32) < 0)) (st1 := []) rfl rfl rfl rfl (by decide) ?_
  refine pr_s (pc1 := 70) (lv1 := [(2, .int 36), (1, .int 0), (0, .ref 92)]) (st1 := []) rfl (fun _ => rfl) ?_
  refine pr_s (pc1 := 4) (st1 := []) rfl (fun _ => rfl) ?_
  refine pr_s (pc1 := 5) (st1 := [.int 36]) rfl (fun _ => rfl) ?_
  refine pr_s (pc1 := 7) (st1 := [.int 48, .int 36]) rfl (fun _ => rfl) ?_
  refine pr_bf (t := 73) (off := 66) (bb := decide ((48 : Int32) ≤ (36 : Int32))) (st1 := []) rfl rfl rfl rfl (by decide) ?_
  refine pr_s (pc1 := 11) (st1 := [.ref 92]) rfl (fun _ => rfl) ?_
  refine pr_getf (pc1 := 14) (v := .ref 93) rfl rfl (pg_48 a2 a3 a4) rfl rfl ?_
  refine pr_getf (pc1 := 17) (v := .ref 94) rfl rfl (pg_49 a2 a3 a4) rfl rfl ?_
  refine pr_s (pc1 := 18) (st1 := [.int 36, .ref 94]) rfl (fun _ => rfl) ?_
  refine pr_iald (pc1 := 19) (x := (-1)) rfl (pg_62 a2 a3 a4) rfl rfl rfl ?_
  refine pr_bt (t := 67) (off := 48) (bb := decide (((-1) : Int32) < 0)) (st1 := []) rfl rfl rfl rfl (by decide) ?_
  refine pr_s (pc1 := 70) (lv1 := [(2, .int 37), (1, .int 0), (0, .ref 92)]) (st1 := []) rfl (fun _ => rfl) ?_
  refine pr_s (pc1 := 4) (st1 := []) rfl (fun _ => rfl) ?_
  refine pr_s (pc1 := 5) (st1 := [.int 37]) rfl (fun _ => rfl) ?_
  refine pr_s (pc1 := 7) (st1 := [.int 48, .int 37]) rfl (fun _ => rfl) ?_
  refine pr_bf (t := 73) (off := 66) (bb := decide ((48 : Int32) ≤ (37 : Int32))) (st1 := []) rfl rfl rfl rfl (by decide) ?_
  refine pr_s (pc1 := 11) (st1 := [.ref 92]) rfl (fun _ => rfl) ?_
  refine pr_getf (pc1 := 14) (v := .ref 93) rfl rfl (pg_48 a2 a3 a4) rfl rfl ?_
  refine pr_getf (pc1 := 17) (v := .ref 94) rfl rfl (pg_49 a2 a3 a4) rfl rfl ?_
  refine pr_s (pc1 := 18) (st1 := [.int 37, .ref 94]) rfl (fun _ => rfl) ?_
  refine pr_iald (pc1 := 19) (x := (-1)) rfl (pg_62 a2 a3 a4) rfl rfl rfl ?_
  refine pr_bt (t := 67) (off := 48) (bb := decide (((-1) : Int32) < 0)) (st1 := []) rfl rfl rfl rfl (by decide) ?_
  refine pr_s (pc1 := 70) (lv1 := [(2, .int 38), (1, .int 0), (0, .ref 92)]) (st1 := []) rfl (fun _ => rfl) ?_
  refine pr_s (pc1 := 4) (st1 := []) rfl (fun _ => rfl) ?_
  refine pr_s (pc1 := 5) (st1 := [.int 38]) rfl (fun _ => rfl) ?_
  refine pr_s (pc1 := 7) (st1 := [.int 48, .int 38]) rfl (fun _ => rfl) ?_
  refine pr_bf (t := 73) (off := 66) (bb := decide ((48 : Int32) ≤ (38 : Int32))) (st1 := []) rfl rfl rfl rfl (by decide) ?_
  refine pr_s (pc1 := 11) (st1 := [.ref 92]) rfl (fun _ => rfl) ?_
  refine pr_getf (pc1 := 14) (v := .ref 93) rfl rfl (pg_48 a2 a3 a4) rfl rfl ?_
  refine pr_getf (pc1 := 17) (v := .ref 94) rfl rfl (pg_49 a2 a3 a4) rfl rfl ?_
  refine pr_s (pc1 := 18) (st1 := [.int 38, .ref 94]) rfl (fun _ => rfl) ?_
  refine pr_iald (pc1 := 19) (x := (-1)) rfl (pg_62 a2 a3 a4) rfl rfl rfl ?_
  refine pr_bt (t := 67) (off := 48) (bb := decide (((-1) : Int32) < 0)) (st1 := []) rfl rfl rfl rfl (by decide) ?_
  refine pr_s (pc1 := 70) (lv1 := [(2, .int 39), (1, .int 0), (0, .ref 92)]) (st1 := []) rfl (fun _ => rfl) ?_
  refine pr_s (pc1 := 4) (st1 := []) rfl (fun _ => rfl) ?_
  refine pr_s (pc1 := 5) (st1 := [.int 39]) rfl (fun _ => rfl) ?_
  refine pr_s (pc1 := 7) (st1 := [.int 48, .int 39]) rfl (fun _ => rfl) ?_
  refine pr_bf (t := 73) (off := 66) (bb := decide ((48 : Int32) ≤ (39 : Int32))) (st1 := []) rfl rfl rfl rfl (by decide) ?_
  refine pr_s (pc1 := 11) (st1 := [.ref 92]) rfl (fun _ => rfl) ?_
  refine pr_getf (pc1 := 14) (v := .ref 93) rfl rfl (pg_48 a2 a3 a4) rfl rfl ?_
  refine pr_getf (pc1 := 17) (v := .ref 94) rfl rfl (pg_49 a2 a3 a4) rfl rfl ?_
  refine pr_s (pc1 := 18) (st1 := [.int 39, .ref 94]) rfl (fun _ => rfl) ?_
  refine pr_iald (pc1 := 19) (x := (-1)) rfl (pg_62 a2 a3 a4) rfl rfl rfl ?_
  refine pr_bt (t := 67) (off := 48) (bb := decide (((-1) : Int32) < 0)) (st1 := []) rfl rfl rfl rfl (by decide) ?_
  refine pr_s (pc1 := 70) (lv1 := [(2, .int 40), (1, .int 0), (0, .ref 92)]) (st1 := []) rfl (fun _ => rfl) ?_
  refine pr_s (pc1 := 4) (st1 := []) rfl (fun _ => rfl) ?_
  refine pr_s (pc1 := 5) (st1 := [.int 40]) rfl (fun _ => rfl) ?_
  refine pr_s (pc1 := 7) (st1 := [.int 48, .int 40]) rfl (fun _ => rfl) ?_
  refine pr_bf (t := 73) (off := 66) (bb := decide ((48 : Int32) ≤ (40 : Int32))) (st1 := []) rfl rfl rfl rfl (by decide) ?_
  refine pr_s (pc1 := 11) (st1 := [.ref 92]) rfl (fun _ => rfl) ?_
  refine pr_getf (pc1 := 14) (v := .ref 93) rfl rfl (pg_48 a2 a3 a4) rfl rfl ?_
  refine pr_getf (pc1 := 17) (v := .ref 94) rfl rfl (pg_49 a2 a3 a4) rfl rfl ?_
  refine pr_s (pc1 := 18) (st1 := [.int 40, .ref 94]) rfl (fun _ => rfl) ?_
  refine pr_iald (pc1 := 19) (x := (-1)) rfl (pg_62 a2 a3 a4) rfl rfl rfl ?_
  refine pr_bt (t := 67) (off := 48) (bb := decide (((-1) : Int32) < 0)) (st1 := []) rfl rfl rfl rfl (by decide) ?_
  refine pr_s (pc1 := 70) (lv1 := [(2, .int 41), (1, .int 0), (0, .ref 92)]) (st1 := []) rfl (fun _ => rfl) ?_
  refine pr_s (pc1 := 4) (st1 := []) rfl (fun _ => rfl) ?_
  refine pr_s (pc1 := 5) (st1 := [.int 41]) rfl (fun _ => rfl) ?_
  refine pr_s (pc1 := 7) (st1 := [.int 48, .int 41]) rfl (fun _ => rfl) ?_
  refine pr_bf (t := 73) (off := 66) (bb := decide ((48 : Int32) ≤ (41 : Int32))) (st1 := []) rfl rfl rfl rfl (by decide) ?_
  refine pr_s (pc1 := 11) (st1 := [.ref 92]) rfl (fun _ => rfl) ?_
  refine pr_getf (pc1 := 14) (v := .ref 93) rfl rfl (pg_48 a2 a3 a4) rfl rfl ?_
  refine pr_getf (pc1 := 17) (v := .ref 94) rfl rfl (pg_49 a2 a3 a4) rfl rfl ?_
  refine pr_s (pc1 := 18) (st1 := [.int 41, .ref 94]) rfl (fun _ => rfl) ?_
  refine pr_iald (pc1 := 19) (x := (-1)) rfl (pg_62 a2 a3 a4) rfl rfl rfl ?_
  refine pr_bt (t := 67) (off := 48) (bb := decide (((-1) : Int32) < 0)) (st1 := []) rfl rfl rfl rfl (by decide) ?_
  refine pr_s (pc1 := 70) (lv1 := [(2, .int 42), (1, .int 0), (0, .ref 92)]) (st1 := []) rfl (fun _ => rfl) ?_
  refine pr_s (pc1 := 4) (st1 := []) rfl (fun _ => rfl) ?_
  refine pr_s (pc1 := 5) (st1 := [.int 42]) rfl (fun _ => rfl) ?_
  refine pr_s (pc1 := 7) (st1 := [.int 48, .int 42]) rfl (fun _ => rfl) ?_
  refine pr_bf (t := 73) (off := 66) (bb := decide ((48 : Int32) ≤ (42 : Int32))) (st1 := []) rfl rfl rfl rfl (by decide) ?_
  refine pr_s (pc1 := 11) (st1 := [.ref 92]) rfl (fun _ => rfl) ?_
  refine pr_getf (pc1 := 14) (v := .ref 93) rfl rfl (pg_48 a2 a3 a4) rfl rfl ?_
  refine pr_getf (pc1 := 17) (v := .ref 94) rfl rfl (pg_49 a2 a3 a4) rfl rfl ?_
  refine pr_s (pc1 := 18) (st1 := [.int 42, .ref 94]) rfl (fun _ => rfl) ?_
  refine pr_iald (pc1 := 19) (x := (-1)) rfl (pg_62 a2 a3 a4) rfl rfl rfl ?_
  refine pr_bt (t := 67) (off := 48) (bb := decide (((-1) : Int32) < 0)) (st1 := []) rfl rfl rfl rfl (by decide) ?_
  refine pr_s (pc1 := 70) (lv1 := [(2, .int 43), (1, .int 0), (0, .ref 92)]) (st1 := []) rfl (fun _ => rfl) ?_
  refine pr_s (pc1 := 4) (st1 := []) rfl (fun _ => rfl) ?_
  refine pr_s (pc1 := 5) (st1 := [.int 43]) rfl (fun _ => rfl) ?_
  refine pr_s (pc1 := 7) (st1 := [.int 48, .int 43]) rfl (fun _ => rfl) ?_
  refine pr_bf (t := 73) (off := 66) (bb := decide ((48 : Int32) ≤ (43 : Int32))) (st1 := []) rfl rfl rfl rfl (by decide) ?_
  refine pr_s (pc1 := 11) (st1 := [.ref 92]) rfl (fun _ => rfl) ?_
  refine pr_getf (pc1 := 14) (v := .ref 93) rfl rfl (pg_48 a2 a3 a4) rfl rfl ?_
  refine pr_getf (pc1 := 17) (v := .ref 94) rfl rfl (pg_49 a2 a3 a4) rfl rfl ?_
  refine pr_s (pc1 := 18) (st1 := [.int 43, .ref 94]) rfl (fun _ => rfl) ?_
  refine pr_iald (pc1 := 19) (x := (-1)) rfl (pg_62 a2 a3 a4) rfl rfl rfl ?_
  refine pr_bt (t := 67) (off := 48) (bb := decide (((-1) : Int32) < 0)) (st1 := []) rfl rfl rfl rfl (by decide) ?_
  refine pr_s (pc1 := 70) (lv1 := [(2, .int 44), (1, .int 0), (0, .ref 92)]) (st1 := []) rfl (fun _ => rfl) ?_
  refine pr_s (pc1 := 4) (st1 := []) rfl (fun _ => rfl) ?_
  refine pr_s (pc1 := 5) (st1 := [.int 44]) rfl (fun _ => rfl) ?_
  refine pr_s (pc1 := 7) (st1 := [.int 48, .int 44]) rfl (fun _ => rfl) ?_
  refine pr_bf (t := 73) (off := 66) (bb := decide ((48 : Int32) ≤ (44 : Int32))) (st1 := []) rfl rfl rfl rfl (by decide) ?_
  refine pr_s (pc1 := 11) (st1 := [.ref 92]) rfl (fun _ => rfl) ?_
  refine pr_getf (pc1 := 14) (v := .ref 93) rfl rfl (pg_48 a2 a3 a4) rfl rfl ?_
  refine pr_getf (pc1 := 17) (v := .ref 94) rfl rfl (pg_49 a2 a3 a4) rfl rfl ?_
  refine pr_s (pc1 := 18) (st1 := [.int 44, .ref 94]) rfl (fun _ => rfl) ?_
  refine pr_iald (pc1 := 19) (x := (-1)) rfl (pg_62 a2 a3 a4) rfl rfl rfl ?_
  refine pr_bt (t := 67) (off := 48) (bb := decide (((-1) : Int32) < 0)) (st1 := []) rfl rfl rfl rfl (by decide) ?_
  refine pr_s (pc1 := 70) (lv1 := [(2, .int 45), (1, .int 0), (0, .ref 92)]) (st1 := []) rfl (fun _ => rfl) ?_
  refine pr_s (pc1 := 4) (st1 := []) rfl (fun _ => rfl) ?_
  refine pr_s (pc1 := 5) (st1 := [.int 45]) rfl (fun _ => rfl) ?_
  refine pr_s (pc1 := 7) (st1 := [.int 48, .int 45]) rfl (fun _ => rfl) ?_
  refine pr_bf (t := 73) (off := 66) (bb := decide ((48 : Int32) ≤ (45 : Int32))) (st1 := []) rfl rfl rfl rfl (by decide) ?_
  refine pr_s (pc1 := 11) (st1 := [.ref 92]) rfl (fun _ => rfl) ?_
  refine pr_getf (pc1 := 14) (v := .ref 93) rfl rfl (pg_48 a2 a3 a4) rfl rfl ?_
  refine pr_getf (pc1 := 17) (v := .ref 94) rfl rfl (pg_49 a2 a3 a4) rfl rfl ?_
  refine pr_s (pc1 := 18) (st1 := [.int 45, .ref 94]) rfl (fun _ => rfl) ?_
  refine pr_iald (pc1 := 19) (x := (-1)) rfl (pg_62 a2 a3 a4) rfl rfl rfl ?_
  refine pr_bt (t := 67) (off := 48) (bb := decide (((-1) : Int32) < 0)) (st1 := []) rfl rfl rfl rfl (by decide) ?_
  refine pr_s (pc1 := 70) (lv1 := [(2, .int 46), (1, .int 0), (0, .ref 92)]) (st1 := []) rfl (fun _ => rfl) ?_
  refine pr_s (pc1 := 4) (st1 := []) rfl (fun _ => rfl) ?_
  refine pr_s (pc1 := 5) (st1 := [.int 46]) rfl (fun _ => rfl) ?_
  refine pr_s (pc1 := 7) (st1 := [.int 48, .int 46]) rfl (fun _ => rfl) ?_
  refine pr_bf (t := 73) (off := 66) (bb := decide ((48 : Int32) ≤ (46 : Int32))) (st1 := []) rfl rfl rfl rfl (by decide) ?_
  refine pr_s (pc1 := 11) (st1 := [.ref 92]) rfl (fun _ => rfl) ?_
  refine pr_getf (pc1 := 14) (v := .ref 93) rfl rfl (pg_48 a2 a3 a4) rfl rfl ?_
  refine pr_getf (pc1 := 17) (v := .ref 94) rfl rfl (pg_49 a2 a3 a4) rfl rfl ?_
  refine pr_s (pc1 := 18) (st1 := [.int 46, .ref 94]) rfl (fun _ => rfl) ?_
  refine pr_iald (pc1 := 19) (x := (-1)) rfl (pg_62 a2 a3 a4) rfl rfl rfl ?_
  refine pr_bt (t := 67) (off := 48) (bb := decide (((-1) : Int32) < 0)) (st1 := []) rfl rfl rfl rfl (by decide) ?_
  refine pr_s (pc1 := 70) (lv1 := [(2, .int 47), (1, .int 0), (0, .ref 92)]) (st1 := []) rfl (fun _ => rfl) ?_
  refine pr_s (pc1 := 4) (st1 := []) rfl (fun _ => rfl) ?_
  refine pr_s (pc1 := 5) (st1 := [.int 47]) rfl (fun _ => rfl) ?_
  refine pr_s (pc1 := 7) (st1 := [.int 48, .int 47]) rfl (fun _ => rfl) ?_
  refine pr_bf (t := 73) (off := 66) (bb := decide ((48 : Int32) ≤ (47 : Int32))) (st1 := []) rfl rfl rfl rfl (by decide) ?_
  refine pr_s (pc1 := 11) (st1 := [.ref 92]) rfl (fun _ => rfl) ?_
  refine pr_getf (pc1 := 14) (v := .ref 93) rfl rfl (pg_48 a2 a3 a4) rfl rfl ?_
  refine pr_getf (pc1 := 17) (v := .ref 94) rfl rfl (pg_49 a2 a3 a4) rfl rfl ?_
  refine pr_s (pc1 := 18) (st1 := [.int 47, .ref 94]) rfl (fun _ => rfl) ?_
  refine pr_iald (pc1 := 19) (x := (-1)) rfl (pg_62 a2 a3 a4) rfl rfl rfl ?_
  refine pr_bt (t := 67) (off := 48) (bb := decide (((-1) : Int32) < 0)) (st1 := []) rfl rfl rfl rfl (by decide) ?_
  refine pr_s (pc1 := 70) (lv1 := [(2, .int 48), (1, .int 0), (0, .ref 92)]) (st1 := []) rfl (fun _ => rfl) ?_
  refine pr_s (pc1 := 4) (st1 := []) rfl (fun _ => rfl) ?_
  refine pr_s (pc1 := 5) (st1 := [.int 48]) rfl (fun _ => rfl) ?_
  refine pr_s (pc1 := 7) (st1 := [.int 48, .int 48]) rfl (fun _ => rfl) ?_
  refine pr_bt (t := 73) (off := 66) (bb := decide ((48 : Int32) ≤ (48 : Int32))) (st1 := []) rfl rfl rfl rfl (by decide) ?_
  refine pr_s (pc1 := 74) (st1 := [.int 0]) rfl (fun _ => rfl) ?_
  exact pr_e rfl (fun _ => rfl) ⟨rfl, rfl⟩
set_option maxRecDepth 100000 in
theorem pq_7 {sx : Option (List Int32)} (a2 a3 a4 : Int32) : px_C sx pm_X5_settle [.ref 92, .int 1] (ph_25 a2 a3 a4) 2044 83898 0 0 (fun r h' => r = .inl none ∧ h' = ph_25 a2 a3 a4) := by
  refine px_C_of rfl ?_
  refine pr_s (pc1 := 1) (st1 := [.int 1]) rfl (fun _ => rfl) ?_
  refine pr_s (pc1 := 2) (lv1 := [(2, .int 1), (0, .ref 92), (1, .int 1)]) (st1 := []) rfl (fun _ => rfl) ?_
  refine pr_s (pc1 := 3) (st1 := [.int 0]) rfl (fun _ => rfl) ?_
  refine pr_s (pc1 := 4) (lv1 := [(3, .int 0), (2, .int 1), (0, .ref 92), (1, .int 1)]) (st1 := []) rfl (fun _ => rfl) ?_
  refine pr_s (pc1 := 5) (st1 := [.int 1]) rfl (fun _ => rfl) ?_
  refine pr_bf (t := 95) (off := 90) (bb := decide ((1 : Int32) = 0)) (st1 := []) rfl rfl rfl rfl (by decide) ?_
  refine pr_s (pc1 := 9) (st1 := [.int 0]) rfl (fun _ => rfl) ?_
  refine pr_s (pc1 := 11) (st1 := [.int 48, .int 0]) rfl (fun _ => rfl) ?_
  refine pr_bf (t := 95) (off := 84) (bb := decide ((48 : Int32) < (0 : Int32))) (st1 := []) rfl rfl rfl rfl (by decide) ?_
  refine pr_s (pc1 := 15) (st1 := [.int 0]) rfl (fun _ => rfl) ?_
  refine pr_s (pc1 := 17) (lv1 := [(4, .int 0), (3, .int 0), (2, .int 1), (0, .ref 92), (1, .int 1)]) (st1 := []) rfl (fun _ => rfl) ?_
  refine pr_s (pc1 := 19) (st1 := [.int 0]) rfl (fun _ => rfl) ?_
  refine pr_s (pc1 := 21) (st1 := [.int 6, .int 0]) rfl (fun _ => rfl) ?_
  refine pr_bf (t := 84) (off := 63) (bb := decide ((6 : Int32) ≤ (0 : Int32))) (st1 := []) rfl rfl rfl rfl (by decide) ?_
  refine pr_s (pc1 := 25) (st1 := [.ref 92]) rfl (fun _ => rfl) ?_
  refine pr_getf (pc1 := 28) (v := .ref 1) rfl rfl (pg_48 a2 a3 a4) rfl rfl ?_
  refine pr_s (pc1 := 30) (st1 := [.int 0, .ref 1]) rfl (fun _ => rfl) ?_
  refine pr_aald (pc1 := 31) (v := .ref 2) rfl (pg_50 a2 a3 a4) rfl rfl rfl rfl ?_
  refine pr_getf (pc1 := 34) (v := .int 0) rfl rfl (pg_51 a2 a3 a4) rfl rfl ?_
  refine pr_bt (t := 78) (off := 44) (bb := decide ((0 : Int32) = 0)) (st1 := []) rfl rfl rfl rfl (by decide) ?_
  refine pr_s (pc1 := 81) (lv1 := [(4, .int 1), (3, .int 0), (2, .int 1), (0, .ref 92), (1, .int 1)]) (st1 := []) rfl (fun _ => rfl) ?_
  refine pr_s (pc1 := 17) (st1 := []) rfl (fun _ => rfl) ?_
  refine pr_s (pc1 := 19) (st1 := [.int 1]) rfl (fun _ => rfl) ?_
  refine pr_s (pc1 := 21) (st1 := [.int 6, .int 1]) rfl (fun _ => rfl) ?_
  refine pr_bf (t := 84) (off := 63) (bb := decide ((6 : Int32) ≤ (1 : Int32))) (st1 := []) rfl rfl rfl rfl (by decide) ?_
  refine pr_s (pc1 := 25) (st1 := [.ref 92]) rfl (fun _ => rfl) ?_
  refine pr_getf (pc1 := 28) (v := .ref 1) rfl rfl (pg_48 a2 a3 a4) rfl rfl ?_
  refine pr_s (pc1 := 30) (st1 := [.int 1, .ref 1]) rfl (fun _ => rfl) ?_
  refine pr_aald (pc1 := 31) (v := .ref 17) rfl (pg_50 a2 a3 a4) rfl rfl rfl rfl ?_
  refine pr_getf (pc1 := 34) (v := .int 0) rfl rfl (pg_53 a2 a3 a4) rfl rfl ?_
  refine pr_bt (t := 78) (off := 44) (bb := decide ((0 : Int32) = 0)) (st1 := []) rfl rfl rfl rfl (by decide) ?_
  refine pr_s (pc1 := 81) (lv1 := [(4, .int 2), (3, .int 0), (2, .int 1), (0, .ref 92), (1, .int 1)]) (st1 := []) rfl (fun _ => rfl) ?_
  refine pr_s (pc1 := 17) (st1 := []) rfl (fun _ => rfl) ?_
  refine pr_s (pc1 := 19) (st1 := [.int 2]) rfl (fun _ => rfl) ?_
  refine pr_s (pc1 := 21) (st1 := [.int 6, .int 2]) rfl (fun _ => rfl) ?_
  refine pr_bf (t := 84) (off := 63) (bb := decide ((6 : Int32) ≤ (2 : Int32))) (st1 := []) rfl rfl rfl rfl (by decide) ?_
  refine pr_s (pc1 := 25) (st1 := [.ref 92]) rfl (fun _ => rfl) ?_
  refine pr_getf (pc1 := 28) (v := .ref 1) rfl rfl (pg_48 a2 a3 a4) rfl rfl ?_
  refine pr_s (pc1 := 30) (st1 := [.int 2, .ref 1]) rfl (fun _ => rfl) ?_
  refine pr_aald (pc1 := 31) (v := .ref 32) rfl (pg_50 a2 a3 a4) rfl rfl rfl rfl ?_
  refine pr_getf (pc1 := 34) (v := .int 0) rfl rfl (pg_55 a2 a3 a4) rfl rfl ?_
  refine pr_bt (t := 78) (off := 44) (bb := decide ((0 : Int32) = 0)) (st1 := []) rfl rfl rfl rfl (by decide) ?_
  refine pr_s (pc1 := 81) (lv1 := [(4, .int 3), (3, .int 0), (2, .int 1), (0, .ref 92), (1, .int 1)]) (st1 := []) rfl (fun _ => rfl) ?_
  refine pr_s (pc1 := 17) (st1 := []) rfl (fun _ => rfl) ?_
  refine pr_s (pc1 := 19) (st1 := [.int 3]) rfl (fun _ => rfl) ?_
  refine pr_s (pc1 := 21) (st1 := [.int 6, .int 3]) rfl (fun _ => rfl) ?_
  refine pr_bf (t := 84) (off := 63) (bb := decide ((6 : Int32) ≤ (3 : Int32))) (st1 := []) rfl rfl rfl rfl (by decide) ?_
  refine pr_s (pc1 := 25) (st1 := [.ref 92]) rfl (fun _ => rfl) ?_
  refine pr_getf (pc1 := 28) (v := .ref 1) rfl rfl (pg_48 a2 a3 a4) rfl rfl ?_
  refine pr_s (pc1 := 30) (st1 := [.int 3, .ref 1]) rfl (fun _ => rfl) ?_
  refine pr_aald (pc1 := 31) (v := .ref 47) rfl (pg_50 a2 a3 a4) rfl rfl rfl rfl ?_
  refine pr_getf (pc1 := 34) (v := .int 0) rfl rfl (pg_57 a2 a3 a4) rfl rfl ?_
  refine pr_bt (t := 78) (off := 44) (bb := decide ((0 : Int32) = 0)) (st1 := []) rfl rfl rfl rfl (by decide) ?_
  refine pr_s (pc1 := 81) (lv1 := [(4, .int 4), (3, .int 0), (2, .int 1), (0, .ref 92), (1, .int 1)]) (st1 := []) rfl (fun _ => rfl) ?_
  refine pr_s (pc1 := 17) (st1 := []) rfl (fun _ => rfl) ?_
  refine pr_s (pc1 := 19) (st1 := [.int 4]) rfl (fun _ => rfl) ?_
  refine pr_s (pc1 := 21) (st1 := [.int 6, .int 4]) rfl (fun _ => rfl) ?_
  refine pr_bf (t := 84) (off := 63) (bb := decide ((6 : Int32) ≤ (4 : Int32))) (st1 := []) rfl rfl rfl rfl (by decide) ?_
  refine pr_s (pc1 := 25) (st1 := [.ref 92]) rfl (fun _ => rfl) ?_
  refine pr_getf (pc1 := 28) (v := .ref 1) rfl rfl (pg_48 a2 a3 a4) rfl rfl ?_
  refine pr_s (pc1 := 30) (st1 := [.int 4, .ref 1]) rfl (fun _ => rfl) ?_
  refine pr_aald (pc1 := 31) (v := .ref 62) rfl (pg_50 a2 a3 a4) rfl rfl rfl rfl ?_
  refine pr_getf (pc1 := 34) (v := .int 0) rfl rfl (pg_59 a2 a3 a4) rfl rfl ?_
  refine pr_bt (t := 78) (off := 44) (bb := decide ((0 : Int32) = 0)) (st1 := []) rfl rfl rfl rfl (by decide) ?_
  refine pr_s (pc1 := 81) (lv1 := [(4, .int 5), (3, .int 0), (2, .int 1), (0, .ref 92), (1, .int 1)]) (st1 := []) rfl (fun _ => rfl) ?_
  refine pr_s (pc1 := 17) (st1 := []) rfl (fun _ => rfl) ?_
  refine pr_s (pc1 := 19) (st1 := [.int 5]) rfl (fun _ => rfl) ?_
  refine pr_s (pc1 := 21) (st1 := [.int 6, .int 5]) rfl (fun _ => rfl) ?_
  refine pr_bf (t := 84) (off := 63) (bb := decide ((6 : Int32) ≤ (5 : Int32))) (st1 := []) rfl rfl rfl rfl (by decide) ?_
  refine pr_s (pc1 := 25) (st1 := [.ref 92]) rfl (fun _ => rfl) ?_
  refine pr_getf (pc1 := 28) (v := .ref 1) rfl rfl (pg_48 a2 a3 a4) rfl rfl ?_
  refine pr_s (pc1 := 30) (st1 := [.int 5, .ref 1]) rfl (fun _ => rfl) ?_
  refine pr_aald (pc1 := 31) (v := .ref 77) rfl (pg_50 a2 a3 a4) rfl rfl rfl rfl ?_
  refine pr_getf (pc1 := 34) (v := .int 0) rfl rfl (pg_61 a2 a3 a4) rfl rfl ?_
  refine pr_bt (t := 78) (off := 44) (bb := decide ((0 : Int32) = 0)) (st1 := []) rfl rfl rfl rfl (by decide) ?_
  refine pr_s (pc1 := 81) (lv1 := [(4, .int 6), (3, .int 0), (2, .int 1), (0, .ref 92), (1, .int 1)]) (st1 := []) rfl (fun _ => rfl) ?_
  refine pr_s (pc1 := 17) (st1 := []) rfl (fun _ => rfl) ?_
  refine pr_s (pc1 := 19) (st1 := [.int 6]) rfl (fun _ => rfl) ?_
  refine pr_s (pc1 := 21) (st1 := [.int 6, .int 6]) rfl (fun _ => rfl) ?_
  refine pr_bt (t := 84) (off := 63) (bb := decide ((6 : Int32) ≤ (6 : Int32))) (st1 := []) rfl rfl rfl rfl (by decide) ?_
  refine pr_s (pc1 := 85) (st1 := [.ref 92]) rfl (fun _ => rfl) ?_
  refine pr_callv (N := pm_X5_dropLoose) (as := [.ref 92]) (rest := []) (f := 2043) (l := 83876) (c1 := 0) (k1 := 0) (c2 := 0) (k2 := 0) (v := some (.int 0)) (h1 := ph_25 a2 a3 a4) rfl (fun ex => px_inv_hs ex rfl rfl rfl (pg_48 a2 a3 a4) rfl rfl rfl rfl) ?_ (Nat.le_of_ble_eq_true rfl) (Nat.le_of_ble_eq_true rfl) ?_
  · exact pq_6 a2 a3 a4
  show px_R _ _ _ _ (88, [(4, .int 6), (3, .int 0), (2, .int 1), (0, .ref 92), (1, .int 1)], [.int 0], _) _ _ _
  refine pr_s (pc1 := 89) (lv1 := [(2, .int 0), (4, .int 6), (3, .int 0), (0, .ref 92), (1, .int 1)]) (st1 := []) rfl (fun _ => rfl) ?_
  refine pr_s (pc1 := 92) (lv1 := [(3, .int 1), (2, .int 0), (4, .int 6), (0, .ref 92), (1, .int 1)]) (st1 := []) rfl (fun _ => rfl) ?_
  refine pr_s (pc1 := 4) (st1 := []) rfl (fun _ => rfl) ?_
  refine pr_s (pc1 := 5) (st1 := [.int 0]) rfl (fun _ => rfl) ?_
  refine pr_bt (t := 95) (off := 90) (bb := decide ((0 : Int32) = 0)) (st1 := []) rfl rfl rfl rfl (by decide) ?_
  exact pr_e rfl (fun _ => rfl) ⟨rfl, rfl⟩
set_option maxRecDepth 100000 in
theorem pq_8 {sx : Option (List Int32)} (a2 a3 a4 : Int32) : px_C sx pm_X5_stateFact [.ref 92, .int 0, .int a2, .int a3, .int a4] (px_hs) 2045 83922 0 0 (fun r h' => r = .inl (some (.int 0)) ∧ h' = ph_25 a2 a3 a4) := by
  refine px_C_of rfl ?_
  refine pr_s (pc1 := 1) (st1 := [.ref 92]) rfl (fun _ => rfl) ?_
  refine pr_getf (pc1 := 4) (v := .ref 93) rfl rfl pg_22 rfl rfl ?_
  refine pr_getf (pc1 := 7) (v := .int 0) rfl rfl pg_23 rfl rfl ?_
  refine pr_s (pc1 := 9) (lv1 := [(5, .int 0), (0, .ref 92), (1, .int 0), (2, .int a2), (3, .int a3), (4, .int a4)]) (st1 := []) rfl (fun _ => rfl) ?_
  refine pr_s (pc1 := 10) (st1 := [.ref 92]) rfl (fun _ => rfl) ?_
  refine pr_getf (pc1 := 13) (v := .ref 93) rfl rfl pg_22 rfl rfl ?_
  refine pr_s (pc1 := 14) (st1 := [.int 0, .ref 93]) rfl (fun _ => rfl) ?_
  refine pr_s (pc1 := 15) (st1 := [.int a2, .int 0, .ref 93]) rfl (fun _ => rfl) ?_
  refine pr_s (pc1 := 16) (st1 := [.int a3, .int a2, .int 0, .ref 93]) rfl (fun _ => rfl) ?_
  refine pr_s (pc1 := 18) (st1 := [.int a4, .int a3, .int a2, .int 0, .ref 93]) rfl (fun _ => rfl) ?_
  refine pr_callv (N := pm_X2_findOrCreate) (as := [.ref 93, .int 0, .int a2, .int a3, .int a4]) (rest := []) (f := 2044) (l := 83897) (c1 := 0) (k1 := 0) (c2 := 0) (k2 := 0) (v := some (.int 0)) (h1 := ph_24 a2 a3 a4) rfl (fun ex => px_inv_hs ex rfl rfl rfl pg_23 rfl rfl rfl rfl) ?_ (Nat.le_of_ble_eq_true rfl) (Nat.le_of_ble_eq_true rfl) ?_
  · refine px_C_of rfl ?_
    refine pr_s (pc1 := 1) (st1 := [.ref 93]) rfl (fun _ => rfl) ?_
    refine pr_s (pc1 := 2) (st1 := [.int 0, .ref 93]) rfl (fun _ => rfl) ?_
    refine pr_s (pc1 := 3) (st1 := [.int a2, .int 0, .ref 93]) rfl (fun _ => rfl) ?_
    refine pr_s (pc1 := 4) (st1 := [.int a3, .int a2, .int 0, .ref 93]) rfl (fun _ => rfl) ?_
    refine pr_s (pc1 := 6) (st1 := [.int a4, .int a3, .int a2, .int 0, .ref 93]) rfl (fun _ => rfl) ?_
    refine pr_callv (N := pm_X2_placeLike) (as := [.ref 93, .int 0, .int a2, .int a3, .int a4]) (rest := []) (f := 2043) (l := 83871) (c1 := 0) (k1 := 0) (c2 := 0) (k2 := 0) (v := some (.int (-1))) (h1 := px_hs) rfl (fun ex => px_inv_hs ex rfl rfl rfl pg_23 rfl rfl rfl rfl) ?_ (Nat.le_of_ble_eq_true rfl) (Nat.le_of_ble_eq_true rfl) ?_
    · exact pq_4 a2 a3 a4
    show px_R _ _ _ _ (9, [(0, .ref 93), (1, .int 0), (2, .int a2), (3, .int a3), (4, .int a4)], [.int (-1)], _) _ _ _
    refine pr_s (pc1 := 11) (lv1 := [(5, .int (-1)), (0, .ref 93), (1, .int 0), (2, .int a2), (3, .int a3), (4, .int a4)]) (st1 := []) rfl (fun _ => rfl) ?_
    refine pr_s (pc1 := 13) (st1 := [.int (-1)]) rfl (fun _ => rfl) ?_
    refine pr_bt (t := 21) (off := 8) (bb := decide (((-1) : Int32) < 0)) (st1 := []) rfl rfl rfl rfl (by decide) ?_
    refine pr_s (pc1 := 22) (st1 := [.ref 93]) rfl (fun _ => rfl) ?_
    refine pr_s (pc1 := 23) (st1 := [.int 0, .ref 93]) rfl (fun _ => rfl) ?_
    refine pr_s (pc1 := 24) (st1 := [.int a2, .int 0, .ref 93]) rfl (fun _ => rfl) ?_
    refine pr_s (pc1 := 25) (st1 := [.int a3, .int a2, .int 0, .ref 93]) rfl (fun _ => rfl) ?_
    refine pr_s (pc1 := 27) (st1 := [.int a4, .int a3, .int a2, .int 0, .ref 93]) rfl (fun _ => rfl) ?_
    refine pr_callv (N := pm_X2_create) (as := [.ref 93, .int 0, .int a2, .int a3, .int a4]) (rest := []) (f := 2043) (l := 83872) (c1 := 0) (k1 := 0) (c2 := 0) (k2 := 0) (v := some (.int 0)) (h1 := ph_24 a2 a3 a4) rfl (fun ex => px_inv_hs ex rfl rfl rfl pg_23 rfl rfl rfl rfl) ?_ (Nat.le_of_ble_eq_true rfl) (Nat.le_of_ble_eq_true rfl) ?_
    · exact pq_5 a2 a3 a4
    show px_R _ _ _ _ (30, [(5, .int (-1)), (0, .ref 93), (1, .int 0), (2, .int a2), (3, .int a3), (4, .int a4)], [.int 0], _) _ _ _
    exact pr_e rfl (fun _ => rfl) ⟨rfl, rfl⟩
  show px_R _ _ _ _ (21, [(5, .int 0), (0, .ref 92), (1, .int 0), (2, .int a2), (3, .int a3), (4, .int a4)], [.int 0], _) _ _ _
  refine pr_s (pc1 := 23) (lv1 := [(6, .int 0), (5, .int 0), (0, .ref 92), (1, .int 0), (2, .int a2), (3, .int a3), (4, .int a4)]) (st1 := []) rfl (fun _ => rfl) ?_
  refine pr_s (pc1 := 25) (st1 := [.int 0]) rfl (fun _ => rfl) ?_
  refine pr_bf (t := 35) (off := 10) (bb := decide ((0 : Int32) < 0)) (st1 := []) rfl rfl rfl rfl (by decide) ?_
  refine pr_s (pc1 := 30) (st1 := [.int 0]) rfl (fun _ => rfl) ?_
  refine pr_s (pc1 := 32) (st1 := [.int 48, .int 0]) rfl (fun _ => rfl) ?_
  refine pr_bt (t := 37) (off := 5) (bb := decide ((0 : Int32) < 48)) (st1 := []) rfl rfl rfl rfl (by decide) ?_
  refine pr_s (pc1 := 38) (st1 := [.ref 92]) rfl (fun _ => rfl) ?_
  refine pr_getf (pc1 := 41) (v := .ref 93) rfl rfl (pg_44 a2 a3 a4) rfl rfl ?_
  refine pr_getf (pc1 := 44) (v := .ref 94) rfl rfl (pg_45 a2 a3 a4) rfl rfl ?_
  refine pr_s (pc1 := 46) (st1 := [.int 0, .ref 94]) rfl (fun _ => rfl) ?_
  refine pr_iald (pc1 := 47) (x := 0) rfl (pg_46 a2 a3 a4) rfl rfl rfl ?_
  refine pr_s (pc1 := 49) (lv1 := [(7, .int 0), (6, .int 0), (5, .int 0), (0, .ref 92), (1, .int 0), (2, .int a2), (3, .int a3), (4, .int a4)]) (st1 := []) rfl (fun _ => rfl) ?_
  refine pr_s (pc1 := 50) (st1 := [.ref 92]) rfl (fun _ => rfl) ?_
  refine pr_getf (pc1 := 53) (v := .ref 93) rfl rfl (pg_44 a2 a3 a4) rfl rfl ?_
  refine pr_getf (pc1 := 56) (v := .ref 95) rfl rfl (pg_45 a2 a3 a4) rfl rfl ?_
  refine pr_s (pc1 := 58) (st1 := [.int 0, .ref 95]) rfl (fun _ => rfl) ?_
  refine pr_s (pc1 := 59) (st1 := [.int 1, .int 0, .ref 95]) rfl (fun _ => rfl) ?_
  refine pr_zast (pc1 := 60) (h1 := ph_25 a2 a3 a4) rfl (pg_47 a2 a3 a4) rfl rfl rfl rfl ?_
  refine pr_s (pc1 := 61) (st1 := [.ref 92]) rfl (fun _ => rfl) ?_
  refine pr_getf (pc1 := 64) (v := .ref 93) rfl rfl (pg_48 a2 a3 a4) rfl rfl ?_
  refine pr_getf (pc1 := 67) (v := .int 1) rfl rfl (pg_49 a2 a3 a4) rfl rfl ?_
  refine pr_s (pc1 := 69) (st1 := [.int 0, .int 1]) rfl (fun _ => rfl) ?_
  refine pr_bf (t := 79) (off := 10) (bb := decide ((1 : Int32) = 0)) (st1 := []) rfl rfl rfl rfl (by decide) ?_
  refine pr_s (pc1 := 73) (st1 := [.ref 92]) rfl (fun _ => rfl) ?_
  refine pr_s (pc1 := 74) (st1 := [.int 1, .ref 92]) rfl (fun _ => rfl) ?_
  refine pr_s (pc1 := 75) (st1 := [.int 0, .int 1, .ref 92]) rfl (fun _ => rfl) ?_
  refine pr_s (pc1 := 76) (st1 := [.int 1, .ref 92]) rfl (fun _ => rfl) ?_
  refine pr_callv (N := pm_X5_settle) (as := [.ref 92, .int 1]) (rest := []) (f := 2044) (l := 83898) (c1 := 0) (k1 := 0) (c2 := 0) (k2 := 0) (v := none) (h1 := ph_25 a2 a3 a4) rfl (fun ex => px_inv_hs ex rfl rfl rfl (pg_48 a2 a3 a4) rfl rfl rfl rfl) ?_ (Nat.le_of_ble_eq_true rfl) (Nat.le_of_ble_eq_true rfl) ?_
  · exact pq_7 a2 a3 a4
  show px_R _ _ _ _ (79, [(7, .int 0), (6, .int 0), (5, .int 0), (0, .ref 92), (1, .int 0), (2, .int a2), (3, .int a3), (4, .int a4)], [], _) _ _ _
  refine pr_s (pc1 := 81) (st1 := [.int 0]) rfl (fun _ => rfl) ?_
  exact pr_e rfl (fun _ => rfl) ⟨rfl, rfl⟩
set_option maxRecDepth 100000 in
theorem pq_9 {sx : Option (List Int32)} (a2 a3 a4 : Int32) (ha2 : (-999) ≤ a2.toInt ∧ a2.toInt ≤ 999) (ha3 : (-999) ≤ a3.toInt ∧ a3.toInt ≤ 999) (ha4 : (-999) ≤ a4.toInt ∧ a4.toInt ≤ 999) : px_C sx pm_X6_state [.ref 0, .int 0, .int a2, .int a3, .int a4] (px_hs) 2046 83949 0 0 (fun r h' => r = .inl (some (.int 0)) ∧ h' = ph_25 a2 a3 a4) := by
  refine px_C_of rfl ?_
  refine pr_s (pc1 := 1) (st1 := [.int 0]) rfl (fun _ => rfl) ?_
  refine pr_callv (N := pm_X6_isKind) (as := [.int 0]) (rest := []) (f := 2045) (l := 83929) (c1 := 0) (k1 := 0) (c2 := 0) (k2 := 0) (v := some (.int 1)) (h1 := px_hs) rfl (fun _ => rfl) ?_ (Nat.le_of_ble_eq_true rfl) (Nat.le_of_ble_eq_true rfl) ?_
  · refine px_C_of rfl ?_
    refine pr_s (pc1 := 1) (st1 := [.int 0]) rfl (fun _ => rfl) ?_
    refine pr_bf (t := 14) (off := 13) (bb := decide ((0 : Int32) < 0)) (st1 := []) rfl rfl rfl rfl (by decide) ?_
    refine pr_s (pc1 := 5) (st1 := [.int 0]) rfl (fun _ => rfl) ?_
    refine pr_s (pc1 := 7) (st1 := [.int 8, .int 0]) rfl (fun _ => rfl) ?_
    refine pr_bf (t := 14) (off := 7) (bb := decide ((8 : Int32) ≤ (0 : Int32))) (st1 := []) rfl rfl rfl rfl (by decide) ?_
    refine pr_s (pc1 := 11) (st1 := [.int 1]) rfl (fun _ => rfl) ?_
    refine pr_s (pc1 := 15) (st1 := [.int 1]) rfl (fun _ => rfl) ?_
    exact pr_e rfl (fun _ => rfl) ⟨rfl, rfl⟩
  show px_R _ _ _ _ (4, [(0, .ref 0), (1, .int 0), (2, .int a2), (3, .int a3), (4, .int a4)], [.int 1], _) _ _ _
  refine pr_bf (t := 29) (off := 25) (bb := decide ((1 : Int32) = 0)) (st1 := []) rfl rfl rfl rfl (by decide) ?_
  refine pr_s (pc1 := 8) (st1 := [.int a2]) rfl (fun _ => rfl) ?_
  refine pr_callv (N := pm_X6_isValue) (as := [.int a2]) (rest := []) (f := 2045) (l := 83929) (c1 := 0) (k1 := 0) (c2 := 0) (k2 := 0) (v := some (.int 1)) (h1 := px_hs) rfl (fun _ => rfl) ?_ (Nat.le_of_ble_eq_true rfl) (Nat.le_of_ble_eq_true rfl) ?_
  · refine px_C_of rfl ?_
    refine pr_s (pc1 := 1) (st1 := [.int a2]) rfl (fun _ => rfl) ?_
    refine pr_s (pc1 := 4) (st1 := [.int (-999), .int a2]) rfl (fun _ => rfl) ?_
    refine pr_bf (t := 18) (off := 14) (bb := decide (a2 < (-999))) (st1 := []) rfl rfl rfl rfl (pb_ltF ha2.1 (show ((-999) : Int32).toInt ≤ (-999) by decide) (by decide)) ?_
    refine pr_s (pc1 := 8) (st1 := [.int a2]) rfl (fun _ => rfl) ?_
    refine pr_s (pc1 := 11) (st1 := [.int 999, .int a2]) rfl (fun _ => rfl) ?_
    refine pr_bf (t := 18) (off := 7) (bb := decide ((999 : Int32) < a2)) (st1 := []) rfl rfl rfl rfl (pb_ltF (show 999 ≤ (999 : Int32).toInt by decide) ha2.2 (by decide)) ?_
    refine pr_s (pc1 := 15) (st1 := [.int 1]) rfl (fun _ => rfl) ?_
    refine pr_s (pc1 := 19) (st1 := [.int 1]) rfl (fun _ => rfl) ?_
    exact pr_e rfl (fun _ => rfl) ⟨rfl, rfl⟩
  show px_R _ _ _ _ (11, [(0, .ref 0), (1, .int 0), (2, .int a2), (3, .int a3), (4, .int a4)], [.int 1], _) _ _ _
  refine pr_bf (t := 29) (off := 18) (bb := decide ((1 : Int32) = 0)) (st1 := []) rfl rfl rfl rfl (by decide) ?_
  refine pr_s (pc1 := 15) (st1 := [.int a3]) rfl (fun _ => rfl) ?_
  refine pr_callv (N := pm_X6_isValue) (as := [.int a3]) (rest := []) (f := 2045) (l := 83929) (c1 := 0) (k1 := 0) (c2 := 0) (k2 := 0) (v := some (.int 1)) (h1 := px_hs) rfl (fun _ => rfl) ?_ (Nat.le_of_ble_eq_true rfl) (Nat.le_of_ble_eq_true rfl) ?_
  · refine px_C_of rfl ?_
    refine pr_s (pc1 := 1) (st1 := [.int a3]) rfl (fun _ => rfl) ?_
    refine pr_s (pc1 := 4) (st1 := [.int (-999), .int a3]) rfl (fun _ => rfl) ?_
    refine pr_bf (t := 18) (off := 14) (bb := decide (a3 < (-999))) (st1 := []) rfl rfl rfl rfl (pb_ltF ha3.1 (show ((-999) : Int32).toInt ≤ (-999) by decide) (by decide)) ?_
    refine pr_s (pc1 := 8) (st1 := [.int a3]) rfl (fun _ => rfl) ?_
    refine pr_s (pc1 := 11) (st1 := [.int 999, .int a3]) rfl (fun _ => rfl) ?_
    refine pr_bf (t := 18) (off := 7) (bb := decide ((999 : Int32) < a3)) (st1 := []) rfl rfl rfl rfl (pb_ltF (show 999 ≤ (999 : Int32).toInt by decide) ha3.2 (by decide)) ?_
    refine pr_s (pc1 := 15) (st1 := [.int 1]) rfl (fun _ => rfl) ?_
    refine pr_s (pc1 := 19) (st1 := [.int 1]) rfl (fun _ => rfl) ?_
    exact pr_e rfl (fun _ => rfl) ⟨rfl, rfl⟩
  show px_R _ _ _ _ (18, [(0, .ref 0), (1, .int 0), (2, .int a2), (3, .int a3), (4, .int a4)], [.int 1], _) _ _ _
  refine pr_bf (t := 29) (off := 11) (bb := decide ((1 : Int32) = 0)) (st1 := []) rfl rfl rfl rfl (by decide) ?_
  refine pr_s (pc1 := 23) (st1 := [.int a4]) rfl (fun _ => rfl) ?_
  refine pr_callv (N := pm_X6_isValue) (as := [.int a4]) (rest := []) (f := 2045) (l := 83929) (c1 := 0) (k1 := 0) (c2 := 0) (k2 := 0) (v := some (.int 1)) (h1 := px_hs) rfl (fun _ => rfl) ?_ (Nat.le_of_ble_eq_true rfl) (Nat.le_of_ble_eq_true rfl) ?_
  · refine px_C_of rfl ?_
    refine pr_s (pc1 := 1) (st1 := [.int a4]) rfl (fun _ => rfl) ?_
    refine pr_s (pc1 := 4) (st1 := [.int (-999), .int a4]) rfl (fun _ => rfl) ?_
    refine pr_bf (t := 18) (off := 14) (bb := decide (a4 < (-999))) (st1 := []) rfl rfl rfl rfl (pb_ltF ha4.1 (show ((-999) : Int32).toInt ≤ (-999) by decide) (by decide)) ?_
    refine pr_s (pc1 := 8) (st1 := [.int a4]) rfl (fun _ => rfl) ?_
    refine pr_s (pc1 := 11) (st1 := [.int 999, .int a4]) rfl (fun _ => rfl) ?_
    refine pr_bf (t := 18) (off := 7) (bb := decide ((999 : Int32) < a4)) (st1 := []) rfl rfl rfl rfl (pb_ltF (show 999 ≤ (999 : Int32).toInt by decide) ha4.2 (by decide)) ?_
    refine pr_s (pc1 := 15) (st1 := [.int 1]) rfl (fun _ => rfl) ?_
    refine pr_s (pc1 := 19) (st1 := [.int 1]) rfl (fun _ => rfl) ?_
    exact pr_e rfl (fun _ => rfl) ⟨rfl, rfl⟩
  show px_R _ _ _ _ (26, [(0, .ref 0), (1, .int 0), (2, .int a2), (3, .int a3), (4, .int a4)], [.int 1], _) _ _ _
  refine pr_bt (t := 39) (off := 13) (bb := !decide ((1 : Int32) = 0)) (st1 := []) rfl rfl rfl rfl (px_not_t (by decide)) ?_
  refine pr_s (pc1 := 40) (st1 := [.ref 0]) rfl (fun _ => rfl) ?_
  refine pr_getf (pc1 := 43) (v := .ref 92) rfl rfl pg_0 rfl rfl ?_
  refine pr_s (pc1 := 44) (st1 := [.int 0, .ref 92]) rfl (fun _ => rfl) ?_
  refine pr_s (pc1 := 45) (st1 := [.int a2, .int 0, .ref 92]) rfl (fun _ => rfl) ?_
  refine pr_s (pc1 := 46) (st1 := [.int a3, .int a2, .int 0, .ref 92]) rfl (fun _ => rfl) ?_
  refine pr_s (pc1 := 48) (st1 := [.int a4, .int a3, .int a2, .int 0, .ref 92]) rfl (fun _ => rfl) ?_
  refine pr_callv (N := pm_X5_stateFact) (as := [.ref 92, .int 0, .int a2, .int a3, .int a4]) (rest := []) (f := 2045) (l := 83922) (c1 := 0) (k1 := 0) (c2 := 0) (k2 := 0) (v := some (.int 0)) (h1 := ph_25 a2 a3 a4) rfl (fun ex => px_inv_hs ex rfl rfl rfl pg_22 rfl rfl rfl rfl) ?_ (Nat.le_of_ble_eq_true rfl) (Nat.le_of_ble_eq_true rfl) ?_
  · exact pq_8 a2 a3 a4
  show px_R _ _ _ _ (51, [(0, .ref 0), (1, .int 0), (2, .int a2), (3, .int a3), (4, .int a4)], [.int 0], _) _ _ _
  refine pr_s (pc1 := 53) (lv1 := [(5, .int 0), (0, .ref 0), (1, .int 0), (2, .int a2), (3, .int a3), (4, .int a4)]) (st1 := []) rfl (fun _ => rfl) ?_
  refine pr_s (pc1 := 55) (st1 := [.int 0]) rfl (fun _ => rfl) ?_
  refine pr_bt (t := 68) (off := 13) (bb := decide ((0 : Int32) ≤ (0 : Int32))) (st1 := []) rfl rfl rfl rfl (by decide) ?_
  refine pr_s (pc1 := 70) (st1 := [.int 0]) rfl (fun _ => rfl) ?_
  exact pr_e rfl (fun _ => rfl) ⟨rfl, rfl⟩
set_option maxRecDepth 100000 in
theorem pq_10 {sx : Option (List Int32)} (a2 a3 a4 : Int32) : px_C sx pm_X9_add [.ref 138, .int 0, .int a2, .int a3, .int a4, .int 1] (ph_26 a2 a3 a4) 2046 83949 1 6 (fun r h' => r = .inl (some (.int 0)) ∧ h' = ph_36 a2 a3 a4) := by
  refine px_C_of rfl ?_
  refine pr_s (pc1 := 1) (st1 := [.ref 138]) rfl (fun _ => rfl) ?_
  refine pr_getf (pc1 := 4) (v := .ref 141) rfl rfl (pg_67 a2 a3 a4) rfl rfl ?_
  refine pr_s (pc1 := 6) (st1 := [.int 6, .ref 141]) rfl (fun _ => rfl) ?_
  refine pr_mh (z1 := 1) (z2 := 6) (c1 := 0) (k1 := 0) (pc1 := 8) (n := 165) (r := [.ref 141]) (h1 := ph_27 a2 a3 a4) (es := fun n => [.inl (0, .inl (List.replicate 6 0))]) rfl (fun _ => rfl) (pl_23 a2 a3 a4) rfl (Nat.le_of_ble_eq_true rfl) (Nat.le_of_ble_eq_true rfl) ?_
  refine pr_s (pc1 := 9) (st1 := [.ref 165, .ref 165, .ref 141]) rfl (fun _ => rfl) ?_
  refine pr_s (pc1 := 10) (st1 := [.int 0, .ref 165, .ref 165, .ref 141]) rfl (fun _ => rfl) ?_
  refine pr_s (pc1 := 11) (st1 := [.ref 138, .int 0, .ref 165, .ref 165, .ref 141]) rfl (fun _ => rfl) ?_
  refine pr_getf (pc1 := 14) (v := .int 0) rfl rfl (pg_70 a2 a3 a4) rfl rfl ?_
  refine pr_iast (pc1 := 15) (h1 := ph_28 a2 a3 a4) rfl (pg_71 a2 a3 a4) rfl rfl rfl ?_
  refine pr_s (pc1 := 16) (st1 := [.ref 165, .ref 165, .ref 141]) rfl (fun _ => rfl) ?_
  refine pr_s (pc1 := 17) (st1 := [.int 1, .ref 165, .ref 165, .ref 141]) rfl (fun _ => rfl) ?_
  refine pr_s (pc1 := 18) (st1 := [.int 0, .int 1, .ref 165, .ref 165, .ref 141]) rfl (fun _ => rfl) ?_
  refine pr_iast (pc1 := 19) (h1 := ph_29 a2 a3 a4) rfl (pg_72 a2 a3 a4) rfl rfl rfl ?_
  refine pr_s (pc1 := 20) (st1 := [.ref 165, .ref 165, .ref 141]) rfl (fun _ => rfl) ?_
  refine pr_s (pc1 := 21) (st1 := [.int 2, .ref 165, .ref 165, .ref 141]) rfl (fun _ => rfl) ?_
  refine pr_s (pc1 := 22) (st1 := [.int a2, .int 2, .ref 165, .ref 165, .ref 141]) rfl (fun _ => rfl) ?_
  refine pr_iast (pc1 := 23) (h1 := ph_30 a2 a3 a4) rfl (pg_73 a2 a3 a4) rfl rfl rfl ?_
  refine pr_s (pc1 := 24) (st1 := [.ref 165, .ref 165, .ref 141]) rfl (fun _ => rfl) ?_
  refine pr_s (pc1 := 25) (st1 := [.int 3, .ref 165, .ref 165, .ref 141]) rfl (fun _ => rfl) ?_
  refine pr_s (pc1 := 26) (st1 := [.int a3, .int 3, .ref 165, .ref 165, .ref 141]) rfl (fun _ => rfl) ?_
  refine pr_iast (pc1 := 27) (h1 := ph_31 a2 a3 a4) rfl (pg_74 a2 a3 a4) rfl rfl rfl ?_
  refine pr_s (pc1 := 28) (st1 := [.ref 165, .ref 165, .ref 141]) rfl (fun _ => rfl) ?_
  refine pr_s (pc1 := 29) (st1 := [.int 4, .ref 165, .ref 165, .ref 141]) rfl (fun _ => rfl) ?_
  refine pr_s (pc1 := 31) (st1 := [.int a4, .int 4, .ref 165, .ref 165, .ref 141]) rfl (fun _ => rfl) ?_
  refine pr_iast (pc1 := 32) (h1 := ph_32 a2 a3 a4) rfl (pg_75 a2 a3 a4) rfl rfl rfl ?_
  refine pr_s (pc1 := 33) (st1 := [.ref 165, .ref 165, .ref 141]) rfl (fun _ => rfl) ?_
  refine pr_s (pc1 := 34) (st1 := [.int 5, .ref 165, .ref 165, .ref 141]) rfl (fun _ => rfl) ?_
  refine pr_s (pc1 := 36) (st1 := [.int 1, .int 5, .ref 165, .ref 165, .ref 141]) rfl (fun _ => rfl) ?_
  refine pr_iast (pc1 := 37) (h1 := ph_33 a2 a3 a4) rfl (pg_76 a2 a3 a4) rfl rfl rfl ?_
  refine pr_callv (N := pm_X7_add) (as := [.ref 141, .ref 165]) (rest := []) (f := 2045) (l := 83928) (c1 := 0) (k1 := 0) (c2 := 0) (k2 := 0) (v := none) (h1 := ph_35 a2 a3 a4) rfl (fun ex => px_inv_hs ex rfl rfl rfl (pg_77 a2 a3 a4) rfl rfl rfl rfl) ?_ (Nat.le_of_ble_eq_true rfl) (Nat.le_of_ble_eq_true rfl) ?_
  · refine px_C_of rfl ?_
    refine pr_s (pc1 := 1) (st1 := [.ref 141]) rfl (fun _ => rfl) ?_
    refine pr_getf (pc1 := 4) (v := .int 0) rfl rfl (pg_77 a2 a3 a4) rfl rfl ?_
    refine pr_s (pc1 := 5) (st1 := [.int 1, .int 0]) rfl (fun _ => rfl) ?_
    refine pr_s (pc1 := 6) (st1 := [.int 1]) rfl (fun _ => rfl) ?_
    refine pr_s (pc1 := 7) (st1 := [.ref 141, .int 1]) rfl (fun _ => rfl) ?_
    refine pr_getf (pc1 := 10) (v := .int 6) rfl rfl (pg_77 a2 a3 a4) rfl rfl ?_
    refine pr_s (pc1 := 11) (st1 := [.int 6]) rfl (fun _ => rfl) ?_
    refine pr_s (pc1 := 12) (st1 := [.ref 141, .int 6]) rfl (fun _ => rfl) ?_
    refine pr_getf (pc1 := 15) (v := .ref 142) rfl rfl (pg_77 a2 a3 a4) rfl rfl ?_
    refine pr_alen (pc1 := 16) (x := 96) rfl (pg_79 a2 a3 a4) rfl rfl rfl ?_
    refine pr_bt (t := 37) (off := 21) (bb := decide ((6 : Int32) ≤ 96)) (st1 := []) rfl rfl rfl rfl (by decide) ?_
    refine pr_s (pc1 := 38) (st1 := [.ref 165]) rfl (fun _ => rfl) ?_
    refine pr_s (pc1 := 39) (st1 := [.int 0, .ref 165]) rfl (fun _ => rfl) ?_
    refine pr_s (pc1 := 40) (st1 := [.ref 141, .int 0, .ref 165]) rfl (fun _ => rfl) ?_
    refine pr_getf (pc1 := 43) (v := .ref 142) rfl rfl (pg_77 a2 a3 a4) rfl rfl ?_
    refine pr_s (pc1 := 44) (st1 := [.ref 141, .ref 142, .int 0, .ref 165]) rfl (fun _ => rfl) ?_
    refine pr_getf (pc1 := 47) (v := .int 0) rfl rfl (pg_77 a2 a3 a4) rfl rfl ?_
    refine pr_s (pc1 := 48) (st1 := [.ref 141, .int 0, .ref 142, .int 0, .ref 165]) rfl (fun _ => rfl) ?_
    refine pr_getf (pc1 := 51) (v := .int 6) rfl rfl (pg_77 a2 a3 a4) rfl rfl ?_
    refine pr_s (pc1 := 52) (st1 := [.int 0, .ref 142, .int 0, .ref 165]) rfl (fun _ => rfl) ?_
    refine pr_s (pc1 := 53) (st1 := [.ref 141, .int 0, .ref 142, .int 0, .ref 165]) rfl (fun _ => rfl) ?_
    refine pr_getf (pc1 := 56) (v := .int 6) rfl rfl (pg_77 a2 a3 a4) rfl rfl ?_
    refine pr_copy (pc1 := 59) (h1 := ph_34 a2 a3 a4) rfl rfl (pg_80 a2 a3 a4) (pg_79 a2 a3 a4) rfl rfl rfl rfl rfl rfl rfl rfl rfl ?_
    refine pr_s (pc1 := 60) (st1 := [.ref 141]) rfl (fun _ => rfl) ?_
    refine pr_s (pc1 := 61) (st1 := [.ref 141, .ref 141]) rfl (fun _ => rfl) ?_
    refine pr_getf (pc1 := 64) (v := .int 0) rfl rfl (pg_81 a2 a3 a4) rfl rfl ?_
    refine pr_s (pc1 := 65) (st1 := [.int 1, .int 0, .ref 141]) rfl (fun _ => rfl) ?_
    refine pr_s (pc1 := 66) (st1 := [.int 1, .ref 141]) rfl (fun _ => rfl) ?_
    refine pr_putf (pc1 := 69) (h1 := ph_35 a2 a3 a4) rfl rfl (pg_81 a2 a3 a4) rfl rfl rfl rfl rfl rfl rfl ?_
    exact pr_e rfl (fun _ => rfl) ⟨rfl, rfl⟩
  show px_R _ _ _ _ (40, [(0, .ref 138), (1, .int 0), (2, .int a2), (3, .int a3), (4, .int a4), (5, .int 1)], [], _) _ _ _
  refine pr_s (pc1 := 41) (st1 := [.ref 138]) rfl (fun _ => rfl) ?_
  refine pr_s (pc1 := 42) (st1 := [.ref 138, .ref 138]) rfl (fun _ => rfl) ?_
  refine pr_getf (pc1 := 45) (v := .int 0) rfl rfl (pg_82 a2 a3 a4) rfl rfl ?_
  refine pr_s (pc1 := 46) (st1 := [.int 1, .int 0, .ref 138]) rfl (fun _ => rfl) ?_
  refine pr_s (pc1 := 47) (st1 := [.int 1, .ref 138]) rfl (fun _ => rfl) ?_
  refine pr_putf (pc1 := 50) (h1 := ph_36 a2 a3 a4) rfl rfl (pg_82 a2 a3 a4) rfl rfl rfl rfl rfl rfl rfl ?_
  refine pr_s (pc1 := 51) (st1 := [.ref 138]) rfl (fun _ => rfl) ?_
  refine pr_getf (pc1 := 54) (v := .int 1) rfl rfl (pg_83 a2 a3 a4) rfl rfl ?_
  refine pr_s (pc1 := 55) (st1 := [.int 1, .int 1]) rfl (fun _ => rfl) ?_
  refine pr_s (pc1 := 56) (st1 := [.int 0]) rfl (fun _ => rfl) ?_
  exact pr_e rfl (fun _ => rfl) ⟨rfl, rfl⟩
set_option maxRecDepth 100000 in
theorem pq_11 {sx : Option (List Int32)} (a2 a3 a4 : Int32) : px_C sx pm_X9_settle [.ref 138] (ph_36 a2 a3 a4) 2046 83951 0 0 (fun r h' => r = .inl (some (.int 0)) ∧ h' = ph_37 a2 a3 a4) := by
  refine px_C_of rfl ?_
  refine pr_s (pc1 := 1) (st1 := [.int 0]) rfl (fun _ => rfl) ?_
  refine pr_s (pc1 := 2) (lv1 := [(1, .int 0), (0, .ref 138)]) (st1 := []) rfl (fun _ => rfl) ?_
  refine pr_s (pc1 := 3) (st1 := [.int 1]) rfl (fun _ => rfl) ?_
  refine pr_s (pc1 := 4) (lv1 := [(2, .int 1), (1, .int 0), (0, .ref 138)]) (st1 := []) rfl (fun _ => rfl) ?_
  refine pr_s (pc1 := 5) (st1 := [.int 1]) rfl (fun _ => rfl) ?_
  refine pr_bf (t := 144) (off := 139) (bb := decide ((1 : Int32) = 0)) (st1 := []) rfl rfl rfl rfl (by decide) ?_
  refine pr_s (pc1 := 9) (st1 := [.int 0]) rfl (fun _ => rfl) ?_
  refine pr_s (pc1 := 10) (lv1 := [(2, .int 0), (1, .int 0), (0, .ref 138)]) (st1 := []) rfl (fun _ => rfl) ?_
  refine pr_s (pc1 := 11) (st1 := [.ref 138]) rfl (fun _ => rfl) ?_
  refine pr_callv (N := pm_X9_findMatches) (as := [.ref 138]) (rest := []) (f := 2045) (l := 83930) (c1 := 0) (k1 := 0) (c2 := 0) (k2 := 0) (v := none) (h1 := ph_37 a2 a3 a4) rfl (fun ex => px_inv_hs ex rfl rfl rfl (pg_83 a2 a3 a4) rfl rfl rfl rfl) ?_ (Nat.le_of_ble_eq_true rfl) (Nat.le_of_ble_eq_true rfl) ?_
  · refine px_C_of rfl ?_
    refine pr_s (pc1 := 1) (st1 := [.ref 138]) rfl (fun _ => rfl) ?_
    refine pr_getf (pc1 := 4) (v := .ref 147) rfl rfl (pg_83 a2 a3 a4) rfl rfl ?_
    refine pr_s (pc1 := 5) (st1 := [.int 0, .ref 147]) rfl (fun _ => rfl) ?_
    refine pr_putf (pc1 := 8) (h1 := ph_36 a2 a3 a4) rfl rfl (pg_86 a2 a3 a4) rfl rfl rfl rfl rfl (px_set_same (pg_86 a2 a3 a4) rfl) rfl ?_
    refine pr_s (pc1 := 9) (st1 := [.ref 138]) rfl (fun _ => rfl) ?_
    refine pr_s (pc1 := 10) (st1 := [.int 0, .ref 138]) rfl (fun _ => rfl) ?_
    refine pr_putf (pc1 := 13) (h1 := ph_36 a2 a3 a4) rfl rfl (pg_83 a2 a3 a4) rfl rfl rfl rfl rfl (px_set_same (pg_83 a2 a3 a4) rfl) rfl ?_
    refine pr_s (pc1 := 14) (st1 := [.int 0]) rfl (fun _ => rfl) ?_
    refine pr_s (pc1 := 15) (lv1 := [(1, .int 0), (0, .ref 138)]) (st1 := []) rfl (fun _ => rfl) ?_
    refine pr_s (pc1 := 16) (st1 := [.int 0]) rfl (fun _ => rfl) ?_
    refine pr_s (pc1 := 17) (st1 := [.ref 138, .int 0]) rfl (fun _ => rfl) ?_
    refine pr_getf (pc1 := 20) (v := .ref 136) rfl rfl (pg_83 a2 a3 a4) rfl rfl ?_
    refine pr_getf (pc1 := 23) (v := .int 0) rfl rfl (pg_84 a2 a3 a4) rfl rfl ?_
    refine pr_bt (t := 52) (off := 29) (bb := decide ((0 : Int32) ≤ (0 : Int32))) (st1 := []) rfl rfl rfl rfl (by decide) ?_
    refine pr_s (pc1 := 53) (st1 := [.ref 138]) rfl (fun _ => rfl) ?_
    refine pr_getf (pc1 := 56) (v := .ref 143) rfl rfl (pg_83 a2 a3 a4) rfl rfl ?_
    refine pr_s (pc1 := 57) (st1 := [.ref 138, .ref 143]) rfl (fun _ => rfl) ?_
    refine pr_getf (pc1 := 60) (v := .ref 147) rfl rfl (pg_83 a2 a3 a4) rfl rfl ?_
    refine pr_callv (N := pm_X7_become) (as := [.ref 143, .ref 147]) (rest := []) (f := 2044) (l := 83909) (c1 := 0) (k1 := 0) (c2 := 0) (k2 := 0) (v := none) (h1 := ph_37 a2 a3 a4) rfl (fun ex => px_inv_hs ex rfl rfl rfl (pg_88 a2 a3 a4) rfl rfl rfl rfl) ?_ (Nat.le_of_ble_eq_true rfl) (Nat.le_of_ble_eq_true rfl) ?_
    · refine px_C_of rfl ?_
      refine pr_s (pc1 := 1) (st1 := [.ref 143]) rfl (fun _ => rfl) ?_
      refine pr_s (pc1 := 2) (st1 := [.ref 147, .ref 143]) rfl (fun _ => rfl) ?_
      refine pr_getf (pc1 := 5) (v := .int 0) rfl rfl (pg_86 a2 a3 a4) rfl rfl ?_
      refine pr_putf (pc1 := 8) (h1 := ph_36 a2 a3 a4) rfl rfl (pg_88 a2 a3 a4) rfl rfl rfl rfl rfl (px_set_same (pg_88 a2 a3 a4) rfl) rfl ?_
      refine pr_s (pc1 := 9) (st1 := [.ref 143]) rfl (fun _ => rfl) ?_
      refine pr_getf (pc1 := 12) (v := .ref 144) rfl rfl (pg_88 a2 a3 a4) rfl rfl ?_
      refine pr_alen (pc1 := 13) (x := 96) rfl (pg_90 a2 a3 a4) rfl rfl rfl ?_
      refine pr_s (pc1 := 14) (st1 := [.ref 143, .int 96]) rfl (fun _ => rfl) ?_
      refine pr_getf (pc1 := 17) (v := .int 0) rfl rfl (pg_88 a2 a3 a4) rfl rfl ?_
      refine pr_s (pc1 := 18) (st1 := [.ref 143, .int 0, .int 96]) rfl (fun _ => rfl) ?_
      refine pr_getf (pc1 := 21) (v := .int 6) rfl rfl (pg_88 a2 a3 a4) rfl rfl ?_
      refine pr_s (pc1 := 22) (st1 := [.int 0, .int 96]) rfl (fun _ => rfl) ?_
      refine pr_bt (t := 36) (off := 14) (bb := decide ((0 : Int32) ≤ (96 : Int32))) (st1 := []) rfl rfl rfl rfl (by decide) ?_
      refine pr_s (pc1 := 37) (st1 := [.ref 147]) rfl (fun _ => rfl) ?_
      refine pr_getf (pc1 := 40) (v := .ref 148) rfl rfl (pg_86 a2 a3 a4) rfl rfl ?_
      refine pr_s (pc1 := 41) (st1 := [.int 0, .ref 148]) rfl (fun _ => rfl) ?_
      refine pr_s (pc1 := 42) (st1 := [.ref 143, .int 0, .ref 148]) rfl (fun _ => rfl) ?_
      refine pr_getf (pc1 := 45) (v := .ref 144) rfl rfl (pg_88 a2 a3 a4) rfl rfl ?_
      refine pr_s (pc1 := 46) (st1 := [.int 0, .ref 144, .int 0, .ref 148]) rfl (fun _ => rfl) ?_
      refine pr_s (pc1 := 47) (st1 := [.ref 143, .int 0, .ref 144, .int 0, .ref 148]) rfl (fun _ => rfl) ?_
      refine pr_getf (pc1 := 50) (v := .int 0) rfl rfl (pg_88 a2 a3 a4) rfl rfl ?_
      refine pr_s (pc1 := 51) (st1 := [.ref 143, .int 0, .int 0, .ref 144, .int 0, .ref 148]) rfl (fun _ => rfl) ?_
      refine pr_getf (pc1 := 54) (v := .int 6) rfl rfl (pg_88 a2 a3 a4) rfl rfl ?_
      refine pr_s (pc1 := 55) (st1 := [.int 0, .int 0, .ref 144, .int 0, .ref 148]) rfl (fun _ => rfl) ?_
      refine pr_copy (pc1 := 58) (h1 := ph_37 a2 a3 a4) rfl rfl (pg_92 a2 a3 a4) (pg_90 a2 a3 a4) rfl rfl rfl rfl rfl rfl rfl rfl rfl ?_
      exact pr_e rfl (fun _ => rfl) ⟨rfl, rfl⟩
    show px_R _ _ _ _ (63, [(1, .int 0), (0, .ref 138)], [], _) _ _ _
    exact pr_e rfl (fun _ => rfl) ⟨rfl, rfl⟩
  show px_R _ _ _ _ (14, [(2, .int 0), (1, .int 0), (0, .ref 138)], [], _) _ _ _
  refine pr_s (pc1 := 15) (st1 := [.ref 138]) rfl (fun _ => rfl) ?_
  refine pr_getf (pc1 := 18) (v := .ref 145) rfl rfl (pg_93 a2 a3 a4) rfl rfl ?_
  refine pr_getf (pc1 := 21) (v := .int 0) rfl rfl (pg_95 a2 a3 a4) rfl rfl ?_
  refine pr_s (pc1 := 22) (st1 := [.int 1, .int 0]) rfl (fun _ => rfl) ?_
  refine pr_s (pc1 := 23) (st1 := [.int (-1)]) rfl (fun _ => rfl) ?_
  refine pr_s (pc1 := 24) (lv1 := [(3, .int (-1)), (2, .int 0), (1, .int 0), (0, .ref 138)]) (st1 := []) rfl (fun _ => rfl) ?_
  refine pr_s (pc1 := 25) (st1 := [.int (-1)]) rfl (fun _ => rfl) ?_
  refine pr_bt (t := 76) (off := 51) (bb := decide (((-1) : Int32) < 0)) (st1 := []) rfl rfl rfl rfl (by decide) ?_
  refine pr_s (pc1 := 77) (st1 := [.ref 138]) rfl (fun _ => rfl) ?_
  refine pr_getf (pc1 := 80) (v := .ref 141) rfl rfl (pg_93 a2 a3 a4) rfl rfl ?_
  refine pr_getf (pc1 := 83) (v := .int 1) rfl rfl (pg_96 a2 a3 a4) rfl rfl ?_
  refine pr_s (pc1 := 84) (st1 := [.int 1, .int 1]) rfl (fun _ => rfl) ?_
  refine pr_s (pc1 := 85) (st1 := [.int 0]) rfl (fun _ => rfl) ?_
  refine pr_s (pc1 := 86) (lv1 := [(3, .int 0), (2, .int 0), (1, .int 0), (0, .ref 138)]) (st1 := []) rfl (fun _ => rfl) ?_
  refine pr_s (pc1 := 87) (st1 := [.int 0]) rfl (fun _ => rfl) ?_
  refine pr_bf (t := 141) (off := 54) (bb := decide ((0 : Int32) < 0)) (st1 := []) rfl rfl rfl rfl (by decide) ?_
  refine pr_s (pc1 := 91) (st1 := [.ref 138]) rfl (fun _ => rfl) ?_
  refine pr_getf (pc1 := 94) (v := .ref 141) rfl rfl (pg_93 a2 a3 a4) rfl rfl ?_
  refine pr_s (pc1 := 95) (st1 := [.int 0, .ref 141]) rfl (fun _ => rfl) ?_
  refine pr_s (pc1 := 96) (st1 := [.int 5, .int 0, .ref 141]) rfl (fun _ => rfl) ?_
  refine pr_callv (N := pm_X7_get) (as := [.ref 141, .int 0, .int 5]) (rest := []) (f := 2045) (l := 83929) (c1 := 0) (k1 := 0) (c2 := 0) (k2 := 0) (v := some (.int 1)) (h1 := ph_37 a2 a3 a4) rfl (fun ex => px_inv_hs ex rfl rfl rfl (pg_96 a2 a3 a4) rfl rfl rfl rfl) ?_ (Nat.le_of_ble_eq_true rfl) (Nat.le_of_ble_eq_true rfl) ?_
  · refine px_C_of rfl ?_
    refine pr_s (pc1 := 1) (st1 := [.ref 141]) rfl (fun _ => rfl) ?_
    refine pr_getf (pc1 := 4) (v := .ref 142) rfl rfl (pg_96 a2 a3 a4) rfl rfl ?_
    refine pr_s (pc1 := 5) (st1 := [.int 0, .ref 142]) rfl (fun _ => rfl) ?_
    refine pr_s (pc1 := 6) (st1 := [.ref 141, .int 0, .ref 142]) rfl (fun _ => rfl) ?_
    refine pr_getf (pc1 := 9) (v := .int 6) rfl rfl (pg_96 a2 a3 a4) rfl rfl ?_
    refine pr_s (pc1 := 10) (st1 := [.int 0, .ref 142]) rfl (fun _ => rfl) ?_
    refine pr_s (pc1 := 11) (st1 := [.int 5, .int 0, .ref 142]) rfl (fun _ => rfl) ?_
    refine pr_s (pc1 := 12) (st1 := [.int 5, .ref 142]) rfl (fun _ => rfl) ?_
    refine pr_iald (pc1 := 13) (x := 1) rfl (pg_97 a2 a3 a4) rfl rfl rfl ?_
    exact pr_e rfl (fun _ => rfl) ⟨rfl, rfl⟩
  show px_R _ _ _ _ (99, [(3, .int 0), (2, .int 0), (1, .int 0), (0, .ref 138)], [.int 1], _) _ _ _
  refine pr_s (pc1 := 100) (st1 := [.int 1, .int 1]) rfl (fun _ => rfl) ?_
  refine pr_bt (t := 135) (off := 35) (bb := decide ((1 : Int32) = 1)) (st1 := []) rfl rfl rfl rfl (by decide) ?_
  refine pr_s (pc1 := 138) (lv1 := [(3, .int (-1)), (2, .int 0), (1, .int 0), (0, .ref 138)]) (st1 := []) rfl (fun _ => rfl) ?_
  refine pr_s (pc1 := 86) (st1 := []) rfl (fun _ => rfl) ?_
  refine pr_s (pc1 := 87) (st1 := [.int (-1)]) rfl (fun _ => rfl) ?_
  refine pr_bt (t := 141) (off := 54) (bb := decide (((-1) : Int32) < 0)) (st1 := []) rfl rfl rfl rfl (by decide) ?_
  refine pr_s (pc1 := 4) (st1 := []) rfl (fun _ => rfl) ?_
  refine pr_s (pc1 := 5) (st1 := [.int 0]) rfl (fun _ => rfl) ?_
  refine pr_bt (t := 144) (off := 139) (bb := decide ((0 : Int32) = 0)) (st1 := []) rfl rfl rfl rfl (by decide) ?_
  refine pr_s (pc1 := 145) (st1 := [.int 0]) rfl (fun _ => rfl) ?_
  exact pr_e rfl (fun _ => rfl) ⟨rfl, rfl⟩
set_option maxRecDepth 100000 in
theorem pq_12 {sx : Option (List Int32)} (a2 a3 a4 : Int32) (ha2 : (-999) ≤ a2.toInt ∧ a2.toInt ≤ 999) (ha3 : (-999) ≤ a3.toInt ∧ a3.toInt ≤ 999) (ha4 : (-999) ≤ a4.toInt ∧ a4.toInt ≤ 999) : px_C sx pm_X10_state [.ref 136, .int 0, .int a2, .int a3, .int a4] (ph_26 a2 a3 a4) 2047 83974 1 6 (fun r h' => r = .inl (some (.int 0)) ∧ h' = ph_37 a2 a3 a4) := by
  refine px_C_of rfl ?_
  refine pr_s (pc1 := 1) (st1 := [.ref 136]) rfl (fun _ => rfl) ?_
  refine pr_s (pc1 := 2) (st1 := [.int 0, .ref 136]) rfl (fun _ => rfl) ?_
  refine pr_putf (pc1 := 5) (h1 := ph_26 a2 a3 a4) rfl rfl (pg_65 a2 a3 a4) rfl rfl rfl rfl rfl (px_set_same (pg_65 a2 a3 a4) rfl) rfl ?_
  refine pr_s (pc1 := 6) (st1 := [.int 0]) rfl (fun _ => rfl) ?_
  refine pr_s (pc1 := 7) (st1 := [.int 0, .int 0]) rfl (fun _ => rfl) ?_
  refine pr_s (pc1 := 9) (st1 := [.int 7, .int 0, .int 0]) rfl (fun _ => rfl) ?_
  refine pr_callv (N := pm_X10_is) (as := [.int 0, .int 0, .int 7]) (rest := []) (f := 2046) (l := 83952) (c1 := 0) (k1 := 0) (c2 := 1) (k2 := 6) (v := some (.int 1)) (h1 := ph_26 a2 a3 a4) rfl (fun _ => rfl) ?_ (Nat.le_of_ble_eq_true rfl) (Nat.le_of_ble_eq_true rfl) ?_
  · refine px_C_of rfl ?_
    refine pr_s (pc1 := 1) (st1 := [.int 0]) rfl (fun _ => rfl) ?_
    refine pr_s (pc1 := 2) (st1 := [.int 0, .int 0]) rfl (fun _ => rfl) ?_
    refine pr_bf (t := 14) (off := 12) (bb := decide ((0 : Int32) < 0)) (st1 := []) rfl rfl rfl rfl (by decide) ?_
    refine pr_s (pc1 := 6) (st1 := [.int 0]) rfl (fun _ => rfl) ?_
    refine pr_s (pc1 := 7) (st1 := [.int 7, .int 0]) rfl (fun _ => rfl) ?_
    refine pr_bf (t := 14) (off := 7) (bb := decide ((7 : Int32) < (0 : Int32))) (st1 := []) rfl rfl rfl rfl (by decide) ?_
    refine pr_s (pc1 := 11) (st1 := [.int 1]) rfl (fun _ => rfl) ?_
    refine pr_s (pc1 := 15) (st1 := [.int 1]) rfl (fun _ => rfl) ?_
    exact pr_e rfl (fun _ => rfl) ⟨rfl, rfl⟩
  show px_R _ _ _ _ (12, [(0, .ref 136), (1, .int 0), (2, .int a2), (3, .int a3), (4, .int a4)], [.int 1], _) _ _ _
  refine pr_bf (t := 37) (off := 25) (bb := decide ((1 : Int32) = 0)) (st1 := []) rfl rfl rfl rfl (by decide) ?_
  refine pr_s (pc1 := 16) (st1 := [.int a2]) rfl (fun _ => rfl) ?_
  refine pr_callv (N := pm_X10_isValue) (as := [.int a2]) (rest := []) (f := 2046) (l := 83954) (c1 := 0) (k1 := 0) (c2 := 1) (k2 := 6) (v := some (.int 1)) (h1 := ph_26 a2 a3 a4) rfl (fun _ => rfl) ?_ (Nat.le_of_ble_eq_true rfl) (Nat.le_of_ble_eq_true rfl) ?_
  · refine px_C_of rfl ?_
    refine pr_s (pc1 := 1) (st1 := [.int a2]) rfl (fun _ => rfl) ?_
    refine pr_s (pc1 := 4) (st1 := [.int (-999), .int a2]) rfl (fun _ => rfl) ?_
    refine pr_s (pc1 := 7) (st1 := [.int 999, .int (-999), .int a2]) rfl (fun _ => rfl) ?_
    refine pr_callv (N := pm_X10_is) (as := [.int a2, .int (-999), .int 999]) (rest := []) (f := 2045) (l := 83932) (c1 := 0) (k1 := 0) (c2 := 0) (k2 := 0) (v := some (.int 1)) (h1 := ph_26 a2 a3 a4) rfl (fun _ => rfl) ?_ (Nat.le_of_ble_eq_true rfl) (Nat.le_of_ble_eq_true rfl) ?_
    · refine px_C_of rfl ?_
      refine pr_s (pc1 := 1) (st1 := [.int a2]) rfl (fun _ => rfl) ?_
      refine pr_s (pc1 := 2) (st1 := [.int (-999), .int a2]) rfl (fun _ => rfl) ?_
      refine pr_bf (t := 14) (off := 12) (bb := decide (a2 < (-999))) (st1 := []) rfl rfl rfl rfl (pb_ltF ha2.1 (show ((-999) : Int32).toInt ≤ (-999) by decide) (by decide)) ?_
      refine pr_s (pc1 := 6) (st1 := [.int a2]) rfl (fun _ => rfl) ?_
      refine pr_s (pc1 := 7) (st1 := [.int 999, .int a2]) rfl (fun _ => rfl) ?_
      refine pr_bf (t := 14) (off := 7) (bb := decide ((999 : Int32) < a2)) (st1 := []) rfl rfl rfl rfl (pb_ltF (show 999 ≤ (999 : Int32).toInt by decide) ha2.2 (by decide)) ?_
      refine pr_s (pc1 := 11) (st1 := [.int 1]) rfl (fun _ => rfl) ?_
      refine pr_s (pc1 := 15) (st1 := [.int 1]) rfl (fun _ => rfl) ?_
      exact pr_e rfl (fun _ => rfl) ⟨rfl, rfl⟩
    show px_R _ _ _ _ (10, [(0, .int a2)], [.int 1], _) _ _ _
    exact pr_e rfl (fun _ => rfl) ⟨rfl, rfl⟩
  show px_R _ _ _ _ (19, [(0, .ref 136), (1, .int 0), (2, .int a2), (3, .int a3), (4, .int a4)], [.int 1], _) _ _ _
  refine pr_bf (t := 37) (off := 18) (bb := decide ((1 : Int32) = 0)) (st1 := []) rfl rfl rfl rfl (by decide) ?_
  refine pr_s (pc1 := 23) (st1 := [.int a3]) rfl (fun _ => rfl) ?_
  refine pr_callv (N := pm_X10_isValue) (as := [.int a3]) (rest := []) (f := 2046) (l := 83954) (c1 := 0) (k1 := 0) (c2 := 1) (k2 := 6) (v := some (.int 1)) (h1 := ph_26 a2 a3 a4) rfl (fun _ => rfl) ?_ (Nat.le_of_ble_eq_true rfl) (Nat.le_of_ble_eq_true rfl) ?_
  · refine px_C_of rfl ?_
    refine pr_s (pc1 := 1) (st1 := [.int a3]) rfl (fun _ => rfl) ?_
    refine pr_s (pc1 := 4) (st1 := [.int (-999), .int a3]) rfl (fun _ => rfl) ?_
    refine pr_s (pc1 := 7) (st1 := [.int 999, .int (-999), .int a3]) rfl (fun _ => rfl) ?_
    refine pr_callv (N := pm_X10_is) (as := [.int a3, .int (-999), .int 999]) (rest := []) (f := 2045) (l := 83932) (c1 := 0) (k1 := 0) (c2 := 0) (k2 := 0) (v := some (.int 1)) (h1 := ph_26 a2 a3 a4) rfl (fun _ => rfl) ?_ (Nat.le_of_ble_eq_true rfl) (Nat.le_of_ble_eq_true rfl) ?_
    · refine px_C_of rfl ?_
      refine pr_s (pc1 := 1) (st1 := [.int a3]) rfl (fun _ => rfl) ?_
      refine pr_s (pc1 := 2) (st1 := [.int (-999), .int a3]) rfl (fun _ => rfl) ?_
      refine pr_bf (t := 14) (off := 12) (bb := decide (a3 < (-999))) (st1 := []) rfl rfl rfl rfl (pb_ltF ha3.1 (show ((-999) : Int32).toInt ≤ (-999) by decide) (by decide)) ?_
      refine pr_s (pc1 := 6) (st1 := [.int a3]) rfl (fun _ => rfl) ?_
      refine pr_s (pc1 := 7) (st1 := [.int 999, .int a3]) rfl (fun _ => rfl) ?_
      refine pr_bf (t := 14) (off := 7) (bb := decide ((999 : Int32) < a3)) (st1 := []) rfl rfl rfl rfl (pb_ltF (show 999 ≤ (999 : Int32).toInt by decide) ha3.2 (by decide)) ?_
      refine pr_s (pc1 := 11) (st1 := [.int 1]) rfl (fun _ => rfl) ?_
      refine pr_s (pc1 := 15) (st1 := [.int 1]) rfl (fun _ => rfl) ?_
      exact pr_e rfl (fun _ => rfl) ⟨rfl, rfl⟩
    show px_R _ _ _ _ (10, [(0, .int a3)], [.int 1], _) _ _ _
    exact pr_e rfl (fun _ => rfl) ⟨rfl, rfl⟩
  show px_R _ _ _ _ (26, [(0, .ref 136), (1, .int 0), (2, .int a2), (3, .int a3), (4, .int a4)], [.int 1], _) _ _ _
  refine pr_bf (t := 37) (off := 11) (bb := decide ((1 : Int32) = 0)) (st1 := []) rfl rfl rfl rfl (by decide) ?_
  refine pr_s (pc1 := 31) (st1 := [.int a4]) rfl (fun _ => rfl) ?_
  refine pr_callv (N := pm_X10_isValue) (as := [.int a4]) (rest := []) (f := 2046) (l := 83954) (c1 := 0) (k1 := 0) (c2 := 1) (k2 := 6) (v := some (.int 1)) (h1 := ph_26 a2 a3 a4) rfl (fun _ => rfl) ?_ (Nat.le_of_ble_eq_true rfl) (Nat.le_of_ble_eq_true rfl) ?_
  · refine px_C_of rfl ?_
    refine pr_s (pc1 := 1) (st1 := [.int a4]) rfl (fun _ => rfl) ?_
    refine pr_s (pc1 := 4) (st1 := [.int (-999), .int a4]) rfl (fun _ => rfl) ?_
    refine pr_s (pc1 := 7) (st1 := [.int 999, .int (-999), .int a4]) rfl (fun _ => rfl) ?_
    refine pr_callv (N := pm_X10_is) (as := [.int a4, .int (-999), .int 999]) (rest := []) (f := 2045) (l := 83932) (c1 := 0) (k1 := 0) (c2 := 0) (k2 := 0) (v := some (.int 1)) (h1 := ph_26 a2 a3 a4) rfl (fun _ => rfl) ?_ (Nat.le_of_ble_eq_true rfl) (Nat.le_of_ble_eq_true rfl) ?_
    · refine px_C_of rfl ?_
      refine pr_s (pc1 := 1) (st1 := [.int a4]) rfl (fun _ => rfl) ?_
      refine pr_s (pc1 := 2) (st1 := [.int (-999), .int a4]) rfl (fun _ => rfl) ?_
      refine pr_bf (t := 14) (off := 12) (bb := decide (a4 < (-999))) (st1 := []) rfl rfl rfl rfl (pb_ltF ha4.1 (show ((-999) : Int32).toInt ≤ (-999) by decide) (by decide)) ?_
      refine pr_s (pc1 := 6) (st1 := [.int a4]) rfl (fun _ => rfl) ?_
      refine pr_s (pc1 := 7) (st1 := [.int 999, .int a4]) rfl (fun _ => rfl) ?_
      refine pr_bf (t := 14) (off := 7) (bb := decide ((999 : Int32) < a4)) (st1 := []) rfl rfl rfl rfl (pb_ltF (show 999 ≤ (999 : Int32).toInt by decide) ha4.2 (by decide)) ?_
      refine pr_s (pc1 := 11) (st1 := [.int 1]) rfl (fun _ => rfl) ?_
      refine pr_s (pc1 := 15) (st1 := [.int 1]) rfl (fun _ => rfl) ?_
      exact pr_e rfl (fun _ => rfl) ⟨rfl, rfl⟩
    show px_R _ _ _ _ (10, [(0, .int a4)], [.int 1], _) _ _ _
    exact pr_e rfl (fun _ => rfl) ⟨rfl, rfl⟩
  show px_R _ _ _ _ (34, [(0, .ref 136), (1, .int 0), (2, .int a2), (3, .int a3), (4, .int a4)], [.int 1], _) _ _ _
  refine pr_bt (t := 43) (off := 9) (bb := !decide ((1 : Int32) = 0)) (st1 := []) rfl rfl rfl rfl (px_not_t (by decide)) ?_
  refine pr_s (pc1 := 44) (st1 := [.ref 136]) rfl (fun _ => rfl) ?_
  refine pr_getf (pc1 := 47) (v := .ref 138) rfl rfl (pg_65 a2 a3 a4) rfl rfl ?_
  refine pr_s (pc1 := 48) (st1 := [.int 0, .ref 138]) rfl (fun _ => rfl) ?_
  refine pr_s (pc1 := 49) (st1 := [.int a2, .int 0, .ref 138]) rfl (fun _ => rfl) ?_
  refine pr_s (pc1 := 50) (st1 := [.int a3, .int a2, .int 0, .ref 138]) rfl (fun _ => rfl) ?_
  refine pr_s (pc1 := 52) (st1 := [.int a4, .int a3, .int a2, .int 0, .ref 138]) rfl (fun _ => rfl) ?_
  refine pr_callv (N := pm_X9_find) (as := [.ref 138, .int 0, .int a2, .int a3, .int a4]) (rest := []) (f := 2046) (l := 83949) (c1 := 0) (k1 := 0) (c2 := 1) (k2 := 6) (v := some (.int (-1))) (h1 := ph_26 a2 a3 a4) rfl (fun ex => px_inv_hs ex rfl rfl rfl (pg_67 a2 a3 a4) rfl rfl rfl rfl) ?_ (Nat.le_of_ble_eq_true rfl) (Nat.le_of_ble_eq_true rfl) ?_
  · refine px_C_of rfl ?_
    refine pr_s (pc1 := 1) (st1 := [.ref 138]) rfl (fun _ => rfl) ?_
    refine pr_getf (pc1 := 4) (v := .ref 141) rfl rfl (pg_67 a2 a3 a4) rfl rfl ?_
    refine pr_getf (pc1 := 7) (v := .int 0) rfl rfl (pg_69 a2 a3 a4) rfl rfl ?_
    refine pr_s (pc1 := 8) (st1 := [.int 1, .int 0]) rfl (fun _ => rfl) ?_
    refine pr_s (pc1 := 9) (st1 := [.int (-1)]) rfl (fun _ => rfl) ?_
    refine pr_s (pc1 := 11) (lv1 := [(5, .int (-1)), (0, .ref 138), (1, .int 0), (2, .int a2), (3, .int a3), (4, .int a4)]) (st1 := []) rfl (fun _ => rfl) ?_
    refine pr_s (pc1 := 13) (st1 := [.int (-1)]) rfl (fun _ => rfl) ?_
    refine pr_bt (t := 79) (off := 66) (bb := decide (((-1) : Int32) < 0)) (st1 := []) rfl rfl rfl rfl (by decide) ?_
    refine pr_s (pc1 := 81) (st1 := [.int (-1)]) rfl (fun _ => rfl) ?_
    exact pr_e rfl (fun _ => rfl) ⟨rfl, rfl⟩
  show px_R _ _ _ _ (55, [(0, .ref 136), (1, .int 0), (2, .int a2), (3, .int a3), (4, .int a4)], [.int (-1)], _) _ _ _
  refine pr_s (pc1 := 57) (lv1 := [(5, .int (-1)), (0, .ref 136), (1, .int 0), (2, .int a2), (3, .int a3), (4, .int a4)]) (st1 := []) rfl (fun _ => rfl) ?_
  refine pr_s (pc1 := 59) (st1 := [.int (-1)]) rfl (fun _ => rfl) ?_
  refine pr_s (pc1 := 60) (st1 := [.int (-1), .int (-1)]) rfl (fun _ => rfl) ?_
  refine pr_bf (t := 82) (off := 22) (bb := !decide (((-1) : Int32) = (-1))) (st1 := []) rfl rfl rfl rfl (px_not_f (by decide)) ?_
  refine pr_s (pc1 := 64) (st1 := [.ref 136]) rfl (fun _ => rfl) ?_
  refine pr_getf (pc1 := 67) (v := .ref 138) rfl rfl (pg_65 a2 a3 a4) rfl rfl ?_
  refine pr_s (pc1 := 68) (st1 := [.int 0, .ref 138]) rfl (fun _ => rfl) ?_
  refine pr_callv (N := pm_X9_ofKind) (as := [.ref 138, .int 0]) (rest := []) (f := 2046) (l := 83951) (c1 := 0) (k1 := 0) (c2 := 1) (k2 := 6) (v := some (.int 0)) (h1 := ph_26 a2 a3 a4) rfl (fun ex => px_inv_hs ex rfl rfl rfl (pg_67 a2 a3 a4) rfl rfl rfl rfl) ?_ (Nat.le_of_ble_eq_true rfl) (Nat.le_of_ble_eq_true rfl) ?_
  · refine px_C_of rfl ?_
    refine pr_s (pc1 := 1) (st1 := [.int 0]) rfl (fun _ => rfl) ?_
    refine pr_s (pc1 := 2) (lv1 := [(2, .int 0), (0, .ref 138), (1, .int 0)]) (st1 := []) rfl (fun _ => rfl) ?_
    refine pr_s (pc1 := 3) (st1 := [.int 0]) rfl (fun _ => rfl) ?_
    refine pr_s (pc1 := 4) (lv1 := [(3, .int 0), (2, .int 0), (0, .ref 138), (1, .int 0)]) (st1 := []) rfl (fun _ => rfl) ?_
    refine pr_s (pc1 := 5) (st1 := [.int 0]) rfl (fun _ => rfl) ?_
    refine pr_s (pc1 := 6) (st1 := [.ref 138, .int 0]) rfl (fun _ => rfl) ?_
    refine pr_getf (pc1 := 9) (v := .ref 141) rfl rfl (pg_67 a2 a3 a4) rfl rfl ?_
    refine pr_getf (pc1 := 12) (v := .int 0) rfl rfl (pg_69 a2 a3 a4) rfl rfl ?_
    refine pr_bt (t := 42) (off := 30) (bb := decide ((0 : Int32) ≤ (0 : Int32))) (st1 := []) rfl rfl rfl rfl (by decide) ?_
    refine pr_s (pc1 := 43) (st1 := [.int 0]) rfl (fun _ => rfl) ?_
    exact pr_e rfl (fun _ => rfl) ⟨rfl, rfl⟩
  show px_R _ _ _ _ (71, [(5, .int (-1)), (0, .ref 136), (1, .int 0), (2, .int a2), (3, .int a3), (4, .int a4)], [.int 0], _) _ _ _
  refine pr_s (pc1 := 73) (st1 := [.int 6, .int 0]) rfl (fun _ => rfl) ?_
  refine pr_bt (t := 82) (off := 9) (bb := !decide ((0 : Int32) = 6)) (st1 := []) rfl rfl rfl rfl (px_not_t (by decide)) ?_
  refine pr_s (pc1 := 84) (st1 := [.int (-1)]) rfl (fun _ => rfl) ?_
  refine pr_s (pc1 := 85) (st1 := [.int (-1), .int (-1)]) rfl (fun _ => rfl) ?_
  refine pr_bt (t := 116) (off := 31) (bb := decide (((-1) : Int32) = (-1))) (st1 := []) rfl rfl rfl rfl (by decide) ?_
  refine pr_s (pc1 := 117) (st1 := [.ref 136]) rfl (fun _ => rfl) ?_
  refine pr_getf (pc1 := 120) (v := .ref 138) rfl rfl (pg_65 a2 a3 a4) rfl rfl ?_
  refine pr_s (pc1 := 121) (st1 := [.int 0, .ref 138]) rfl (fun _ => rfl) ?_
  refine pr_s (pc1 := 122) (st1 := [.int a2, .int 0, .ref 138]) rfl (fun _ => rfl) ?_
  refine pr_s (pc1 := 123) (st1 := [.int a3, .int a2, .int 0, .ref 138]) rfl (fun _ => rfl) ?_
  refine pr_s (pc1 := 125) (st1 := [.int a4, .int a3, .int a2, .int 0, .ref 138]) rfl (fun _ => rfl) ?_
  refine pr_s (pc1 := 126) (st1 := [.int 1, .int a4, .int a3, .int a2, .int 0, .ref 138]) rfl (fun _ => rfl) ?_
  refine pr_callv (N := pm_X9_add) (as := [.ref 138, .int 0, .int a2, .int a3, .int a4, .int 1]) (rest := []) (f := 2046) (l := 83949) (c1 := 1) (k1 := 6) (c2 := 0) (k2 := 0) (v := some (.int 0)) (h1 := ph_36 a2 a3 a4) rfl (fun ex => px_inv_hs ex rfl rfl rfl (pg_67 a2 a3 a4) rfl rfl rfl rfl) ?_ (Nat.le_of_ble_eq_true rfl) (Nat.le_of_ble_eq_true rfl) ?_
  · exact pq_10 a2 a3 a4
  show px_R _ _ _ _ (129, [(5, .int (-1)), (0, .ref 136), (1, .int 0), (2, .int a2), (3, .int a3), (4, .int a4)], [.int 0], _) _ _ _
  refine pr_s (pc1 := 131) (lv1 := [(6, .int 0), (5, .int (-1)), (0, .ref 136), (1, .int 0), (2, .int a2), (3, .int a3), (4, .int a4)]) (st1 := []) rfl (fun _ => rfl) ?_
  refine pr_s (pc1 := 132) (st1 := [.ref 136]) rfl (fun _ => rfl) ?_
  refine pr_getf (pc1 := 135) (v := .ref 138) rfl rfl (pg_84 a2 a3 a4) rfl rfl ?_
  refine pr_callv (N := pm_X9_settle) (as := [.ref 138]) (rest := []) (f := 2046) (l := 83951) (c1 := 0) (k1 := 0) (c2 := 0) (k2 := 0) (v := some (.int 0)) (h1 := ph_37 a2 a3 a4) rfl (fun ex => px_inv_hs ex rfl rfl rfl (pg_83 a2 a3 a4) rfl rfl rfl rfl) ?_ (Nat.le_of_ble_eq_true rfl) (Nat.le_of_ble_eq_true rfl) ?_
  · exact pq_11 a2 a3 a4
  show px_R _ _ _ _ (138, [(6, .int 0), (5, .int (-1)), (0, .ref 136), (1, .int 0), (2, .int a2), (3, .int a3), (4, .int a4)], [.int 0], _) _ _ _
  refine pr_s (pc1 := 139) (st1 := []) rfl (fun _ => rfl) ?_
  refine pr_s (pc1 := 141) (st1 := [.int 0]) rfl (fun _ => rfl) ?_
  exact pr_e rfl (fun _ => rfl) ⟨rfl, rfl⟩
set_option maxRecDepth 100000 in
theorem pq_13 {sx : Option (List Int32)} (a2 a3 a4 : Int32) : px_C sx pm_X2_placeLike [.ref 93, .int 1, .int a2, .int a3, .int a4] (px_hs) 2043 83871 0 0 (fun r h' => r = .inl (some (.int (-1))) ∧ h' = px_hs) := by
  refine px_C_of rfl ?_
  refine pr_s (pc1 := 1) (st1 := [.int 1]) rfl (fun _ => rfl) ?_
  refine pr_bf (t := 10) (off := 9) (bb := decide ((1 : Int32) < 0)) (st1 := []) rfl rfl rfl rfl (by decide) ?_
  refine pr_s (pc1 := 5) (st1 := [.int 1]) rfl (fun _ => rfl) ?_
  refine pr_s (pc1 := 7) (st1 := [.int 8, .int 1]) rfl (fun _ => rfl) ?_
  refine pr_bt (t := 12) (off := 5) (bb := decide ((1 : Int32) < 8)) (st1 := []) rfl rfl rfl rfl (by decide) ?_
  refine pr_s (pc1 := 13) (st1 := [.int 1]) rfl (fun _ => rfl) ?_
  refine pr_s (pc1 := 15) (st1 := [.int 6, .int 1]) rfl (fun _ => rfl) ?_
  refine pr_s (pc1 := 16) (st1 := [.int 6]) rfl (fun _ => rfl) ?_
  refine pr_s (pc1 := 18) (lv1 := [(5, .int 6), (0, .ref 93), (1, .int 1), (2, .int a2), (3, .int a3), (4, .int a4)]) (st1 := []) rfl (fun _ => rfl) ?_
  refine pr_s (pc1 := 20) (st1 := [.int 6]) rfl (fun _ => rfl) ?_
  refine pr_s (pc1 := 21) (st1 := [.int 1, .int 6]) rfl (fun _ => rfl) ?_
  refine pr_s (pc1 := 22) (st1 := [.int 1, .int 1, .int 6]) rfl (fun _ => rfl) ?_
  refine pr_s (pc1 := 23) (st1 := [.int 2, .int 6]) rfl (fun _ => rfl) ?_
  refine pr_s (pc1 := 25) (st1 := [.int 6, .int 2, .int 6]) rfl (fun _ => rfl) ?_
  refine pr_s (pc1 := 26) (st1 := [.int 12, .int 6]) rfl (fun _ => rfl) ?_
  refine pr_bf (t := 92) (off := 66) (bb := decide ((12 : Int32) ≤ (6 : Int32))) (st1 := []) rfl rfl rfl rfl (by decide) ?_
  refine pr_s (pc1 := 31) (st1 := [.int 6]) rfl (fun _ => rfl) ?_
  refine pr_s (pc1 := 32) (st1 := [.int 3, .int 6]) rfl (fun _ => rfl) ?_
  refine pr_s (pc1 := 33) (st1 := [.int 18]) rfl (fun _ => rfl) ?_
  refine pr_s (pc1 := 35) (lv1 := [(6, .int 18), (5, .int 6), (0, .ref 93), (1, .int 1), (2, .int a2), (3, .int a3), (4, .int a4)]) (st1 := []) rfl (fun _ => rfl) ?_
  refine pr_s (pc1 := 36) (st1 := [.ref 93]) rfl (fun _ => rfl) ?_
  refine pr_getf (pc1 := 39) (v := .ref 94) rfl rfl pg_23 rfl rfl ?_
  refine pr_s (pc1 := 41) (st1 := [.int 6, .ref 94]) rfl (fun _ => rfl) ?_
  refine pr_iald (pc1 := 42) (x := (-1)) rfl pg_24 rfl rfl rfl ?_
  refine pr_bt (t := 86) (off := 44) (bb := decide (((-1) : Int32) < 0)) (st1 := []) rfl rfl rfl rfl (by decide) ?_
  refine pr_s (pc1 := 89) (lv1 := [(5, .int 7), (6, .int 18), (0, .ref 93), (1, .int 1), (2, .int a2), (3, .int a3), (4, .int a4)]) (st1 := []) rfl (fun _ => rfl) ?_
  refine pr_s (pc1 := 18) (st1 := []) rfl (fun _ => rfl) ?_
  refine pr_s (pc1 := 20) (st1 := [.int 7]) rfl (fun _ => rfl) ?_
  refine pr_s (pc1 := 21) (st1 := [.int 1, .int 7]) rfl (fun _ => rfl) ?_
  refine pr_s (pc1 := 22) (st1 := [.int 1, .int 1, .int 7]) rfl (fun _ => rfl) ?_
  refine pr_s (pc1 := 23) (st1 := [.int 2, .int 7]) rfl (fun _ => rfl) ?_
  refine pr_s (pc1 := 25) (st1 := [.int 6, .int 2, .int 7]) rfl (fun _ => rfl) ?_
  refine pr_s (pc1 := 26) (st1 := [.int 12, .int 7]) rfl (fun _ => rfl) ?_
  refine pr_bf (t := 92) (off := 66) (bb := decide ((12 : Int32) ≤ (7 : Int32))) (st1 := []) rfl rfl rfl rfl (by decide) ?_
  refine pr_s (pc1 := 31) (st1 := [.int 7]) rfl (fun _ => rfl) ?_
  refine pr_s (pc1 := 32) (st1 := [.int 3, .int 7]) rfl (fun _ => rfl) ?_
  refine pr_s (pc1 := 33) (st1 := [.int 21]) rfl (fun _ => rfl) ?_
  refine pr_s (pc1 := 35) (lv1 := [(6, .int 21), (5, .int 7), (0, .ref 93), (1, .int 1), (2, .int a2), (3, .int a3), (4, .int a4)]) (st1 := []) rfl (fun _ => rfl) ?_
  refine pr_s (pc1 := 36) (st1 := [.ref 93]) rfl (fun _ => rfl) ?_
  refine pr_getf (pc1 := 39) (v := .ref 94) rfl rfl pg_23 rfl rfl ?_
  refine pr_s (pc1 := 41) (st1 := [.int 7, .ref 94]) rfl (fun _ => rfl) ?_
  refine pr_iald (pc1 := 42) (x := (-1)) rfl pg_24 rfl rfl rfl ?_
  refine pr_bt (t := 86) (off := 44) (bb := decide (((-1) : Int32) < 0)) (st1 := []) rfl rfl rfl rfl (by decide) ?_
  refine pr_s (pc1 := 89) (lv1 := [(5, .int 8), (6, .int 21), (0, .ref 93), (1, .int 1), (2, .int a2), (3, .int a3), (4, .int a4)]) (st1 := []) rfl (fun _ => rfl) ?_
  refine pr_s (pc1 := 18) (st1 := []) rfl (fun _ => rfl) ?_
  refine pr_s (pc1 := 20) (st1 := [.int 8]) rfl (fun _ => rfl) ?_
  refine pr_s (pc1 := 21) (st1 := [.int 1, .int 8]) rfl (fun _ => rfl) ?_
  refine pr_s (pc1 := 22) (st1 := [.int 1, .int 1, .int 8]) rfl (fun _ => rfl) ?_
  refine pr_s (pc1 := 23) (st1 := [.int 2, .int 8]) rfl (fun _ => rfl) ?_
  refine pr_s (pc1 := 25) (st1 := [.int 6, .int 2, .int 8]) rfl (fun _ => rfl) ?_
  refine pr_s (pc1 := 26) (st1 := [.int 12, .int 8]) rfl (fun _ => rfl) ?_
  refine pr_bf (t := 92) (off := 66) (bb := decide ((12 : Int32) ≤ (8 : Int32))) (st1 := []) rfl rfl rfl rfl (by decide) ?_
  refine pr_s (pc1 := 31) (st1 := [.int 8]) rfl (fun _ => rfl) ?_
  refine pr_s (pc1 := 32) (st1 := [.int 3, .int 8]) rfl (fun _ => rfl) ?_
  refine pr_s (pc1 := 33) (st1 := [.int 24]) rfl (fun _ => rfl) ?_
  refine pr_s (pc1 := 35) (lv1 := [(6, .int 24), (5, .int 8), (0, .ref 93), (1, .int 1), (2, .int a2), (3, .int a3), (4, .int a4)]) (st1 := []) rfl (fun _ => rfl) ?_
  refine pr_s (pc1 := 36) (st1 := [.ref 93]) rfl (fun _ => rfl) ?_
  refine pr_getf (pc1 := 39) (v := .ref 94) rfl rfl pg_23 rfl rfl ?_
  refine pr_s (pc1 := 41) (st1 := [.int 8, .ref 94]) rfl (fun _ => rfl) ?_
  refine pr_iald (pc1 := 42) (x := (-1)) rfl pg_24 rfl rfl rfl ?_
  refine pr_bt (t := 86) (off := 44) (bb := decide (((-1) : Int32) < 0)) (st1 := []) rfl rfl rfl rfl (by decide) ?_
  refine pr_s (pc1 := 89) (lv1 := [(5, .int 9), (6, .int 24), (0, .ref 93), (1, .int 1), (2, .int a2), (3, .int a3), (4, .int a4)]) (st1 := []) rfl (fun _ => rfl) ?_
  refine pr_s (pc1 := 18) (st1 := []) rfl (fun _ => rfl) ?_
  refine pr_s (pc1 := 20) (st1 := [.int 9]) rfl (fun _ => rfl) ?_
  refine pr_s (pc1 := 21) (st1 := [.int 1, .int 9]) rfl (fun _ => rfl) ?_
  refine pr_s (pc1 := 22) (st1 := [.int 1, .int 1, .int 9]) rfl (fun _ => rfl) ?_
  refine pr_s (pc1 := 23) (st1 := [.int 2, .int 9]) rfl (fun _ => rfl) ?_
  refine pr_s (pc1 := 25) (st1 := [.int 6, .int 2, .int 9]) rfl (fun _ => rfl) ?_
  refine pr_s (pc1 := 26) (st1 := [.int 12, .int 9]) rfl (fun _ => rfl) ?_
  refine pr_bf (t := 92) (off := 66) (bb := decide ((12 : Int32) ≤ (9 : Int32))) (st1 := []) rfl rfl rfl rfl (by decide) ?_
  refine pr_s (pc1 := 31) (st1 := [.int 9]) rfl (fun _ => rfl) ?_
  refine pr_s (pc1 := 32) (st1 := [.int 3, .int 9]) rfl (fun _ => rfl) ?_
  refine pr_s (pc1 := 33) (st1 := [.int 27]) rfl (fun _ => rfl) ?_
  refine pr_s (pc1 := 35) (lv1 := [(6, .int 27), (5, .int 9), (0, .ref 93), (1, .int 1), (2, .int a2), (3, .int a3), (4, .int a4)]) (st1 := []) rfl (fun _ => rfl) ?_
  refine pr_s (pc1 := 36) (st1 := [.ref 93]) rfl (fun _ => rfl) ?_
  refine pr_getf (pc1 := 39) (v := .ref 94) rfl rfl pg_23 rfl rfl ?_
  refine pr_s (pc1 := 41) (st1 := [.int 9, .ref 94]) rfl (fun _ => rfl) ?_
  refine pr_iald (pc1 := 42) (x := (-1)) rfl pg_24 rfl rfl rfl ?_
  refine pr_bt (t := 86) (off := 44) (bb := decide (((-1) : Int32) < 0)) (st1 := []) rfl rfl rfl rfl (by decide) ?_
  refine pr_s (pc1 := 89) (lv1 := [(5, .int 10), (6, .int 27), (0, .ref 93), (1, .int 1), (2, .int a2), (3, .int a3), (4, .int a4)]) (st1 := []) rfl (fun _ => rfl) ?_
  refine pr_s (pc1 := 18) (st1 := []) rfl (fun _ => rfl) ?_
  refine pr_s (pc1 := 20) (st1 := [.int 10]) rfl (fun _ => rfl) ?_
  refine pr_s (pc1 := 21) (st1 := [.int 1, .int 10]) rfl (fun _ => rfl) ?_
  refine pr_s (pc1 := 22) (st1 := [.int 1, .int 1, .int 10]) rfl (fun _ => rfl) ?_
  refine pr_s (pc1 := 23) (st1 := [.int 2, .int 10]) rfl (fun _ => rfl) ?_
  refine pr_s (pc1 := 25) (st1 := [.int 6, .int 2, .int 10]) rfl (fun _ => rfl) ?_
  refine pr_s (pc1 := 26) (st1 := [.int 12, .int 10]) rfl (fun _ => rfl) ?_
  refine pr_bf (t := 92) (off := 66) (bb := decide ((12 : Int32) ≤ (10 : Int32))) (st1 := []) rfl rfl rfl rfl (by decide) ?_
  refine pr_s (pc1 := 31) (st1 := [.int 10]) rfl (fun _ => rfl) ?_
  refine pr_s (pc1 := 32) (st1 := [.int 3, .int 10]) rfl (fun _ => rfl) ?_
  refine pr_s (pc1 := 33) (st1 := [.int 30]) rfl (fun _ => rfl) ?_
  refine pr_s (pc1 := 35) (lv1 := [(6, .int 30), (5, .int 10), (0, .ref 93), (1, .int 1), (2, .int a2), (3, .int a3), (4, .int a4)]) (st1 := []) rfl (fun _ => rfl) ?_
  refine pr_s (pc1 := 36) (st1 := [.ref 93]) rfl (fun _ => rfl) ?_
  refine pr_getf (pc1 := 39) (v := .ref 94) rfl rfl pg_23 rfl rfl ?_
  refine pr_s (pc1 := 41) (st1 := [.int 10, .ref 94]) rfl (fun _ => rfl) ?_
  refine pr_iald (pc1 := 42) (x := (-1)) rfl pg_24 rfl rfl rfl ?_
  refine pr_bt (t := 86) (off := 44) (bb := decide (((-1) : Int32) < 0)) (st1 := []) rfl rfl rfl rfl (by decide) ?_
  refine pr_s (pc1 := 89) (lv1 := [(5, .int 11), (6, .int 30), (0, .ref 93), (1, .int 1), (2, .int a2), (3, .int a3), (4, .int a4)]) (st1 := []) rfl (fun _ => rfl) ?_
  refine pr_s (pc1 := 18) (st1 := []) rfl (fun _ => rfl) ?_
  refine pr_s (pc1 := 20) (st1 := [.int 11]) rfl (fun _ => rfl) ?_
  refine pr_s (pc1 := 21) (st1 := [.int 1, .int 11]) rfl (fun _ => rfl) ?_
  refine pr_s (pc1 := 22) (st1 := [.int 1, .int 1, .int 11]) rfl (fun _ => rfl) ?_
  refine pr_s (pc1 := 23) (st1 := [.int 2, .int 11]) rfl (fun _ => rfl) ?_
  refine pr_s (pc1 := 25) (st1 := [.int 6, .int 2, .int 11]) rfl (fun _ => rfl) ?_
  refine pr_s (pc1 := 26) (st1 := [.int 12, .int 11]) rfl (fun _ => rfl) ?_
  refine pr_bf (t := 92) (off := 66) (bb := decide ((12 : Int32) ≤ (11 : Int32))) (st1 := []) rfl rfl rfl rfl (by decide) ?_
  refine pr_s (pc1 := 31) (st1 := [.int 11]) rfl (fun _ => rfl) ?_
  refine pr_s (pc1 := 32) (st1 := [.int 3, .int 11]) rfl (fun _ => rfl) ?_
  refine pr_s (pc1 := 33) (st1 := [.int 33]) rfl (fun _ => rfl) ?_
  refine pr_s (pc1 := 35) (lv1 := [(6, .int 33), (5, .int 11), (0, .ref 93), (1, .int 1), (2, .int a2), (3, .int a3), (4, .int a4)]) (st1 := []) rfl (fun _ => rfl) ?_
  refine pr_s (pc1 := 36) (st1 := [.ref 93]) rfl (fun _ => rfl) ?_
  refine pr_getf (pc1 := 39) (v := .ref 94) rfl rfl pg_23 rfl rfl ?_
  refine pr_s (pc1 := 41) (st1 := [.int 11, .ref 94]) rfl (fun _ => rfl) ?_
  refine pr_iald (pc1 := 42) (x := (-1)) rfl pg_24 rfl rfl rfl ?_
  refine pr_bt (t := 86) (off := 44) (bb := decide (((-1) : Int32) < 0)) (st1 := []) rfl rfl rfl rfl (by decide) ?_
  refine pr_s (pc1 := 89) (lv1 := [(5, .int 12), (6, .int 33), (0, .ref 93), (1, .int 1), (2, .int a2), (3, .int a3), (4, .int a4)]) (st1 := []) rfl (fun _ => rfl) ?_
  refine pr_s (pc1 := 18) (st1 := []) rfl (fun _ => rfl) ?_
  refine pr_s (pc1 := 20) (st1 := [.int 12]) rfl (fun _ => rfl) ?_
  refine pr_s (pc1 := 21) (st1 := [.int 1, .int 12]) rfl (fun _ => rfl) ?_
  refine pr_s (pc1 := 22) (st1 := [.int 1, .int 1, .int 12]) rfl (fun _ => rfl) ?_
  refine pr_s (pc1 := 23) (st1 := [.int 2, .int 12]) rfl (fun _ => rfl) ?_
  refine pr_s (pc1 := 25) (st1 := [.int 6, .int 2, .int 12]) rfl (fun _ => rfl) ?_
  refine pr_s (pc1 := 26) (st1 := [.int 12, .int 12]) rfl (fun _ => rfl) ?_
  refine pr_bt (t := 92) (off := 66) (bb := decide ((12 : Int32) ≤ (12 : Int32))) (st1 := []) rfl rfl rfl rfl (by decide) ?_
  refine pr_s (pc1 := 93) (st1 := [.int (-1)]) rfl (fun _ => rfl) ?_
  exact pr_e rfl (fun _ => rfl) ⟨rfl, rfl⟩
set_option maxRecDepth 100000 in
theorem pq_14 {sx : Option (List Int32)} (a2 a3 a4 : Int32) : px_C sx pm_X2_create [.ref 93, .int 1, .int a2, .int a3, .int a4] (px_hs) 2043 83872 0 0 (fun r h' => r = .inl (some (.int 6)) ∧ h' = ph_46 a2 a3 a4) := by
  refine px_C_of rfl ?_
  refine pr_s (pc1 := 1) (st1 := [.ref 93]) rfl (fun _ => rfl) ?_
  refine pr_s (pc1 := 2) (st1 := [.int 1, .ref 93]) rfl (fun _ => rfl) ?_
  refine pr_callv (N := pm_X2_freePlace) (as := [.ref 93, .int 1]) (rest := []) (f := 2042) (l := 83850) (c1 := 0) (k1 := 0) (c2 := 0) (k2 := 0) (v := some (.int 6)) (h1 := px_hs) rfl (fun ex => px_inv_hs ex rfl rfl rfl pg_23 rfl rfl rfl rfl) ?_ (Nat.le_of_ble_eq_true rfl) (Nat.le_of_ble_eq_true rfl) ?_
  · refine px_C_of rfl ?_
    refine pr_s (pc1 := 1) (st1 := [.int 1]) rfl (fun _ => rfl) ?_
    refine pr_bf (t := 10) (off := 9) (bb := decide ((1 : Int32) < 0)) (st1 := []) rfl rfl rfl rfl (by decide) ?_
    refine pr_s (pc1 := 5) (st1 := [.int 1]) rfl (fun _ => rfl) ?_
    refine pr_s (pc1 := 7) (st1 := [.int 8, .int 1]) rfl (fun _ => rfl) ?_
    refine pr_bt (t := 12) (off := 5) (bb := decide ((1 : Int32) < 8)) (st1 := []) rfl rfl rfl rfl (by decide) ?_
    refine pr_s (pc1 := 13) (st1 := [.int 1]) rfl (fun _ => rfl) ?_
    refine pr_s (pc1 := 15) (st1 := [.int 6, .int 1]) rfl (fun _ => rfl) ?_
    refine pr_s (pc1 := 16) (st1 := [.int 6]) rfl (fun _ => rfl) ?_
    refine pr_s (pc1 := 17) (lv1 := [(2, .int 6), (0, .ref 93), (1, .int 1)]) (st1 := []) rfl (fun _ => rfl) ?_
    refine pr_s (pc1 := 18) (st1 := [.int 6]) rfl (fun _ => rfl) ?_
    refine pr_s (pc1 := 19) (st1 := [.int 1, .int 6]) rfl (fun _ => rfl) ?_
    refine pr_s (pc1 := 20) (st1 := [.int 1, .int 1, .int 6]) rfl (fun _ => rfl) ?_
    refine pr_s (pc1 := 21) (st1 := [.int 2, .int 6]) rfl (fun _ => rfl) ?_
    refine pr_s (pc1 := 23) (st1 := [.int 6, .int 2, .int 6]) rfl (fun _ => rfl) ?_
    refine pr_s (pc1 := 24) (st1 := [.int 12, .int 6]) rfl (fun _ => rfl) ?_
    refine pr_bf (t := 44) (off := 20) (bb := decide ((12 : Int32) ≤ (6 : Int32))) (st1 := []) rfl rfl rfl rfl (by decide) ?_
    refine pr_s (pc1 := 28) (st1 := [.ref 93]) rfl (fun _ => rfl) ?_
    refine pr_getf (pc1 := 31) (v := .ref 94) rfl rfl pg_23 rfl rfl ?_
    refine pr_s (pc1 := 32) (st1 := [.int 6, .ref 94]) rfl (fun _ => rfl) ?_
    refine pr_iald (pc1 := 33) (x := (-1)) rfl pg_24 rfl rfl rfl ?_
    refine pr_bf (t := 38) (off := 5) (bb := decide ((0 : Int32) ≤ ((-1) : Int32))) (st1 := []) rfl rfl rfl rfl (by decide) ?_
    refine pr_s (pc1 := 37) (st1 := [.int 6]) rfl (fun _ => rfl) ?_
    exact pr_e rfl (fun _ => rfl) ⟨rfl, rfl⟩
  show px_R _ _ _ _ (5, [(0, .ref 93), (1, .int 1), (2, .int a2), (3, .int a3), (4, .int a4)], [.int 6], _) _ _ _
  refine pr_s (pc1 := 7) (lv1 := [(5, .int 6), (0, .ref 93), (1, .int 1), (2, .int a2), (3, .int a3), (4, .int a4)]) (st1 := []) rfl (fun _ => rfl) ?_
  refine pr_s (pc1 := 9) (st1 := [.int 6]) rfl (fun _ => rfl) ?_
  refine pr_bf (t := 22) (off := 13) (bb := decide ((6 : Int32) < 0)) (st1 := []) rfl rfl rfl rfl (by decide) ?_
  refine pr_s (pc1 := 13) (st1 := [.ref 93]) rfl (fun _ => rfl) ?_
  refine pr_s (pc1 := 14) (st1 := [.int 1, .ref 93]) rfl (fun _ => rfl) ?_
  refine pr_callv (N := pm_X2_countOf) (as := [.ref 93, .int 1]) (rest := []) (f := 2042) (l := 83851) (c1 := 0) (k1 := 0) (c2 := 0) (k2 := 0) (v := some (.int 0)) (h1 := px_hs) rfl (fun ex => px_inv_hs ex rfl rfl rfl pg_23 rfl rfl rfl rfl) ?_ (Nat.le_of_ble_eq_true rfl) (Nat.le_of_ble_eq_true rfl) ?_
  · refine px_C_of rfl ?_
    refine pr_s (pc1 := 1) (st1 := [.int 1]) rfl (fun _ => rfl) ?_
    refine pr_bf (t := 19) (off := 18) (bb := decide ((1 : Int32) < 0)) (st1 := []) rfl rfl rfl rfl (by decide) ?_
    refine pr_s (pc1 := 5) (st1 := [.int 1]) rfl (fun _ => rfl) ?_
    refine pr_s (pc1 := 7) (st1 := [.int 8, .int 1]) rfl (fun _ => rfl) ?_
    refine pr_bf (t := 19) (off := 12) (bb := decide ((8 : Int32) ≤ (1 : Int32))) (st1 := []) rfl rfl rfl rfl (by decide) ?_
    refine pr_s (pc1 := 11) (st1 := [.ref 93]) rfl (fun _ => rfl) ?_
    refine pr_getf (pc1 := 14) (v := .ref 97) rfl rfl pg_23 rfl rfl ?_
    refine pr_s (pc1 := 15) (st1 := [.int 1, .ref 97]) rfl (fun _ => rfl) ?_
    refine pr_iald (pc1 := 16) (x := 0) rfl pg_25 rfl rfl rfl ?_
    refine pr_s (pc1 := 20) (st1 := [.int 0]) rfl (fun _ => rfl) ?_
    exact pr_e rfl (fun _ => rfl) ⟨rfl, rfl⟩
  show px_R _ _ _ _ (17, [(5, .int 6), (0, .ref 93), (1, .int 1), (2, .int a2), (3, .int a3), (4, .int a4)], [.int 0], _) _ _ _
  refine pr_s (pc1 := 19) (st1 := [.int 6, .int 0]) rfl (fun _ => rfl) ?_
  refine pr_bt (t := 24) (off := 5) (bb := decide ((0 : Int32) < 6)) (st1 := []) rfl rfl rfl rfl (by decide) ?_
  refine pr_s (pc1 := 25) (st1 := [.ref 93]) rfl (fun _ => rfl) ?_
  refine pr_getf (pc1 := 28) (v := .ref 94) rfl rfl pg_23 rfl rfl ?_
  refine pr_s (pc1 := 30) (st1 := [.int 6, .ref 94]) rfl (fun _ => rfl) ?_
  refine pr_s (pc1 := 31) (st1 := [.ref 93, .int 6, .ref 94]) rfl (fun _ => rfl) ?_
  refine pr_getf (pc1 := 34) (v := .int 0) rfl rfl pg_23 rfl rfl ?_
  refine pr_iast (pc1 := 35) (h1 := ph_38) rfl pg_24 rfl rfl rfl ?_
  refine pr_s (pc1 := 36) (st1 := [.ref 93]) rfl (fun _ => rfl) ?_
  refine pr_s (pc1 := 37) (st1 := [.ref 93, .ref 93]) rfl (fun _ => rfl) ?_
  refine pr_getf (pc1 := 40) (v := .int 0) rfl rfl pg_100 rfl rfl ?_
  refine pr_s (pc1 := 41) (st1 := [.int 1, .int 0, .ref 93]) rfl (fun _ => rfl) ?_
  refine pr_s (pc1 := 42) (st1 := [.int 1, .ref 93]) rfl (fun _ => rfl) ?_
  refine pr_putf (pc1 := 45) (h1 := ph_39) rfl rfl pg_100 rfl rfl rfl rfl rfl rfl rfl ?_
  refine pr_s (pc1 := 46) (st1 := [.ref 93]) rfl (fun _ => rfl) ?_
  refine pr_s (pc1 := 47) (st1 := [.ref 93, .ref 93]) rfl (fun _ => rfl) ?_
  refine pr_getf (pc1 := 50) (v := .int 0) rfl rfl pg_101 rfl rfl ?_
  refine pr_s (pc1 := 51) (st1 := [.int 1, .int 0, .ref 93]) rfl (fun _ => rfl) ?_
  refine pr_s (pc1 := 52) (st1 := [.int 1, .ref 93]) rfl (fun _ => rfl) ?_
  refine pr_putf (pc1 := 55) (h1 := ph_40) rfl rfl pg_101 rfl rfl rfl rfl rfl rfl rfl ?_
  refine pr_s (pc1 := 56) (st1 := [.ref 93]) rfl (fun _ => rfl) ?_
  refine pr_getf (pc1 := 59) (v := .ref 95) rfl rfl pg_102 rfl rfl ?_
  refine pr_s (pc1 := 61) (st1 := [.int 6, .ref 95]) rfl (fun _ => rfl) ?_
  refine pr_s (pc1 := 62) (st1 := [.int 0, .int 6, .ref 95]) rfl (fun _ => rfl) ?_
  refine pr_zast (pc1 := 63) (h1 := ph_41) rfl pg_103 rfl rfl rfl rfl ?_
  refine pr_s (pc1 := 64) (st1 := [.ref 93]) rfl (fun _ => rfl) ?_
  refine pr_getf (pc1 := 67) (v := .ref 96) rfl rfl pg_104 rfl rfl ?_
  refine pr_s (pc1 := 69) (st1 := [.int 6, .ref 96]) rfl (fun _ => rfl) ?_
  refine pr_s (pc1 := 70) (st1 := [.int 3, .int 6, .ref 96]) rfl (fun _ => rfl) ?_
  refine pr_s (pc1 := 71) (st1 := [.int 18, .ref 96]) rfl (fun _ => rfl) ?_
  refine pr_s (pc1 := 72) (st1 := [.int a2, .int 18, .ref 96]) rfl (fun _ => rfl) ?_
  refine pr_iast (pc1 := 73) (h1 := ph_42 a2) rfl pg_105 rfl rfl rfl ?_
  refine pr_s (pc1 := 74) (st1 := [.ref 93]) rfl (fun _ => rfl) ?_
  refine pr_getf (pc1 := 77) (v := .ref 96) rfl rfl (pg_106 a2) rfl rfl ?_
  refine pr_s (pc1 := 79) (st1 := [.int 6, .ref 96]) rfl (fun _ => rfl) ?_
  refine pr_s (pc1 := 80) (st1 := [.int 3, .int 6, .ref 96]) rfl (fun _ => rfl) ?_
  refine pr_s (pc1 := 81) (st1 := [.int 18, .ref 96]) rfl (fun _ => rfl) ?_
  refine pr_s (pc1 := 82) (st1 := [.int 1, .int 18, .ref 96]) rfl (fun _ => rfl) ?_
  refine pr_s (pc1 := 83) (st1 := [.int 19, .ref 96]) rfl (fun _ => rfl) ?_
  refine pr_s (pc1 := 84) (st1 := [.int a3, .int 19, .ref 96]) rfl (fun _ => rfl) ?_
  refine pr_iast (pc1 := 85) (h1 := ph_43 a2 a3) rfl (pg_107 a2) rfl rfl rfl ?_
  refine pr_s (pc1 := 86) (st1 := [.ref 93]) rfl (fun _ => rfl) ?_
  refine pr_getf (pc1 := 89) (v := .ref 96) rfl rfl (pg_108 a2 a3) rfl rfl ?_
  refine pr_s (pc1 := 91) (st1 := [.int 6, .ref 96]) rfl (fun _ => rfl) ?_
  refine pr_s (pc1 := 92) (st1 := [.int 3, .int 6, .ref 96]) rfl (fun _ => rfl) ?_
  refine pr_s (pc1 := 93) (st1 := [.int 18, .ref 96]) rfl (fun _ => rfl) ?_
  refine pr_s (pc1 := 94) (st1 := [.int 2, .int 18, .ref 96]) rfl (fun _ => rfl) ?_
  refine pr_s (pc1 := 95) (st1 := [.int 20, .ref 96]) rfl (fun _ => rfl) ?_
  refine pr_s (pc1 := 97) (st1 := [.int a4, .int 20, .ref 96]) rfl (fun _ => rfl) ?_
  refine pr_iast (pc1 := 98) (h1 := ph_44 a2 a3 a4) rfl (pg_109 a2 a3) rfl rfl rfl ?_
  refine pr_s (pc1 := 99) (st1 := [.ref 93]) rfl (fun _ => rfl) ?_
  refine pr_getf (pc1 := 102) (v := .ref 98) rfl rfl (pg_110 a2 a3 a4) rfl rfl ?_
  refine pr_s (pc1 := 103) (st1 := [.int 1, .ref 98]) rfl (fun _ => rfl) ?_
  refine pr_s (pc1 := 105) (st1 := [.int 6, .int 1, .ref 98]) rfl (fun _ => rfl) ?_
  refine pr_s (pc1 := 106) (st1 := [.int 6, .ref 98]) rfl (fun _ => rfl) ?_
  refine pr_s (pc1 := 107) (st1 := [.ref 93, .int 6, .ref 98]) rfl (fun _ => rfl) ?_
  refine pr_getf (pc1 := 110) (v := .ref 97) rfl rfl (pg_110 a2 a3 a4) rfl rfl ?_
  refine pr_s (pc1 := 111) (st1 := [.int 1, .ref 97, .int 6, .ref 98]) rfl (fun _ => rfl) ?_
  refine pr_iald (pc1 := 112) (x := 0) rfl (pg_111 a2 a3 a4) rfl rfl rfl ?_
  refine pr_s (pc1 := 113) (st1 := [.int 6, .ref 98]) rfl (fun _ => rfl) ?_
  refine pr_s (pc1 := 115) (st1 := [.int 6, .int 6, .ref 98]) rfl (fun _ => rfl) ?_
  refine pr_iast (pc1 := 116) (h1 := ph_45 a2 a3 a4) rfl (pg_112 a2 a3 a4) rfl rfl rfl ?_
  refine pr_s (pc1 := 117) (st1 := [.ref 93]) rfl (fun _ => rfl) ?_
  refine pr_getf (pc1 := 120) (v := .ref 97) rfl rfl (pg_113 a2 a3 a4) rfl rfl ?_
  refine pr_s (pc1 := 121) (st1 := [.int 1, .ref 97]) rfl (fun _ => rfl) ?_
  refine pr_s (pc1 := 122) (st1 := [.int 1, .ref 97, .int 1, .ref 97]) rfl (fun _ => rfl) ?_
  refine pr_iald (pc1 := 123) (x := 0) rfl (pg_114 a2 a3 a4) rfl rfl rfl ?_
  refine pr_s (pc1 := 124) (st1 := [.int 1, .int 0, .int 1, .ref 97]) rfl (fun _ => rfl) ?_
  refine pr_s (pc1 := 125) (st1 := [.int 1, .int 1, .ref 97]) rfl (fun _ => rfl) ?_
  refine pr_iast (pc1 := 126) (h1 := ph_46 a2 a3 a4) rfl (pg_114 a2 a3 a4) rfl rfl rfl ?_
  refine pr_s (pc1 := 128) (st1 := [.int 6]) rfl (fun _ => rfl) ?_
  exact pr_e rfl (fun _ => rfl) ⟨rfl, rfl⟩
set_option maxRecDepth 100000 in
theorem pq_15 {sx : Option (List Int32)} (a2 a3 a4 : Int32) : px_C sx pm_X5_dropLoose [.ref 92] (ph_47 a2 a3 a4) 2043 83876 0 0 (fun r h' => r = .inl (some (.int 0)) ∧ h' = ph_47 a2 a3 a4) := by
  refine px_C_of rfl ?_
  refine pr_s (pc1 := 1) (st1 := [.int 0]) rfl (fun _ => rfl) ?_
  refine pr_s (pc1 := 2) (lv1 := [(1, .int 0), (0, .ref 92)]) (st1 := []) rfl (fun _ => rfl) ?_
  refine pr_s (pc1 := 3) (st1 := [.int 0]) rfl (fun _ => rfl) ?_
  refine pr_s (pc1 := 4) (lv1 := [(2, .int 0), (1, .int 0), (0, .ref 92)]) (st1 := []) rfl (fun _ => rfl) ?_
  refine pr_s (pc1 := 5) (st1 := [.int 0]) rfl (fun _ => rfl) ?_
  refine pr_s (pc1 := 7) (st1 := [.int 48, .int 0]) rfl (fun _ => rfl) ?_
  refine pr_bf (t := 73) (off := 66) (bb := decide ((48 : Int32) ≤ (0 : Int32))) (st1 := []) rfl rfl rfl rfl (by decide) ?_
  refine pr_s (pc1 := 11) (st1 := [.ref 92]) rfl (fun _ => rfl) ?_
  refine pr_getf (pc1 := 14) (v := .ref 93) rfl rfl (pg_119 a2 a3 a4) rfl rfl ?_
  refine pr_getf (pc1 := 17) (v := .ref 94) rfl rfl (pg_120 a2 a3 a4) rfl rfl ?_
  refine pr_s (pc1 := 18) (st1 := [.int 0, .ref 94]) rfl (fun _ => rfl) ?_
  refine pr_iald (pc1 := 19) (x := (-1)) rfl (pg_128 a2 a3 a4) rfl rfl rfl ?_
  refine pr_bt (t := 67) (off := 48) (bb := decide (((-1) : Int32) < 0)) (st1 := []) rfl rfl rfl rfl (by decide) ?_
  refine pr_s (pc1 := 70) (lv1 := [(2, .int 1), (1, .int 0), (0, .ref 92)]) (st1 := []) rfl (fun _ => rfl) ?_
  refine pr_s (pc1 := 4) (st1 := []) rfl (fun _ => rfl) ?_
  refine pr_s (pc1 := 5) (st1 := [.int 1]) rfl (fun _ => rfl) ?_
  refine pr_s (pc1 := 7) (st1 := [.int 48, .int 1]) rfl (fun _ => rfl) ?_
  refine pr_bf (t := 73) (off := 66) (bb := decide ((48 : Int32) ≤ (1 : Int32))) (st1 := []) rfl rfl rfl rfl (by decide) ?_
  refine pr_s (pc1 := 11) (st1 := [.ref 92]) rfl (fun _ => rfl) ?_
  refine pr_getf (pc1 := 14) (v := .ref 93) rfl rfl (pg_119 a2 a3 a4) rfl rfl ?_
  refine pr_getf (pc1 := 17) (v := .ref 94) rfl rfl (pg_120 a2 a3 a4) rfl rfl ?_
  refine pr_s (pc1 := 18) (st1 := [.int 1, .ref 94]) rfl (fun _ => rfl) ?_
  refine pr_iald (pc1 := 19) (x := (-1)) rfl (pg_128 a2 a3 a4) rfl rfl rfl ?_
  refine pr_bt (t := 67) (off := 48) (bb := decide (((-1) : Int32) < 0)) (st1 := []) rfl rfl rfl rfl (by decide) ?_
  refine pr_s (pc1 := 70) (lv1 := [(2, .int 2), (1, .int 0), (0, .ref 92)]) (st1 := []) rfl (fun _ => rfl) ?_
  refine pr_s (pc1 := 4) (st1 := []) rfl (fun _ => rfl) ?_
  refine pr_s (pc1 := 5) (st1 := [.int 2]) rfl (fun _ => rfl) ?_
  refine pr_s (pc1 := 7) (st1 := [.int 48, .int 2]) rfl (fun _ => rfl) ?_
  refine pr_bf (t := 73) (off := 66) (bb := decide ((48 : Int32) ≤ (2 : Int32))) (st1 := []) rfl rfl rfl rfl (by decide) ?_
  refine pr_s (pc1 := 11) (st1 := [.ref 92]) rfl (fun _ => rfl) ?_
  refine pr_getf (pc1 := 14) (v := .ref 93) rfl rfl (pg_119 a2 a3 a4) rfl rfl ?_
  refine pr_getf (pc1 := 17) (v := .ref 94) rfl rfl (pg_120 a2 a3 a4) rfl rfl ?_
  refine pr_s (pc1 := 18) (st1 := [.int 2, .ref 94]) rfl (fun _ => rfl) ?_
  refine pr_iald (pc1 := 19) (x := (-1)) rfl (pg_128 a2 a3 a4) rfl rfl rfl ?_
  refine pr_bt (t := 67) (off := 48) (bb := decide (((-1) : Int32) < 0)) (st1 := []) rfl rfl rfl rfl (by decide) ?_
  refine pr_s (pc1 := 70) (lv1 := [(2, .int 3), (1, .int 0), (0, .ref 92)]) (st1 := []) rfl (fun _ => rfl) ?_
  refine pr_s (pc1 := 4) (st1 := []) rfl (fun _ => rfl) ?_
  refine pr_s (pc1 := 5) (st1 := [.int 3]) rfl (fun _ => rfl) ?_
  refine pr_s (pc1 := 7) (st1 := [.int 48, .int 3]) rfl (fun _ => rfl) ?_
  refine pr_bf (t := 73) (off := 66) (bb := decide ((48 : Int32) ≤ (3 : Int32))) (st1 := []) rfl rfl rfl rfl (by decide) ?_
  refine pr_s (pc1 := 11) (st1 := [.ref 92]) rfl (fun _ => rfl) ?_
  refine pr_getf (pc1 := 14) (v := .ref 93) rfl rfl (pg_119 a2 a3 a4) rfl rfl ?_
  refine pr_getf (pc1 := 17) (v := .ref 94) rfl rfl (pg_120 a2 a3 a4) rfl rfl ?_
  refine pr_s (pc1 := 18) (st1 := [.int 3, .ref 94]) rfl (fun _ => rfl) ?_
  refine pr_iald (pc1 := 19) (x := (-1)) rfl (pg_128 a2 a3 a4) rfl rfl rfl ?_
  refine pr_bt (t := 67) (off := 48) (bb := decide (((-1) : Int32) < 0)) (st1 := []) rfl rfl rfl rfl (by decide) ?_
  refine pr_s (pc1 := 70) (lv1 := [(2, .int 4), (1, .int 0), (0, .ref 92)]) (st1 := []) rfl (fun _ => rfl) ?_
  refine pr_s (pc1 := 4) (st1 := []) rfl (fun _ => rfl) ?_
  refine pr_s (pc1 := 5) (st1 := [.int 4]) rfl (fun _ => rfl) ?_
  refine pr_s (pc1 := 7) (st1 := [.int 48, .int 4]) rfl (fun _ => rfl) ?_
  refine pr_bf (t := 73) (off := 66) (bb := decide ((48 : Int32) ≤ (4 : Int32))) (st1 := []) rfl rfl rfl rfl (by decide) ?_
  refine pr_s (pc1 := 11) (st1 := [.ref 92]) rfl (fun _ => rfl) ?_
  refine pr_getf (pc1 := 14) (v := .ref 93) rfl rfl (pg_119 a2 a3 a4) rfl rfl ?_
  refine pr_getf (pc1 := 17) (v := .ref 94) rfl rfl (pg_120 a2 a3 a4) rfl rfl ?_
  refine pr_s (pc1 := 18) (st1 := [.int 4, .ref 94]) rfl (fun _ => rfl) ?_
  refine pr_iald (pc1 := 19) (x := (-1)) rfl (pg_128 a2 a3 a4) rfl rfl rfl ?_
  refine pr_bt (t := 67) (off := 48) (bb := decide (((-1) : Int32) < 0)) (st1 := []) rfl rfl rfl rfl (by decide) ?_
  refine pr_s (pc1 := 70) (lv1 := [(2, .int 5), (1, .int 0), (0, .ref 92)]) (st1 := []) rfl (fun _ => rfl) ?_
  refine pr_s (pc1 := 4) (st1 := []) rfl (fun _ => rfl) ?_
  refine pr_s (pc1 := 5) (st1 := [.int 5]) rfl (fun _ => rfl) ?_
  refine pr_s (pc1 := 7) (st1 := [.int 48, .int 5]) rfl (fun _ => rfl) ?_
  refine pr_bf (t := 73) (off := 66) (bb := decide ((48 : Int32) ≤ (5 : Int32))) (st1 := []) rfl rfl rfl rfl (by decide) ?_
  refine pr_s (pc1 := 11) (st1 := [.ref 92]) rfl (fun _ => rfl) ?_
  refine pr_getf (pc1 := 14) (v := .ref 93) rfl rfl (pg_119 a2 a3 a4) rfl rfl ?_
  refine pr_getf (pc1 := 17) (v := .ref 94) rfl rfl (pg_120 a2 a3 a4) rfl rfl ?_
  refine pr_s (pc1 := 18) (st1 := [.int 5, .ref 94]) rfl (fun _ => rfl) ?_
  refine pr_iald (pc1 := 19) (x := (-1)) rfl (pg_128 a2 a3 a4) rfl rfl rfl ?_
  refine pr_bt (t := 67) (off := 48) (bb := decide (((-1) : Int32) < 0)) (st1 := []) rfl rfl rfl rfl (by decide) ?_
  refine pr_s (pc1 := 70) (lv1 := [(2, .int 6), (1, .int 0), (0, .ref 92)]) (st1 := []) rfl (fun _ => rfl) ?_
  refine pr_s (pc1 := 4) (st1 := []) rfl (fun _ => rfl) ?_
  refine pr_s (pc1 := 5) (st1 := [.int 6]) rfl (fun _ => rfl) ?_
  refine pr_s (pc1 := 7) (st1 := [.int 48, .int 6]) rfl (fun _ => rfl) ?_
  refine pr_bf (t := 73) (off := 66) (bb := decide ((48 : Int32) ≤ (6 : Int32))) (st1 := []) rfl rfl rfl rfl (by decide) ?_
  refine pr_s (pc1 := 11) (st1 := [.ref 92]) rfl (fun _ => rfl) ?_
  refine pr_getf (pc1 := 14) (v := .ref 93) rfl rfl (pg_119 a2 a3 a4) rfl rfl ?_
  refine pr_getf (pc1 := 17) (v := .ref 94) rfl rfl (pg_120 a2 a3 a4) rfl rfl ?_
  refine pr_s (pc1 := 18) (st1 := [.int 6, .ref 94]) rfl (fun _ => rfl) ?_
  refine pr_iald (pc1 := 19) (x := 0) rfl (pg_128 a2 a3 a4) rfl rfl rfl ?_
  refine pr_bf (t := 67) (off := 48) (bb := decide ((0 : Int32) < 0)) (st1 := []) rfl rfl rfl rfl (by decide) ?_
  refine pr_s (pc1 := 23) (st1 := [.ref 92]) rfl (fun _ => rfl) ?_
  refine pr_getf (pc1 := 26) (v := .ref 93) rfl rfl (pg_119 a2 a3 a4) rfl rfl ?_
  refine pr_getf (pc1 := 29) (v := .ref 95) rfl rfl (pg_120 a2 a3 a4) rfl rfl ?_
  refine pr_s (pc1 := 30) (st1 := [.int 6, .ref 95]) rfl (fun _ => rfl) ?_
  refine pr_zald (pc1 := 31) (x := 1) rfl (pg_129 a2 a3 a4) rfl rfl rfl ?_
  refine pr_bt (t := 67) (off := 36) (bb := !decide ((1 : Int32) = 0)) (st1 := []) rfl rfl rfl rfl (px_not_t (by decide)) ?_
  refine pr_s (pc1 := 70) (lv1 := [(2, .int 7), (1, .int 0), (0, .ref 92)]) (st1 := []) rfl (fun _ => rfl) ?_
  refine pr_s (pc1 := 4) (st1 := []) rfl (fun _ => rfl) ?_
  refine pr_s (pc1 := 5) (st1 := [.int 7]) rfl (fun _ => rfl) ?_
  refine pr_s (pc1 := 7) (st1 := [.int 48, .int 7]) rfl (fun _ => rfl) ?_
  refine pr_bf (t := 73) (off := 66) (bb := decide ((48 : Int32) ≤ (7 : Int32))) (st1 := []) rfl rfl rfl rfl (by decide) ?_
  refine pr_s (pc1 := 11) (st1 := [.ref 92]) rfl (fun _ => rfl) ?_
  refine pr_getf (pc1 := 14) (v := .ref 93) rfl rfl (pg_119 a2 a3 a4) rfl rfl ?_
  refine pr_getf (pc1 := 17) (v := .ref 94) rfl rfl (pg_120 a2 a3 a4) rfl rfl ?_
  refine pr_s (pc1 := 18) (st1 := [.int 7, .ref 94]) rfl (fun _ => rfl) ?_
  refine pr_iald (pc1 := 19) (x := (-1)) rfl (pg_128 a2 a3 a4) rfl rfl rfl ?_
  refine pr_bt (t := 67) (off := 48) (bb := decide (((-1) : Int32) < 0)) (st1 := []) rfl rfl rfl rfl (by decide) ?_
  refine pr_s (pc1 := 70) (lv1 := [(2, .int 8), (1, .int 0), (0, .ref 92)]) (st1 := []) rfl (fun _ => rfl) ?_
  refine pr_s (pc1 := 4) (st1 := []) rfl (fun _ => rfl) ?_
  refine pr_s (pc1 := 5) (st1 := [.int 8]) rfl (fun _ => rfl) ?_
  refine pr_s (pc1 := 7) (st1 := [.int 48, .int 8]) rfl (fun _ => rfl) ?_
  refine pr_bf (t := 73) (off := 66) (bb := decide ((48 : Int32) ≤ (8 : Int32))) (st1 := []) rfl rfl rfl rfl (by decide) ?_
  refine pr_s (pc1 := 11) (st1 := [.ref 92]) rfl (fun _ => rfl) ?_
  refine pr_getf (pc1 := 14) (v := .ref 93) rfl rfl (pg_119 a2 a3 a4) rfl rfl ?_
  refine pr_getf (pc1 := 17) (v := .ref 94) rfl rfl (pg_120 a2 a3 a4) rfl rfl ?_
  refine pr_s (pc1 := 18) (st1 := [.int 8, .ref 94]) rfl (fun _ => rfl) ?_
  refine pr_iald (pc1 := 19) (x := (-1)) rfl (pg_128 a2 a3 a4) rfl rfl rfl ?_
  refine pr_bt (t := 67) (off := 48) (bb := decide (((-1) : Int32) < 0)) (st1 := []) rfl rfl rfl rfl (by decide) ?_
  refine pr_s (pc1 := 70) (lv1 := [(2, .int 9), (1, .int 0), (0, .ref 92)]) (st1 := []) rfl (fun _ => rfl) ?_
  refine pr_s (pc1 := 4) (st1 := []) rfl (fun _ => rfl) ?_
  refine pr_s (pc1 := 5) (st1 := [.int 9]) rfl (fun _ => rfl) ?_
  refine pr_s (pc1 := 7) (st1 := [.int 48, .int 9]) rfl (fun _ => rfl) ?_
  refine pr_bf (t := 73) (off := 66) (bb := decide ((48 : Int32) ≤ (9 : Int32))) (st1 := []) rfl rfl rfl rfl (by decide) ?_
  refine pr_s (pc1 := 11) (st1 := [.ref 92]) rfl (fun _ => rfl) ?_
  refine pr_getf (pc1 := 14) (v := .ref 93) rfl rfl (pg_119 a2 a3 a4) rfl rfl ?_
  refine pr_getf (pc1 := 17) (v := .ref 94) rfl rfl (pg_120 a2 a3 a4) rfl rfl ?_
  refine pr_s (pc1 := 18) (st1 := [.int 9, .ref 94]) rfl (fun _ => rfl) ?_
  refine pr_iald (pc1 := 19) (x := (-1)) rfl (pg_128 a2 a3 a4) rfl rfl rfl ?_
  refine pr_bt (t := 67) (off := 48) (bb := decide (((-1) : Int32) < 0)) (st1 := []) rfl rfl rfl rfl (by decide) ?_
  refine pr_s (pc1 := 70) (lv1 := [(2, .int 10), (1, .int 0), (0, .ref 92)]) (st1 := []) rfl (fun _ => rfl) ?_
  refine pr_s (pc1 := 4) (st1 := []) rfl (fun _ => rfl) ?_
  refine pr_s (pc1 := 5) (st1 := [.int 10]) rfl (fun _ => rfl) ?_
  refine pr_s (pc1 := 7) (st1 := [.int 48, .int 10]) rfl (fun _ => rfl) ?_
  refine pr_bf (t := 73) (off := 66) (bb := decide ((48 : Int32) ≤ (10 : Int32))) (st1 := []) rfl rfl rfl rfl (by decide) ?_
  refine pr_s (pc1 := 11) (st1 := [.ref 92]) rfl (fun _ => rfl) ?_
  refine pr_getf (pc1 := 14) (v := .ref 93) rfl rfl (pg_119 a2 a3 a4) rfl rfl ?_
  refine pr_getf (pc1 := 17) (v := .ref 94) rfl rfl (pg_120 a2 a3 a4) rfl rfl ?_
  refine pr_s (pc1 := 18) (st1 := [.int 10, .ref 94]) rfl (fun _ => rfl) ?_
  refine pr_iald (pc1 := 19) (x := (-1)) rfl (pg_128 a2 a3 a4) rfl rfl rfl ?_
  refine pr_bt (t := 67) (off := 48) (bb := decide (((-1) : Int32) < 0)) (st1 := []) rfl rfl rfl rfl (by decide) ?_
  refine pr_s (pc1 := 70) (lv1 := [(2, .int 11), (1, .int 0), (0, .ref 92)]) (st1 := []) rfl (fun _ => rfl) ?_
  refine pr_s (pc1 := 4) (st1 := []) rfl (fun _ => rfl) ?_
  refine pr_s (pc1 := 5) (st1 := [.int 11]) rfl (fun _ => rfl) ?_
  refine pr_s (pc1 := 7) (st1 := [.int 48, .int 11]) rfl (fun _ => rfl) ?_
  refine pr_bf (t := 73) (off := 66) (bb := decide ((48 : Int32) ≤ (11 : Int32))) (st1 := []) rfl rfl rfl rfl (by decide) ?_
  refine pr_s (pc1 := 11) (st1 := [.ref 92]) rfl (fun _ => rfl) ?_
  refine pr_getf (pc1 := 14) (v := .ref 93) rfl rfl (pg_119 a2 a3 a4) rfl rfl ?_
  refine pr_getf (pc1 := 17) (v := .ref 94) rfl rfl (pg_120 a2 a3 a4) rfl rfl ?_
  refine pr_s (pc1 := 18) (st1 := [.int 11, .ref 94]) rfl (fun _ => rfl) ?_
  refine pr_iald (pc1 := 19) (x := (-1)) rfl (pg_128 a2 a3 a4) rfl rfl rfl ?_
  refine pr_bt (t := 67) (off := 48) (bb := decide (((-1) : Int32) < 0)) (st1 := []) rfl rfl rfl rfl (by decide) ?_
  refine pr_s (pc1 := 70) (lv1 := [(2, .int 12), (1, .int 0), (0, .ref 92)]) (st1 := []) rfl (fun _ => rfl) ?_
  refine pr_s (pc1 := 4) (st1 := []) rfl (fun _ => rfl) ?_
  refine pr_s (pc1 := 5) (st1 := [.int 12]) rfl (fun _ => rfl) ?_
  refine pr_s (pc1 := 7) (st1 := [.int 48, .int 12]) rfl (fun _ => rfl) ?_
  refine pr_bf (t := 73) (off := 66) (bb := decide ((48 : Int32) ≤ (12 : Int32))) (st1 := []) rfl rfl rfl rfl (by decide) ?_
  refine pr_s (pc1 := 11) (st1 := [.ref 92]) rfl (fun _ => rfl) ?_
  refine pr_getf (pc1 := 14) (v := .ref 93) rfl rfl (pg_119 a2 a3 a4) rfl rfl ?_
  refine pr_getf (pc1 := 17) (v := .ref 94) rfl rfl (pg_120 a2 a3 a4) rfl rfl ?_
  refine pr_s (pc1 := 18) (st1 := [.int 12, .ref 94]) rfl (fun _ => rfl) ?_
  refine pr_iald (pc1 := 19) (x := (-1)) rfl (pg_128 a2 a3 a4) rfl rfl rfl ?_
  refine pr_bt (t := 67) (off := 48) (bb := decide (((-1) : Int32) < 0)) (st1 := []) rfl rfl rfl rfl (by decide) ?_
  refine pr_s (pc1 := 70) (lv1 := [(2, .int 13), (1, .int 0), (0, .ref 92)]) (st1 := []) rfl (fun _ => rfl) ?_
  refine pr_s (pc1 := 4) (st1 := []) rfl (fun _ => rfl) ?_
  refine pr_s (pc1 := 5) (st1 := [.int 13]) rfl (fun _ => rfl) ?_
  refine pr_s (pc1 := 7) (st1 := [.int 48, .int 13]) rfl (fun _ => rfl) ?_
  refine pr_bf (t := 73) (off := 66) (bb := decide ((48 : Int32) ≤ (13 : Int32))) (st1 := []) rfl rfl rfl rfl (by decide) ?_
  refine pr_s (pc1 := 11) (st1 := [.ref 92]) rfl (fun _ => rfl) ?_
  refine pr_getf (pc1 := 14) (v := .ref 93) rfl rfl (pg_119 a2 a3 a4) rfl rfl ?_
  refine pr_getf (pc1 := 17) (v := .ref 94) rfl rfl (pg_120 a2 a3 a4) rfl rfl ?_
  refine pr_s (pc1 := 18) (st1 := [.int 13, .ref 94]) rfl (fun _ => rfl) ?_
  refine pr_iald (pc1 := 19) (x := (-1)) rfl (pg_128 a2 a3 a4) rfl rfl rfl ?_
  refine pr_bt (t := 67) (off := 48) (bb := decide (((-1) : Int32) < 0)) (st1 := []) rfl rfl rfl rfl (by decide) ?_
  refine pr_s (pc1 := 70) (lv1 := [(2, .int 14), (1, .int 0), (0, .ref 92)]) (st1 := []) rfl (fun _ => rfl) ?_
  refine pr_s (pc1 := 4) (st1 := []) rfl (fun _ => rfl) ?_
  refine pr_s (pc1 := 5) (st1 := [.int 14]) rfl (fun _ => rfl) ?_
  refine pr_s (pc1 := 7) (st1 := [.int 48, .int 14]) rfl (fun _ => rfl) ?_
  refine pr_bf (t := 73) (off := 66) (bb := decide ((48 : Int32) ≤ (14 : Int32))) (st1 := []) rfl rfl rfl rfl (by decide) ?_
  refine pr_s (pc1 := 11) (st1 := [.ref 92]) rfl (fun _ => rfl) ?_
  refine pr_getf (pc1 := 14) (v := .ref 93) rfl rfl (pg_119 a2 a3 a4) rfl rfl ?_
  refine pr_getf (pc1 := 17) (v := .ref 94) rfl rfl (pg_120 a2 a3 a4) rfl rfl ?_
  refine pr_s (pc1 := 18) (st1 := [.int 14, .ref 94]) rfl (fun _ => rfl) ?_
  refine pr_iald (pc1 := 19) (x := (-1)) rfl (pg_128 a2 a3 a4) rfl rfl rfl ?_
  refine pr_bt (t := 67) (off := 48) (bb := decide (((-1) : Int32) < 0)) (st1 := []) rfl rfl rfl rfl (by decide) ?_
  refine pr_s (pc1 := 70) (lv1 := [(2, .int 15), (1, .int 0), (0, .ref 92)]) (st1 := []) rfl (fun _ => rfl) ?_
  refine pr_s (pc1 := 4) (st1 := []) rfl (fun _ => rfl) ?_
  refine pr_s (pc1 := 5) (st1 := [.int 15]) rfl (fun _ => rfl) ?_
  refine pr_s (pc1 := 7) (st1 := [.int 48, .int 15]) rfl (fun _ => rfl) ?_
  refine pr_bf (t := 73) (off := 66) (bb := decide ((48 : Int32) ≤ (15 : Int32))) (st1 := []) rfl rfl rfl rfl (by decide) ?_
  refine pr_s (pc1 := 11) (st1 := [.ref 92]) rfl (fun _ => rfl) ?_
  refine pr_getf (pc1 := 14) (v := .ref 93) rfl rfl (pg_119 a2 a3 a4) rfl rfl ?_
  refine pr_getf (pc1 := 17) (v := .ref 94) rfl rfl (pg_120 a2 a3 a4) rfl rfl ?_
  refine pr_s (pc1 := 18) (st1 := [.int 15, .ref 94]) rfl (fun _ => rfl) ?_
  refine pr_iald (pc1 := 19) (x := (-1)) rfl (pg_128 a2 a3 a4) rfl rfl rfl ?_
  refine pr_bt (t := 67) (off := 48) (bb := decide (((-1) : Int32) < 0)) (st1 := []) rfl rfl rfl rfl (by decide) ?_
  refine pr_s (pc1 := 70) (lv1 := [(2, .int 16), (1, .int 0), (0, .ref 92)]) (st1 := []) rfl (fun _ => rfl) ?_
  refine pr_s (pc1 := 4) (st1 := []) rfl (fun _ => rfl) ?_
  refine pr_s (pc1 := 5) (st1 := [.int 16]) rfl (fun _ => rfl) ?_
  refine pr_s (pc1 := 7) (st1 := [.int 48, .int 16]) rfl (fun _ => rfl) ?_
  refine pr_bf (t := 73) (off := 66) (bb := decide ((48 : Int32) ≤ (16 : Int32))) (st1 := []) rfl rfl rfl rfl (by decide) ?_
  refine pr_s (pc1 := 11) (st1 := [.ref 92]) rfl (fun _ => rfl) ?_
  refine pr_getf (pc1 := 14) (v := .ref 93) rfl rfl (pg_119 a2 a3 a4) rfl rfl ?_
  refine pr_getf (pc1 := 17) (v := .ref 94) rfl rfl (pg_120 a2 a3 a4) rfl rfl ?_
  refine pr_s (pc1 := 18) (st1 := [.int 16, .ref 94]) rfl (fun _ => rfl) ?_
  refine pr_iald (pc1 := 19) (x := (-1)) rfl (pg_128 a2 a3 a4) rfl rfl rfl ?_
  refine pr_bt (t := 67) (off := 48) (bb := decide (((-1) : Int32) < 0)) (st1 := []) rfl rfl rfl rfl (by decide) ?_
  refine pr_s (pc1 := 70) (lv1 := [(2, .int 17), (1, .int 0), (0, .ref 92)]) (st1 := []) rfl (fun _ => rfl) ?_
  refine pr_s (pc1 := 4) (st1 := []) rfl (fun _ => rfl) ?_
  refine pr_s (pc1 := 5) (st1 := [.int 17]) rfl (fun _ => rfl) ?_
  refine pr_s (pc1 := 7) (st1 := [.int 48, .int 17]) rfl (fun _ => rfl) ?_
  refine pr_bf (t := 73) (off := 66) (bb := decide ((48 : Int32) ≤ (17 : Int32))) (st1 := []) rfl rfl rfl rfl (by decide) ?_
  refine pr_s (pc1 := 11) (st1 := [.ref 92]) rfl (fun _ => rfl) ?_
  refine pr_getf (pc1 := 14) (v := .ref 93) rfl rfl (pg_119 a2 a3 a4) rfl rfl ?_
  refine pr_getf (pc1 := 17) (v := .ref 94) rfl rfl (pg_120 a2 a3 a4) rfl rfl ?_
  refine pr_s (pc1 := 18) (st1 := [.int 17, .ref 94]) rfl (fun _ => rfl) ?_
  refine pr_iald (pc1 := 19) (x := (-1)) rfl (pg_128 a2 a3 a4) rfl rfl rfl ?_
  refine pr_bt (t := 67) (off := 48) (bb := decide (((-1) : Int32) < 0)) (st1 := []) rfl rfl rfl rfl (by decide) ?_
  refine pr_s (pc1 := 70) (lv1 := [(2, .int 18), (1, .int 0), (0, .ref 92)]) (st1 := []) rfl (fun _ => rfl) ?_
  refine pr_s (pc1 := 4) (st1 := []) rfl (fun _ => rfl) ?_
  refine pr_s (pc1 := 5) (st1 := [.int 18]) rfl (fun _ => rfl) ?_
  refine pr_s (pc1 := 7) (st1 := [.int 48, .int 18]) rfl (fun _ => rfl) ?_
  refine pr_bf (t := 73) (off := 66) (bb := decide ((48 : Int32) ≤ (18 : Int32))) (st1 := []) rfl rfl rfl rfl (by decide) ?_
  refine pr_s (pc1 := 11) (st1 := [.ref 92]) rfl (fun _ => rfl) ?_
  refine pr_getf (pc1 := 14) (v := .ref 93) rfl rfl (pg_119 a2 a3 a4) rfl rfl ?_
  refine pr_getf (pc1 := 17) (v := .ref 94) rfl rfl (pg_120 a2 a3 a4) rfl rfl ?_
  refine pr_s (pc1 := 18) (st1 := [.int 18, .ref 94]) rfl (fun _ => rfl) ?_
  refine pr_iald (pc1 := 19) (x := (-1)) rfl (pg_128 a2 a3 a4) rfl rfl rfl ?_
  refine pr_bt (t := 67) (off := 48) (bb := decide (((-1) : Int32) < 0)) (st1 := []) rfl rfl rfl rfl (by decide) ?_
  refine pr_s (pc1 := 70) (lv1 := [(2, .int 19), (1, .int 0), (0, .ref 92)]) (st1 := []) rfl (fun _ => rfl) ?_
  refine pr_s (pc1 := 4) (st1 := []) rfl (fun _ => rfl) ?_
  refine pr_s (pc1 := 5) (st1 := [.int 19]) rfl (fun _ => rfl) ?_
  refine pr_s (pc1 := 7) (st1 := [.int 48, .int 19]) rfl (fun _ => rfl) ?_
  refine pr_bf (t := 73) (off := 66) (bb := decide ((48 : Int32) ≤ (19 : Int32))) (st1 := []) rfl rfl rfl rfl (by decide) ?_
  refine pr_s (pc1 := 11) (st1 := [.ref 92]) rfl (fun _ => rfl) ?_
  refine pr_getf (pc1 := 14) (v := .ref 93) rfl rfl (pg_119 a2 a3 a4) rfl rfl ?_
  refine pr_getf (pc1 := 17) (v := .ref 94) rfl rfl (pg_120 a2 a3 a4) rfl rfl ?_
  refine pr_s (pc1 := 18) (st1 := [.int 19, .ref 94]) rfl (fun _ => rfl) ?_
  refine pr_iald (pc1 := 19) (x := (-1)) rfl (pg_128 a2 a3 a4) rfl rfl rfl ?_
  refine pr_bt (t := 67) (off := 48) (bb := decide (((-1) : Int32) < 0)) (st1 := []) rfl rfl rfl rfl (by decide) ?_
  refine pr_s (pc1 := 70) (lv1 := [(2, .int 20), (1, .int 0), (0, .ref 92)]) (st1 := []) rfl (fun _ => rfl) ?_
  refine pr_s (pc1 := 4) (st1 := []) rfl (fun _ => rfl) ?_
  refine pr_s (pc1 := 5) (st1 := [.int 20]) rfl (fun _ => rfl) ?_
  refine pr_s (pc1 := 7) (st1 := [.int 48, .int 20]) rfl (fun _ => rfl) ?_
  refine pr_bf (t := 73) (off := 66) (bb := decide ((48 : Int32) ≤ (20 : Int32))) (st1 := []) rfl rfl rfl rfl (by decide) ?_
  refine pr_s (pc1 := 11) (st1 := [.ref 92]) rfl (fun _ => rfl) ?_
  refine pr_getf (pc1 := 14) (v := .ref 93) rfl rfl (pg_119 a2 a3 a4) rfl rfl ?_
  refine pr_getf (pc1 := 17) (v := .ref 94) rfl rfl (pg_120 a2 a3 a4) rfl rfl ?_
  refine pr_s (pc1 := 18) (st1 := [.int 20, .ref 94]) rfl (fun _ => rfl) ?_
  refine pr_iald (pc1 := 19) (x := (-1)) rfl (pg_128 a2 a3 a4) rfl rfl rfl ?_
  refine pr_bt (t := 67) (off := 48) (bb := decide (((-1) : Int32) < 0)) (st1 := []) rfl rfl rfl rfl (by decide) ?_
  refine pr_s (pc1 := 70) (lv1 := [(2, .int 21), (1, .int 0), (0, .ref 92)]) (st1 := []) rfl (fun _ => rfl) ?_
  refine pr_s (pc1 := 4) (st1 := []) rfl (fun _ => rfl) ?_
  refine pr_s (pc1 := 5) (st1 := [.int 21]) rfl (fun _ => rfl) ?_
  refine pr_s (pc1 := 7) (st1 := [.int 48, .int 21]) rfl (fun _ => rfl) ?_
  refine pr_bf (t := 73) (off := 66) (bb := decide ((48 : Int32) ≤ (21 : Int32))) (st1 := []) rfl rfl rfl rfl (by decide) ?_
  refine pr_s (pc1 := 11) (st1 := [.ref 92]) rfl (fun _ => rfl) ?_
  refine pr_getf (pc1 := 14) (v := .ref 93) rfl rfl (pg_119 a2 a3 a4) rfl rfl ?_
  refine pr_getf (pc1 := 17) (v := .ref 94) rfl rfl (pg_120 a2 a3 a4) rfl rfl ?_
  refine pr_s (pc1 := 18) (st1 := [.int 21, .ref 94]) rfl (fun _ => rfl) ?_
  refine pr_iald (pc1 := 19) (x := (-1)) rfl (pg_128 a2 a3 a4) rfl rfl rfl ?_
  refine pr_bt (t := 67) (off := 48) (bb := decide (((-1) : Int32) < 0)) (st1 := []) rfl rfl rfl rfl (by decide) ?_
  refine pr_s (pc1 := 70) (lv1 := [(2, .int 22), (1, .int 0), (0, .ref 92)]) (st1 := []) rfl (fun _ => rfl) ?_
  refine pr_s (pc1 := 4) (st1 := []) rfl (fun _ => rfl) ?_
  refine pr_s (pc1 := 5) (st1 := [.int 22]) rfl (fun _ => rfl) ?_
  refine pr_s (pc1 := 7) (st1 := [.int 48, .int 22]) rfl (fun _ => rfl) ?_
  refine pr_bf (t := 73) (off := 66) (bb := decide ((48 : Int32) ≤ (22 : Int32))) (st1 := []) rfl rfl rfl rfl (by decide) ?_
  refine pr_s (pc1 := 11) (st1 := [.ref 92]) rfl (fun _ => rfl) ?_
  refine pr_getf (pc1 := 14) (v := .ref 93) rfl rfl (pg_119 a2 a3 a4) rfl rfl ?_
  refine pr_getf (pc1 := 17) (v := .ref 94) rfl rfl (pg_120 a2 a3 a4) rfl rfl ?_
  refine pr_s (pc1 := 18) (st1 := [.int 22, .ref 94]) rfl (fun _ => rfl) ?_
  refine pr_iald (pc1 := 19) (x := (-1)) rfl (pg_128 a2 a3 a4) rfl rfl rfl ?_
  refine pr_bt (t := 67) (off := 48) (bb := decide (((-1) : Int32) < 0)) (st1 := []) rfl rfl rfl rfl (by decide) ?_
  refine pr_s (pc1 := 70) (lv1 := [(2, .int 23), (1, .int 0), (0, .ref 92)]) (st1 := []) rfl (fun _ => rfl) ?_
  refine pr_s (pc1 := 4) (st1 := []) rfl (fun _ => rfl) ?_
  refine pr_s (pc1 := 5) (st1 := [.int 23]) rfl (fun _ => rfl) ?_
  refine pr_s (pc1 := 7) (st1 := [.int 48, .int 23]) rfl (fun _ => rfl) ?_
  refine pr_bf (t := 73) (off := 66) (bb := decide ((48 : Int32) ≤ (23 : Int32))) (st1 := []) rfl rfl rfl rfl (by decide) ?_
  refine pr_s (pc1 := 11) (st1 := [.ref 92]) rfl (fun _ => rfl) ?_
  refine pr_getf (pc1 := 14) (v := .ref 93) rfl rfl (pg_119 a2 a3 a4) rfl rfl ?_
  refine pr_getf (pc1 := 17) (v := .ref 94) rfl rfl (pg_120 a2 a3 a4) rfl rfl ?_
  refine pr_s (pc1 := 18) (st1 := [.int 23, .ref 94]) rfl (fun _ => rfl) ?_
  refine pr_iald (pc1 := 19) (x := (-1)) rfl (pg_128 a2 a3 a4) rfl rfl rfl ?_
  refine pr_bt (t := 67) (off := 48) (bb := decide (((-1) : Int32) < 0)) (st1 := []) rfl rfl rfl rfl (by decide) ?_
  refine pr_s (pc1 := 70) (lv1 := [(2, .int 24), (1, .int 0), (0, .ref 92)]) (st1 := []) rfl (fun _ => rfl) ?_
  refine pr_s (pc1 := 4) (st1 := []) rfl (fun _ => rfl) ?_
  refine pr_s (pc1 := 5) (st1 := [.int 24]) rfl (fun _ => rfl) ?_
  refine pr_s (pc1 := 7) (st1 := [.int 48, .int 24]) rfl (fun _ => rfl) ?_
  refine pr_bf (t := 73) (off := 66) (bb := decide ((48 : Int32) ≤ (24 : Int32))) (st1 := []) rfl rfl rfl rfl (by decide) ?_
  refine pr_s (pc1 := 11) (st1 := [.ref 92]) rfl (fun _ => rfl) ?_
  refine pr_getf (pc1 := 14) (v := .ref 93) rfl rfl (pg_119 a2 a3 a4) rfl rfl ?_
  refine pr_getf (pc1 := 17) (v := .ref 94) rfl rfl (pg_120 a2 a3 a4) rfl rfl ?_
  refine pr_s (pc1 := 18) (st1 := [.int 24, .ref 94]) rfl (fun _ => rfl) ?_
  refine pr_iald (pc1 := 19) (x := (-1)) rfl (pg_128 a2 a3 a4) rfl rfl rfl ?_
  refine pr_bt (t := 67) (off := 48) (bb := decide (((-1) : Int32) < 0)) (st1 := []) rfl rfl rfl rfl (by decide) ?_
  refine pr_s (pc1 := 70) (lv1 := [(2, .int 25), (1, .int 0), (0, .ref 92)]) (st1 := []) rfl (fun _ => rfl) ?_
  refine pr_s (pc1 := 4) (st1 := []) rfl (fun _ => rfl) ?_
  refine pr_s (pc1 := 5) (st1 := [.int 25]) rfl (fun _ => rfl) ?_
  refine pr_s (pc1 := 7) (st1 := [.int 48, .int 25]) rfl (fun _ => rfl) ?_
  refine pr_bf (t := 73) (off := 66) (bb := decide ((48 : Int32) ≤ (25 : Int32))) (st1 := []) rfl rfl rfl rfl (by decide) ?_
  refine pr_s (pc1 := 11) (st1 := [.ref 92]) rfl (fun _ => rfl) ?_
  refine pr_getf (pc1 := 14) (v := .ref 93) rfl rfl (pg_119 a2 a3 a4) rfl rfl ?_
  refine pr_getf (pc1 := 17) (v := .ref 94) rfl rfl (pg_120 a2 a3 a4) rfl rfl ?_
  refine pr_s (pc1 := 18) (st1 := [.int 25, .ref 94]) rfl (fun _ => rfl) ?_
  refine pr_iald (pc1 := 19) (x := (-1)) rfl (pg_128 a2 a3 a4) rfl rfl rfl ?_
  refine pr_bt (t := 67) (off := 48) (bb := decide (((-1) : Int32) < 0)) (st1 := []) rfl rfl rfl rfl (by decide) ?_
  refine pr_s (pc1 := 70) (lv1 := [(2, .int 26), (1, .int 0), (0, .ref 92)]) (st1 := []) rfl (fun _ => rfl) ?_
  refine pr_s (pc1 := 4) (st1 := []) rfl (fun _ => rfl) ?_
  refine pr_s (pc1 := 5) (st1 := [.int 26]) rfl (fun _ => rfl) ?_
  refine pr_s (pc1 := 7) (st1 := [.int 48, .int 26]) rfl (fun _ => rfl) ?_
  refine pr_bf (t := 73) (off := 66) (bb := decide ((48 : Int32) ≤ (26 : Int32))) (st1 := []) rfl rfl rfl rfl (by decide) ?_
  refine pr_s (pc1 := 11) (st1 := [.ref 92]) rfl (fun _ => rfl) ?_
  refine pr_getf (pc1 := 14) (v := .ref 93) rfl rfl (pg_119 a2 a3 a4) rfl rfl ?_
  refine pr_getf (pc1 := 17) (v := .ref 94) rfl rfl (pg_120 a2 a3 a4) rfl rfl ?_
  refine pr_s (pc1 := 18) (st1 := [.int 26, .ref 94]) rfl (fun _ => rfl) ?_
  refine pr_iald (pc1 := 19) (x := (-1)) rfl (pg_128 a2 a3 a4) rfl rfl rfl ?_
  refine pr_bt (t := 67) (off := 48) (bb := decide (((-1) : Int32) < 0)) (st1 := []) rfl rfl rfl rfl (by decide) ?_
  refine pr_s (pc1 := 70) (lv1 := [(2, .int 27), (1, .int 0), (0, .ref 92)]) (st1 := []) rfl (fun _ => rfl) ?_
  refine pr_s (pc1 := 4) (st1 := []) rfl (fun _ => rfl) ?_
  refine pr_s (pc1 := 5) (st1 := [.int 27]) rfl (fun _ => rfl) ?_
  refine pr_s (pc1 := 7) (st1 := [.int 48, .int 27]) rfl (fun _ => rfl) ?_
  refine pr_bf (t := 73) (off := 66) (bb := decide ((48 : Int32) ≤ (27 : Int32))) (st1 := []) rfl rfl rfl rfl (by decide) ?_
  refine pr_s (pc1 := 11) (st1 := [.ref 92]) rfl (fun _ => rfl) ?_
  refine pr_getf (pc1 := 14) (v := .ref 93) rfl rfl (pg_119 a2 a3 a4) rfl rfl ?_
  refine pr_getf (pc1 := 17) (v := .ref 94) rfl rfl (pg_120 a2 a3 a4) rfl rfl ?_
  refine pr_s (pc1 := 18) (st1 := [.int 27, .ref 94]) rfl (fun _ => rfl) ?_
  refine pr_iald (pc1 := 19) (x := (-1)) rfl (pg_128 a2 a3 a4) rfl rfl rfl ?_
  refine pr_bt (t := 67) (off := 48) (bb := decide (((-1) : Int32) < 0)) (st1 := []) rfl rfl rfl rfl (by decide) ?_
  refine pr_s (pc1 := 70) (lv1 := [(2, .int 28), (1, .int 0), (0, .ref 92)]) (st1 := []) rfl (fun _ => rfl) ?_
  refine pr_s (pc1 := 4) (st1 := []) rfl (fun _ => rfl) ?_
  refine pr_s (pc1 := 5) (st1 := [.int 28]) rfl (fun _ => rfl) ?_
  refine pr_s (pc1 := 7) (st1 := [.int 48, .int 28]) rfl (fun _ => rfl) ?_
  refine pr_bf (t := 73) (off := 66) (bb := decide ((48 : Int32) ≤ (28 : Int32))) (st1 := []) rfl rfl rfl rfl (by decide) ?_
  refine pr_s (pc1 := 11) (st1 := [.ref 92]) rfl (fun _ => rfl) ?_
  refine pr_getf (pc1 := 14) (v := .ref 93) rfl rfl (pg_119 a2 a3 a4) rfl rfl ?_
  refine pr_getf (pc1 := 17) (v := .ref 94) rfl rfl (pg_120 a2 a3 a4) rfl rfl ?_
  refine pr_s (pc1 := 18) (st1 := [.int 28, .ref 94]) rfl (fun _ => rfl) ?_
  refine pr_iald (pc1 := 19) (x := (-1)) rfl (pg_128 a2 a3 a4) rfl rfl rfl ?_
  refine pr_bt (t := 67) (off := 48) (bb := decide (((-1) : Int32) < 0)) (st1 := []) rfl rfl rfl rfl (by decide) ?_
  refine pr_s (pc1 := 70) (lv1 := [(2, .int 29), (1, .int 0), (0, .ref 92)]) (st1 := []) rfl (fun _ => rfl) ?_
  refine pr_s (pc1 := 4) (st1 := []) rfl (fun _ => rfl) ?_
  refine pr_s (pc1 := 5) (st1 := [.int 29]) rfl (fun _ => rfl) ?_
  refine pr_s (pc1 := 7) (st1 := [.int 48, .int 29]) rfl (fun _ => rfl) ?_
  refine pr_bf (t := 73) (off := 66) (bb := decide ((48 : Int32) ≤ (29 : Int32))) (st1 := []) rfl rfl rfl rfl (by decide) ?_
  refine pr_s (pc1 := 11) (st1 := [.ref 92]) rfl (fun _ => rfl) ?_
  refine pr_getf (pc1 := 14) (v := .ref 93) rfl rfl (pg_119 a2 a3 a4) rfl rfl ?_
  refine pr_getf (pc1 := 17) (v := .ref 94) rfl rfl (pg_120 a2 a3 a4) rfl rfl ?_
  refine pr_s (pc1 := 18) (st1 := [.int 29, .ref 94]) rfl (fun _ => rfl) ?_
  refine pr_iald (pc1 := 19) (x := (-1)) rfl (pg_128 a2 a3 a4) rfl rfl rfl ?_
  refine pr_bt (t := 67) (off := 48) (bb := decide (((-1) : Int32) < 0)) (st1 := []) rfl rfl rfl rfl (by decide) ?_
  refine pr_s (pc1 := 70) (lv1 := [(2, .int 30), (1, .int 0), (0, .ref 92)]) (st1 := []) rfl (fun _ => rfl) ?_
  refine pr_s (pc1 := 4) (st1 := []) rfl (fun _ => rfl) ?_
  refine pr_s (pc1 := 5) (st1 := [.int 30]) rfl (fun _ => rfl) ?_
  refine pr_s (pc1 := 7) (st1 := [.int 48, .int 30]) rfl (fun _ => rfl) ?_
  refine pr_bf (t := 73) (off := 66) (bb := decide ((48 : Int32) ≤ (30 : Int32))) (st1 := []) rfl rfl rfl rfl (by decide) ?_
  refine pr_s (pc1 := 11) (st1 := [.ref 92]) rfl (fun _ => rfl) ?_
  refine pr_getf (pc1 := 14) (v := .ref 93) rfl rfl (pg_119 a2 a3 a4) rfl rfl ?_
  refine pr_getf (pc1 := 17) (v := .ref 94) rfl rfl (pg_120 a2 a3 a4) rfl rfl ?_
  refine pr_s (pc1 := 18) (st1 := [.int 30, .ref 94]) rfl (fun _ => rfl) ?_
  refine pr_iald (pc1 := 19) (x := (-1)) rfl (pg_128 a2 a3 a4) rfl rfl rfl ?_
  refine pr_bt (t := 67) (off := 48) (bb := decide (((-1) : Int32) < 0)) (st1 := []) rfl rfl rfl rfl (by decide) ?_
  refine pr_s (pc1 := 70) (lv1 := [(2, .int 31), (1, .int 0), (0, .ref 92)]) (st1 := []) rfl (fun _ => rfl) ?_
  refine pr_s (pc1 := 4) (st1 := []) rfl (fun _ => rfl) ?_
  refine pr_s (pc1 := 5) (st1 := [.int 31]) rfl (fun _ => rfl) ?_
  refine pr_s (pc1 := 7) (st1 := [.int 48, .int 31]) rfl (fun _ => rfl) ?_
  refine pr_bf (t := 73) (off := 66) (bb := decide ((48 : Int32) ≤ (31 : Int32))) (st1 := []) rfl rfl rfl rfl (by decide) ?_
  refine pr_s (pc1 := 11) (st1 := [.ref 92]) rfl (fun _ => rfl) ?_
  refine pr_getf (pc1 := 14) (v := .ref 93) rfl rfl (pg_119 a2 a3 a4) rfl rfl ?_
  refine pr_getf (pc1 := 17) (v := .ref 94) rfl rfl (pg_120 a2 a3 a4) rfl rfl ?_
  refine pr_s (pc1 := 18) (st1 := [.int 31, .ref 94]) rfl (fun _ => rfl) ?_
  refine pr_iald (pc1 := 19) (x := (-1)) rfl (pg_128 a2 a3 a4) rfl rfl rfl ?_
  refine pr_bt (t := 67) (off := 48) (bb := decide (((-1) : Int32) < 0)) (st1 := []) rfl rfl rfl rfl (by decide) ?_
  refine pr_s (pc1 := 70) (lv1 := [(2, .int 32), (1, .int 0), (0, .ref 92)]) (st1 := []) rfl (fun _ => rfl) ?_
  refine pr_s (pc1 := 4) (st1 := []) rfl (fun _ => rfl) ?_
  refine pr_s (pc1 := 5) (st1 := [.int 32]) rfl (fun _ => rfl) ?_
  refine pr_s (pc1 := 7) (st1 := [.int 48, .int 32]) rfl (fun _ => rfl) ?_
  refine pr_bf (t := 73) (off := 66) (bb := decide ((48 : Int32) ≤ (32 : Int32))) (st1 := []) rfl rfl rfl rfl (by decide) ?_
  refine pr_s (pc1 := 11) (st1 := [.ref 92]) rfl (fun _ => rfl) ?_
  refine pr_getf (pc1 := 14) (v := .ref 93) rfl rfl (pg_119 a2 a3 a4) rfl rfl ?_
  refine pr_getf (pc1 := 17) (v := .ref 94) rfl rfl (pg_120 a2 a3 a4) rfl rfl ?_
  refine pr_s (pc1 := 18) (st1 := [.int 32, .ref 94]) rfl (fun _ => rfl) ?_
  refine pr_iald (pc1 := 19) (x := (-1)) rfl (pg_128 a2 a3 a4) rfl rfl rfl ?_
  refine pr_bt (t := 67) (off := 48) (bb := decide (((-1) : Int32) < 0)) (st1 := []) rfl rfl rfl rfl (by decide) ?_
  refine pr_s (pc1 := 70) (lv1 := [(2, .int 33), (1, .int 0), (0, .ref 92)]) (st1 := []) rfl (fun _ => rfl) ?_
  refine pr_s (pc1 := 4) (st1 := []) rfl (fun _ => rfl) ?_
  refine pr_s (pc1 := 5) (st1 := [.int 33]) rfl (fun _ => rfl) ?_
  refine pr_s (pc1 := 7) (st1 := [.int 48, .int 33]) rfl (fun _ => rfl) ?_
  refine pr_bf (t := 73) (off := 66) (bb := decide ((48 : Int32) ≤ (33 : Int32))) (st1 := []) rfl rfl rfl rfl (by decide) ?_
  refine pr_s (pc1 := 11) (st1 := [.ref 92]) rfl (fun _ => rfl) ?_
  refine pr_getf (pc1 := 14) (v := .ref 93) rfl rfl (pg_119 a2 a3 a4) rfl rfl ?_
  refine pr_getf (pc1 := 17) (v := .ref 94) rfl rfl (pg_120 a2 a3 a4) rfl rfl ?_
  refine pr_s (pc1 := 18) (st1 := [.int 33, .ref 94]) rfl (fun _ => rfl) ?_
  refine pr_iald (pc1 := 19) (x := (-1)) rfl (pg_128 a2 a3 a4) rfl rfl rfl ?_
  refine pr_bt (t := 67) (off := 48) (bb := decide (((-1) : Int32) < 0)) (st1 := []) rfl rfl rfl rfl (by decide) ?_
  refine pr_s (pc1 := 70) (lv1 := [(2, .int 34), (1, .int 0), (0, .ref 92)]) (st1 := []) rfl (fun _ => rfl) ?_
  refine pr_s (pc1 := 4) (st1 := []) rfl (fun _ => rfl) ?_
  refine pr_s (pc1 := 5) (st1 := [.int 34]) rfl (fun _ => rfl) ?_
  refine pr_s (pc1 := 7) (st1 := [.int 48, .int 34]) rfl (fun _ => rfl) ?_
  refine pr_bf (t := 73) (off := 66) (bb := decide ((48 : Int32) ≤ (34 : Int32))) (st1 := []) rfl rfl rfl rfl (by decide) ?_
  refine pr_s (pc1 := 11) (st1 := [.ref 92]) rfl (fun _ => rfl) ?_
  refine pr_getf (pc1 := 14) (v := .ref 93) rfl rfl (pg_119 a2 a3 a4) rfl rfl ?_
  refine pr_getf (pc1 := 17) (v := .ref 94) rfl rfl (pg_120 a2 a3 a4) rfl rfl ?_
  refine pr_s (pc1 := 18) (st1 := [.int 34, .ref 94]) rfl (fun _ => rfl) ?_
  refine pr_iald (pc1 := 19) (x := (-1)) rfl (pg_128 a2 a3 a4) rfl rfl rfl ?_
  refine pr_bt (t := 67) (off := 48) (bb := decide (((-1) : Int32) < 0)) (st1 := []) rfl rfl rfl rfl (by decide) ?_
  refine pr_s (pc1 := 70) (lv1 := [(2, .int 35), (1, .int 0), (0, .ref 92)]) (st1 := []) rfl (fun _ => rfl) ?_
  refine pr_s (pc1 := 4) (st1 := []) rfl (fun _ => rfl) ?_
  refine pr_s (pc1 := 5) (st1 := [.int 35]) rfl (fun _ => rfl) ?_
  refine pr_s (pc1 := 7) (st1 := [.int 48, .int 35]) rfl (fun _ => rfl) ?_
  refine pr_bf (t := 73) (off := 66) (bb := decide ((48 : Int32) ≤ (35 : Int32))) (st1 := []) rfl rfl rfl rfl (by decide) ?_
  refine pr_s (pc1 := 11) (st1 := [.ref 92]) rfl (fun _ => rfl) ?_
  refine pr_getf (pc1 := 14) (v := .ref 93) rfl rfl (pg_119 a2 a3 a4) rfl rfl ?_
  refine pr_getf (pc1 := 17) (v := .ref 94) rfl rfl (pg_120 a2 a3 a4) rfl rfl ?_
  refine pr_s (pc1 := 18) (st1 := [.int 35, .ref 94]) rfl (fun _ => rfl) ?_
  refine pr_iald (pc1 := 19) (x := (-1)) rfl (pg_128 a2 a3 a4) rfl rfl rfl ?_
  refine pr_bt (t := 67) (off := 48) (bb := decide (((-1) : Int32) < 0)) (st1 := []) rfl rfl rfl rfl (by decide) ?_
  refine pr_s (pc1 := 70) (lv1 := [(2, .int 36), (1, .int 0), (0, .ref 92)]) (st1 := []) rfl (fun _ => rfl) ?_
  refine pr_s (pc1 := 4) (st1 := []) rfl (fun _ => rfl) ?_
  refine pr_s (pc1 := 5) (st1 := [.int 36]) rfl (fun _ => rfl) ?_
  refine pr_s (pc1 := 7) (st1 := [.int 48, .int 36]) rfl (fun _ => rfl) ?_
  refine pr_bf (t := 73) (off := 66) (bb := decide ((48 : Int32) ≤ (36 : Int32))) (st1 := []) rfl rfl rfl rfl (by decide) ?_
  refine pr_s (pc1 := 11) (st1 := [.ref 92]) rfl (fun _ => rfl) ?_
  refine pr_getf (pc1 := 14) (v := .ref 93) rfl rfl (pg_119 a2 a3 a4) rfl rfl ?_
  refine pr_getf (pc1 := 17) (v := .ref 94) rfl rfl (pg_120 a2 a3 a4) rfl rfl ?_
  refine pr_s (pc1 := 18) (st1 := [.int 36, .ref 94]) rfl (fun _ => rfl) ?_
  refine pr_iald (pc1 := 19) (x := (-1)) rfl (pg_128 a2 a3 a4) rfl rfl rfl ?_
  refine pr_bt (t := 67) (off := 48) (bb := decide (((-1) : Int32) < 0)) (st1 := []) rfl rfl rfl rfl (by decide) ?_
  refine pr_s (pc1 := 70) (lv1 := [(2, .int 37), (1, .int 0), (0, .ref 92)]) (st1 := []) rfl (fun _ => rfl) ?_
  refine pr_s (pc1 := 4) (st1 := []) rfl (fun _ => rfl) ?_
  refine pr_s (pc1 := 5) (st1 := [.int 37]) rfl (fun _ => rfl) ?_
  refine pr_s (pc1 := 7) (st1 := [.int 48, .int 37]) rfl (fun _ => rfl) ?_
  refine pr_bf (t := 73) (off := 66) (bb := decide ((48 : Int32) ≤ (37 : Int32))) (st1 := []) rfl rfl rfl rfl (by decide) ?_
  refine pr_s (pc1 := 11) (st1 := [.ref 92]) rfl (fun _ => rfl) ?_
  refine pr_getf (pc1 := 14) (v := .ref 93) rfl rfl (pg_119 a2 a3 a4) rfl rfl ?_
  refine pr_getf (pc1 := 17) (v := .ref 94) rfl rfl (pg_120 a2 a3 a4) rfl rfl ?_
  refine pr_s (pc1 := 18) (st1 := [.int 37, .ref 94]) rfl (fun _ => rfl) ?_
  refine pr_iald (pc1 := 19) (x := (-1)) rfl (pg_128 a2 a3 a4) rfl rfl rfl ?_
  refine pr_bt (t := 67) (off := 48) (bb := decide (((-1) : Int32) < 0)) (st1 := []) rfl rfl rfl rfl (by decide) ?_
  refine pr_s (pc1 := 70) (lv1 := [(2, .int 38), (1, .int 0), (0, .ref 92)]) (st1 := []) rfl (fun _ => rfl) ?_
  refine pr_s (pc1 := 4) (st1 := []) rfl (fun _ => rfl) ?_
  refine pr_s (pc1 := 5) (st1 := [.int 38]) rfl (fun _ => rfl) ?_
  refine pr_s (pc1 := 7) (st1 := [.int 48, .int 38]) rfl (fun _ => rfl) ?_
  refine pr_bf (t := 73) (off := 66) (bb := decide ((48 : Int32) ≤ (38 : Int32))) (st1 := []) rfl rfl rfl rfl (by decide) ?_
  refine pr_s (pc1 := 11) (st1 := [.ref 92]) rfl (fun _ => rfl) ?_
  refine pr_getf (pc1 := 14) (v := .ref 93) rfl rfl (pg_119 a2 a3 a4) rfl rfl ?_
  refine pr_getf (pc1 := 17) (v := .ref 94) rfl rfl (pg_120 a2 a3 a4) rfl rfl ?_
  refine pr_s (pc1 := 18) (st1 := [.int 38, .ref 94]) rfl (fun _ => rfl) ?_
  refine pr_iald (pc1 := 19) (x := (-1)) rfl (pg_128 a2 a3 a4) rfl rfl rfl ?_
  refine pr_bt (t := 67) (off := 48) (bb := decide (((-1) : Int32) < 0)) (st1 := []) rfl rfl rfl rfl (by decide) ?_
  refine pr_s (pc1 := 70) (lv1 := [(2, .int 39), (1, .int 0), (0, .ref 92)]) (st1 := []) rfl (fun _ => rfl) ?_
  refine pr_s (pc1 := 4) (st1 := []) rfl (fun _ => rfl) ?_
  refine pr_s (pc1 := 5) (st1 := [.int 39]) rfl (fun _ => rfl) ?_
  refine pr_s (pc1 := 7) (st1 := [.int 48, .int 39]) rfl (fun _ => rfl) ?_
  refine pr_bf (t := 73) (off := 66) (bb := decide ((48 : Int32) ≤ (39 : Int32))) (st1 := []) rfl rfl rfl rfl (by decide) ?_
  refine pr_s (pc1 := 11) (st1 := [.ref 92]) rfl (fun _ => rfl) ?_
  refine pr_getf (pc1 := 14) (v := .ref 93) rfl rfl (pg_119 a2 a3 a4) rfl rfl ?_
  refine pr_getf (pc1 := 17) (v := .ref 94) rfl rfl (pg_120 a2 a3 a4) rfl rfl ?_
  refine pr_s (pc1 := 18) (st1 := [.int 39, .ref 94]) rfl (fun _ => rfl) ?_
  refine pr_iald (pc1 := 19) (x := (-1)) rfl (pg_128 a2 a3 a4) rfl rfl rfl ?_
  refine pr_bt (t := 67) (off := 48) (bb := decide (((-1) : Int32) < 0)) (st1 := []) rfl rfl rfl rfl (by decide) ?_
  refine pr_s (pc1 := 70) (lv1 := [(2, .int 40), (1, .int 0), (0, .ref 92)]) (st1 := []) rfl (fun _ => rfl) ?_
  refine pr_s (pc1 := 4) (st1 := []) rfl (fun _ => rfl) ?_
  refine pr_s (pc1 := 5) (st1 := [.int 40]) rfl (fun _ => rfl) ?_
  refine pr_s (pc1 := 7) (st1 := [.int 48, .int 40]) rfl (fun _ => rfl) ?_
  refine pr_bf (t := 73) (off := 66) (bb := decide ((48 : Int32) ≤ (40 : Int32))) (st1 := []) rfl rfl rfl rfl (by decide) ?_
  refine pr_s (pc1 := 11) (st1 := [.ref 92]) rfl (fun _ => rfl) ?_
  refine pr_getf (pc1 := 14) (v := .ref 93) rfl rfl (pg_119 a2 a3 a4) rfl rfl ?_
  refine pr_getf (pc1 := 17) (v := .ref 94) rfl rfl (pg_120 a2 a3 a4) rfl rfl ?_
  refine pr_s (pc1 := 18) (st1 := [.int 40, .ref 94]) rfl (fun _ => rfl) ?_
  refine pr_iald (pc1 := 19) (x := (-1)) rfl (pg_128 a2 a3 a4) rfl rfl rfl ?_
  refine pr_bt (t := 67) (off := 48) (bb := decide (((-1) : Int32) < 0)) (st1 := []) rfl rfl rfl rfl (by decide) ?_
  refine pr_s (pc1 := 70) (lv1 := [(2, .int 41), (1, .int 0), (0, .ref 92)]) (st1 := []) rfl (fun _ => rfl) ?_
  refine pr_s (pc1 := 4) (st1 := []) rfl (fun _ => rfl) ?_
  refine pr_s (pc1 := 5) (st1 := [.int 41]) rfl (fun _ => rfl) ?_
  refine pr_s (pc1 := 7) (st1 := [.int 48, .int 41]) rfl (fun _ => rfl) ?_
  refine pr_bf (t := 73) (off := 66) (bb := decide ((48 : Int32) ≤ (41 : Int32))) (st1 := []) rfl rfl rfl rfl (by decide) ?_
  refine pr_s (pc1 := 11) (st1 := [.ref 92]) rfl (fun _ => rfl) ?_
  refine pr_getf (pc1 := 14) (v := .ref 93) rfl rfl (pg_119 a2 a3 a4) rfl rfl ?_
  refine pr_getf (pc1 := 17) (v := .ref 94) rfl rfl (pg_120 a2 a3 a4) rfl rfl ?_
  refine pr_s (pc1 := 18) (st1 := [.int 41, .ref 94]) rfl (fun _ => rfl) ?_
  refine pr_iald (pc1 := 19) (x := (-1)) rfl (pg_128 a2 a3 a4) rfl rfl rfl ?_
  refine pr_bt (t := 67) (off := 48) (bb := decide (((-1) : Int32) < 0)) (st1 := []) rfl rfl rfl rfl (by decide) ?_
  refine pr_s (pc1 := 70) (lv1 := [(2, .int 42), (1, .int 0), (0, .ref 92)]) (st1 := []) rfl (fun _ => rfl) ?_
  refine pr_s (pc1 := 4) (st1 := []) rfl (fun _ => rfl) ?_
  refine pr_s (pc1 := 5) (st1 := [.int 42]) rfl (fun _ => rfl) ?_
  refine pr_s (pc1 := 7) (st1 := [.int 48, .int 42]) rfl (fun _ => rfl) ?_
  refine pr_bf (t := 73) (off := 66) (bb := decide ((48 : Int32) ≤ (42 : Int32))) (st1 := []) rfl rfl rfl rfl (by decide) ?_
  refine pr_s (pc1 := 11) (st1 := [.ref 92]) rfl (fun _ => rfl) ?_
  refine pr_getf (pc1 := 14) (v := .ref 93) rfl rfl (pg_119 a2 a3 a4) rfl rfl ?_
  refine pr_getf (pc1 := 17) (v := .ref 94) rfl rfl (pg_120 a2 a3 a4) rfl rfl ?_
  refine pr_s (pc1 := 18) (st1 := [.int 42, .ref 94]) rfl (fun _ => rfl) ?_
  refine pr_iald (pc1 := 19) (x := (-1)) rfl (pg_128 a2 a3 a4) rfl rfl rfl ?_
  refine pr_bt (t := 67) (off := 48) (bb := decide (((-1) : Int32) < 0)) (st1 := []) rfl rfl rfl rfl (by decide) ?_
  refine pr_s (pc1 := 70) (lv1 := [(2, .int 43), (1, .int 0), (0, .ref 92)]) (st1 := []) rfl (fun _ => rfl) ?_
  refine pr_s (pc1 := 4) (st1 := []) rfl (fun _ => rfl) ?_
  refine pr_s (pc1 := 5) (st1 := [.int 43]) rfl (fun _ => rfl) ?_
  refine pr_s (pc1 := 7) (st1 := [.int 48, .int 43]) rfl (fun _ => rfl) ?_
  refine pr_bf (t := 73) (off := 66) (bb := decide ((48 : Int32) ≤ (43 : Int32))) (st1 := []) rfl rfl rfl rfl (by decide) ?_
  refine pr_s (pc1 := 11) (st1 := [.ref 92]) rfl (fun _ => rfl) ?_
  refine pr_getf (pc1 := 14) (v := .ref 93) rfl rfl (pg_119 a2 a3 a4) rfl rfl ?_
  refine pr_getf (pc1 := 17) (v := .ref 94) rfl rfl (pg_120 a2 a3 a4) rfl rfl ?_
  refine pr_s (pc1 := 18) (st1 := [.int 43, .ref 94]) rfl (fun _ => rfl) ?_
  refine pr_iald (pc1 := 19) (x := (-1)) rfl (pg_128 a2 a3 a4) rfl rfl rfl ?_
  refine pr_bt (t := 67) (off := 48) (bb := decide (((-1) : Int32) < 0)) (st1 := []) rfl rfl rfl rfl (by decide) ?_
  refine pr_s (pc1 := 70) (lv1 := [(2, .int 44), (1, .int 0), (0, .ref 92)]) (st1 := []) rfl (fun _ => rfl) ?_
  refine pr_s (pc1 := 4) (st1 := []) rfl (fun _ => rfl) ?_
  refine pr_s (pc1 := 5) (st1 := [.int 44]) rfl (fun _ => rfl) ?_
  refine pr_s (pc1 := 7) (st1 := [.int 48, .int 44]) rfl (fun _ => rfl) ?_
  refine pr_bf (t := 73) (off := 66) (bb := decide ((48 : Int32) ≤ (44 : Int32))) (st1 := []) rfl rfl rfl rfl (by decide) ?_
  refine pr_s (pc1 := 11) (st1 := [.ref 92]) rfl (fun _ => rfl) ?_
  refine pr_getf (pc1 := 14) (v := .ref 93) rfl rfl (pg_119 a2 a3 a4) rfl rfl ?_
  refine pr_getf (pc1 := 17) (v := .ref 94) rfl rfl (pg_120 a2 a3 a4) rfl rfl ?_
  refine pr_s (pc1 := 18) (st1 := [.int 44, .ref 94]) rfl (fun _ => rfl) ?_
  refine pr_iald (pc1 := 19) (x := (-1)) rfl (pg_128 a2 a3 a4) rfl rfl rfl ?_
  refine pr_bt (t := 67) (off := 48) (bb := decide (((-1) : Int32) < 0)) (st1 := []) rfl rfl rfl rfl (by decide) ?_
  refine pr_s (pc1 := 70) (lv1 := [(2, .int 45), (1, .int 0), (0, .ref 92)]) (st1 := []) rfl (fun _ => rfl) ?_
  refine pr_s (pc1 := 4) (st1 := []) rfl (fun _ => rfl) ?_
  refine pr_s (pc1 := 5) (st1 := [.int 45]) rfl (fun _ => rfl) ?_
  refine pr_s (pc1 := 7) (st1 := [.int 48, .int 45]) rfl (fun _ => rfl) ?_
  refine pr_bf (t := 73) (off := 66) (bb := decide ((48 : Int32) ≤ (45 : Int32))) (st1 := []) rfl rfl rfl rfl (by decide) ?_
  refine pr_s (pc1 := 11) (st1 := [.ref 92]) rfl (fun _ => rfl) ?_
  refine pr_getf (pc1 := 14) (v := .ref 93) rfl rfl (pg_119 a2 a3 a4) rfl rfl ?_
  refine pr_getf (pc1 := 17) (v := .ref 94) rfl rfl (pg_120 a2 a3 a4) rfl rfl ?_
  refine pr_s (pc1 := 18) (st1 := [.int 45, .ref 94]) rfl (fun _ => rfl) ?_
  refine pr_iald (pc1 := 19) (x := (-1)) rfl (pg_128 a2 a3 a4) rfl rfl rfl ?_
  refine pr_bt (t := 67) (off := 48) (bb := decide (((-1) : Int32) < 0)) (st1 := []) rfl rfl rfl rfl (by decide) ?_
  refine pr_s (pc1 := 70) (lv1 := [(2, .int 46), (1, .int 0), (0, .ref 92)]) (st1 := []) rfl (fun _ => rfl) ?_
  refine pr_s (pc1 := 4) (st1 := []) rfl (fun _ => rfl) ?_
  refine pr_s (pc1 := 5) (st1 := [.int 46]) rfl (fun _ => rfl) ?_
  refine pr_s (pc1 := 7) (st1 := [.int 48, .int 46]) rfl (fun _ => rfl) ?_
  refine pr_bf (t := 73) (off := 66) (bb := decide ((48 : Int32) ≤ (46 : Int32))) (st1 := []) rfl rfl rfl rfl (by decide) ?_
  refine pr_s (pc1 := 11) (st1 := [.ref 92]) rfl (fun _ => rfl) ?_
  refine pr_getf (pc1 := 14) (v := .ref 93) rfl rfl (pg_119 a2 a3 a4) rfl rfl ?_
  refine pr_getf (pc1 := 17) (v := .ref 94) rfl rfl (pg_120 a2 a3 a4) rfl rfl ?_
  refine pr_s (pc1 := 18) (st1 := [.int 46, .ref 94]) rfl (fun _ => rfl) ?_
  refine pr_iald (pc1 := 19) (x := (-1)) rfl (pg_128 a2 a3 a4) rfl rfl rfl ?_
  refine pr_bt (t := 67) (off := 48) (bb := decide (((-1) : Int32) < 0)) (st1 := []) rfl rfl rfl rfl (by decide) ?_
  refine pr_s (pc1 := 70) (lv1 := [(2, .int 47), (1, .int 0), (0, .ref 92)]) (st1 := []) rfl (fun _ => rfl) ?_
  refine pr_s (pc1 := 4) (st1 := []) rfl (fun _ => rfl) ?_
  refine pr_s (pc1 := 5) (st1 := [.int 47]) rfl (fun _ => rfl) ?_
  refine pr_s (pc1 := 7) (st1 := [.int 48, .int 47]) rfl (fun _ => rfl) ?_
  refine pr_bf (t := 73) (off := 66) (bb := decide ((48 : Int32) ≤ (47 : Int32))) (st1 := []) rfl rfl rfl rfl (by decide) ?_
  refine pr_s (pc1 := 11) (st1 := [.ref 92]) rfl (fun _ => rfl) ?_
  refine pr_getf (pc1 := 14) (v := .ref 93) rfl rfl (pg_119 a2 a3 a4) rfl rfl ?_
  refine pr_getf (pc1 := 17) (v := .ref 94) rfl rfl (pg_120 a2 a3 a4) rfl rfl ?_
  refine pr_s (pc1 := 18) (st1 := [.int 47, .ref 94]) rfl (fun _ => rfl) ?_
  refine pr_iald (pc1 := 19) (x := (-1)) rfl (pg_128 a2 a3 a4) rfl rfl rfl ?_
  refine pr_bt (t := 67) (off := 48) (bb := decide (((-1) : Int32) < 0)) (st1 := []) rfl rfl rfl rfl (by decide) ?_
  refine pr_s (pc1 := 70) (lv1 := [(2, .int 48), (1, .int 0), (0, .ref 92)]) (st1 := []) rfl (fun _ => rfl) ?_
  refine pr_s (pc1 := 4) (st1 := []) rfl (fun _ => rfl) ?_
  refine pr_s (pc1 := 5) (st1 := [.int 48]) rfl (fun _ => rfl) ?_
  refine pr_s (pc1 := 7) (st1 := [.int 48, .int 48]) rfl (fun _ => rfl) ?_
  refine pr_bt (t := 73) (off := 66) (bb := decide ((48 : Int32) ≤ (48 : Int32))) (st1 := []) rfl rfl rfl rfl (by decide) ?_
  refine pr_s (pc1 := 74) (st1 := [.int 0]) rfl (fun _ => rfl) ?_
  exact pr_e rfl (fun _ => rfl) ⟨rfl, rfl⟩
