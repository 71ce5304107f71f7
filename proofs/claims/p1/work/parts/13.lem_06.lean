/-! LONG RUNS (wip/gen/p1gen.py) -/
set_option maxRecDepth 100000 in
theorem pq_109 {sx : Option (List Int32)} (a2 a3 a4 : Int32) : px_C sx pm_X2_placeLike [.ref 115, .int 6, .int a2, .int a3, .int a4] (px_hs) 2045 83922 0 0 (fun r h' => r = .inl (some (.int (-1))) ∧ h' = px_hs) := by
  refine px_C_of rfl ?_
  refine pr_s (pc1 := 1) (st1 := [.int 6]) rfl (fun _ => rfl) ?_
  refine pr_bf (t := 10) (off := 9) (bb := decide ((6 : Int32) < 0)) (st1 := []) rfl rfl rfl rfl (by decide) ?_
  refine pr_s (pc1 := 5) (st1 := [.int 6]) rfl (fun _ => rfl) ?_
  refine pr_s (pc1 := 7) (st1 := [.int 8, .int 6]) rfl (fun _ => rfl) ?_
  refine pr_bt (t := 12) (off := 5) (bb := decide ((6 : Int32) < 8)) (st1 := []) rfl rfl rfl rfl (by decide) ?_
  refine pr_s (pc1 := 13) (st1 := [.int 6]) rfl (fun _ => rfl) ?_
  refine pr_s (pc1 := 15) (st1 := [.int 6, .int 6]) rfl (fun _ => rfl) ?_
  refine pr_s (pc1 := 16) (st1 := [.int 36]) rfl (fun _ => rfl) ?_
  refine pr_s (pc1 := 18) (lv1 := [(5, .int 36), (0, .ref 115), (1, .int 6), (2, .int a2), (3, .int a3), (4, .int a4)]) (st1 := []) rfl (fun _ => rfl) ?_
  refine pr_s (pc1 := 20) (st1 := [.int 36]) rfl (fun _ => rfl) ?_
  refine pr_s (pc1 := 21) (st1 := [.int 6, .int 36]) rfl (fun _ => rfl) ?_
  refine pr_s (pc1 := 22) (st1 := [.int 1, .int 6, .int 36]) rfl (fun _ => rfl) ?_
  refine pr_s (pc1 := 23) (st1 := [.int 7, .int 36]) rfl (fun _ => rfl) ?_
  refine pr_s (pc1 := 25) (st1 := [.int 6, .int 7, .int 36]) rfl (fun _ => rfl) ?_
  refine pr_s (pc1 := 26) (st1 := [.int 42, .int 36]) rfl (fun _ => rfl) ?_
  refine pr_bf (t := 92) (off := 66) (bb := decide ((42 : Int32) ≤ (36 : Int32))) (st1 := []) rfl rfl rfl rfl (by decide) ?_
  refine pr_s (pc1 := 31) (st1 := [.int 36]) rfl (fun _ => rfl) ?_
  refine pr_s (pc1 := 32) (st1 := [.int 3, .int 36]) rfl (fun _ => rfl) ?_
  refine pr_s (pc1 := 33) (st1 := [.int 108]) rfl (fun _ => rfl) ?_
  refine pr_s (pc1 := 35) (lv1 := [(6, .int 108), (5, .int 36), (0, .ref 115), (1, .int 6), (2, .int a2), (3, .int a3), (4, .int a4)]) (st1 := []) rfl (fun _ => rfl) ?_
  refine pr_s (pc1 := 36) (st1 := [.ref 115]) rfl (fun _ => rfl) ?_
  refine pr_getf (pc1 := 39) (v := .ref 116) rfl rfl pg_515 rfl rfl ?_
  refine pr_s (pc1 := 41) (st1 := [.int 36, .ref 116]) rfl (fun _ => rfl) ?_
  refine pr_iald (pc1 := 42) (x := (-1)) rfl pg_522 rfl rfl rfl ?_
  refine pr_bt (t := 86) (off := 44) (bb := decide (((-1) : Int32) < 0)) (st1 := []) rfl rfl rfl rfl (by decide) ?_
  refine pr_s (pc1 := 89) (lv1 := [(5, .int 37), (6, .int 108), (0, .ref 115), (1, .int 6), (2, .int a2), (3, .int a3), (4, .int a4)]) (st1 := []) rfl (fun _ => rfl) ?_
  refine pr_s (pc1 := 18) (st1 := []) rfl (fun _ => rfl) ?_
  refine pr_s (pc1 := 20) (st1 := [.int 37]) rfl (fun _ => rfl) ?_
  refine pr_s (pc1 := 21) (st1 := [.int 6, .int 37]) rfl (fun _ => rfl) ?_
  refine pr_s (pc1 := 22) (st1 := [.int 1, .int 6, .int 37]) rfl (fun _ => rfl) ?_
  refine pr_s (pc1 := 23) (st1 := [.int 7, .int 37]) rfl (fun _ => rfl) ?_
  refine pr_s (pc1 := 25) (st1 := [.int 6, .int 7, .int 37]) rfl (fun _ => rfl) ?_
  refine pr_s (pc1 := 26) (st1 := [.int 42, .int 37]) rfl (fun _ => rfl) ?_
  refine pr_bf (t := 92) (off := 66) (bb := decide ((42 : Int32) ≤ (37 : Int32))) (st1 := []) rfl rfl rfl rfl (by decide) ?_
  refine pr_s (pc1 := 31) (st1 := [.int 37]) rfl (fun _ => rfl) ?_
  refine pr_s (pc1 := 32) (st1 := [.int 3, .int 37]) rfl (fun _ => rfl) ?_
  refine pr_s (pc1 := 33) (st1 := [.int 111]) rfl (fun _ => rfl) ?_
  refine pr_s (pc1 := 35) (lv1 := [(6, .int 111), (5, .int 37), (0, .ref 115), (1, .int 6), (2, .int a2), (3, .int a3), (4, .int a4)]) (st1 := []) rfl (fun _ => rfl) ?_
  refine pr_s (pc1 := 36) (st1 := [.ref 115]) rfl (fun _ => rfl) ?_
  refine pr_getf (pc1 := 39) (v := .ref 116) rfl rfl pg_515 rfl rfl ?_
  refine pr_s (pc1 := 41) (st1 := [.int 37, .ref 116]) rfl (fun _ => rfl) ?_
  refine pr_iald (pc1 := 42) (x := (-1)) rfl pg_522 rfl rfl rfl ?_
  refine pr_bt (t := 86) (off := 44) (bb := decide (((-1) : Int32) < 0)) (st1 := []) rfl rfl rfl rfl (by decide) ?_
  refine pr_s (pc1 := 89) (lv1 := [(5, .int 38), (6, .int 111), (0, .ref 115), (1, .int 6), (2, .int a2), (3, .int a3), (4, .int a4)]) (st1 := []) rfl (fun _ => rfl) ?_
  refine pr_s (pc1 := 18) (st1 := []) rfl (fun _ => rfl) ?_
  refine pr_s (pc1 := 20) (st1 := [.int 38]) rfl (fun _ => rfl) ?_
  refine pr_s (pc1 := 21) (st1 := [.int 6, .int 38]) rfl (fun _ => rfl) ?_
  refine pr_s (pc1 := 22) (st1 := [.int 1, .int 6, .int 38]) rfl (fun _ => rfl) ?_
  refine pr_s (pc1 := 23) (st1 := [.int 7, .int 38]) rfl (fun _ => rfl) ?_
  refine pr_s (pc1 := 25) (st1 := [.int 6, .int 7, .int 38]) rfl (fun _ => rfl) ?_
  refine pr_s (pc1 := 26) (st1 := [.int 42, .int 38]) rfl (fun _ => rfl) ?_
  refine pr_bf (t := 92) (off := 66) (bb := decide ((42 : Int32) ≤ (38 : Int32))) (st1 := []) rfl rfl rfl rfl (by decide) ?_
  refine pr_s (pc1 := 31) (st1 := [.int 38]) rfl (fun _ => rfl) ?_
  refine pr_s (pc1 := 32) (st1 := [.int 3, .int 38]) rfl (fun _ => rfl) ?_
  refine pr_s (pc1 := 33) (st1 := [.int 114]) rfl (fun _ => rfl) ?_
  refine pr_s (pc1 := 35) (lv1 := [(6, .int 114), (5, .int 38), (0, .ref 115), (1, .int 6), (2, .int a2), (3, .int a3), (4, .int a4)]) (st1 := []) rfl (fun _ => rfl) ?_
  refine pr_s (pc1 := 36) (st1 := [.ref 115]) rfl (fun _ => rfl) ?_
  refine pr_getf (pc1 := 39) (v := .ref 116) rfl rfl pg_515 rfl rfl ?_
  refine pr_s (pc1 := 41) (st1 := [.int 38, .ref 116]) rfl (fun _ => rfl) ?_
  refine pr_iald (pc1 := 42) (x := (-1)) rfl pg_522 rfl rfl rfl ?_
  refine pr_bt (t := 86) (off := 44) (bb := decide (((-1) : Int32) < 0)) (st1 := []) rfl rfl rfl rfl (by decide) ?_
  refine pr_s (pc1 := 89) (lv1 := [(5, .int 39), (6, .int 114), (0, .ref 115), (1, .int 6), (2, .int a2), (3, .int a3), (4, .int a4)]) (st1 := []) rfl (fun _ => rfl) ?_
  refine pr_s (pc1 := 18) (st1 := []) rfl (fun _ => rfl) ?_
  refine pr_s (pc1 := 20) (st1 := [.int 39]) rfl (fun _ => rfl) ?_
  refine pr_s (pc1 := 21) (st1 := [.int 6, .int 39]) rfl (fun _ => rfl) ?_
  refine pr_s (pc1 := 22) (st1 := [.int 1, .int 6, .int 39]) rfl (fun _ => rfl) ?_
  refine pr_s (pc1 := 23) (st1 := [.int 7, .int 39]) rfl (fun _ => rfl) ?_
  refine pr_s (pc1 := 25) (st1 := [.int 6, .int 7, .int 39]) rfl (fun _ => rfl) ?_
  refine pr_s (pc1 := 26) (st1 := [.int 42, .int 39]) rfl (fun _ => rfl) ?_
  refine pr_bf (t := 92) (off := 66) (bb := decide ((42 : Int32) ≤ (39 : Int32))) (st1 := []) rfl rfl rfl rfl (by decide) ?_
  refine pr_s (pc1 := 31) (st1 := [.int 39]) rfl (fun _ => rfl) ?_
  refine pr_s (pc1 := 32) (st1 := [.int 3, .int 39]) rfl (fun _ => rfl) ?_
  refine pr_s (pc1 := 33) (st1 := [.int 117]) rfl (fun _ => rfl) ?_
  refine pr_s (pc1 := 35) (lv1 := [(6, .int 117), (5, .int 39), (0, .ref 115), (1, .int 6), (2, .int a2), (3, .int a3), (4, .int a4)]) (st1 := []) rfl (fun _ => rfl) ?_
  refine pr_s (pc1 := 36) (st1 := [.ref 115]) rfl (fun _ => rfl) ?_
  refine pr_getf (pc1 := 39) (v := .ref 116) rfl rfl pg_515 rfl rfl ?_
  refine pr_s (pc1 := 41) (st1 := [.int 39, .ref 116]) rfl (fun _ => rfl) ?_
  refine pr_iald (pc1 := 42) (x := (-1)) rfl pg_522 rfl rfl rfl ?_
  refine pr_bt (t := 86) (off := 44) (bb := decide (((-1) : Int32) < 0)) (st1 := []) rfl rfl rfl rfl (by decide) ?_
  refine pr_s (pc1 := 89) (lv1 := [(5, .int 40), (6, .int 117), (0, .ref 115), (1, .int 6), (2, .int a2), (3, .int a3), (4, .int a4)]) (st1 := []) rfl (fun _ => rfl) ?_
  refine pr_s (pc1 := 18) (st1 := []) rfl (fun _ => rfl) ?_
  refine pr_s (pc1 := 20) (st1 := [.int 40]) rfl (fun _ => rfl) ?_
  refine pr_s (pc1 := 21) (st1 := [.int 6, .int 40]) rfl (fun _ => rfl) ?_
  refine pr_s (pc1 := 22) (st1 := [.int 1, .int 6, .int 40]) rfl (fun _ => rfl) ?_
  refine pr_s (pc1 := 23) (st1 := [.int 7, .int 40]) rfl (fun _ => rfl) ?_
  refine pr_s (pc1 := 25) (st1 := [.int 6, .int 7, .int 40]) rfl (fun _ => rfl) ?_
  refine pr_s (pc1 := 26) (st1 := [.int 42, .int 40]) rfl (fun _ => rfl) ?_
  refine pr_bf (t := 92) (off := 66) (bb := decide ((42 : Int32) ≤ (40 : Int32))) (st1 := []) rfl rfl rfl rfl (by decide) ?_
  refine pr_s (pc1 := 31) (st1 := [.int 40]) rfl (fun _ => rfl) ?_
  refine pr_s (pc1 := 32) (st1 := [.int 3, .int 40]) rfl (fun _ => rfl) ?_
  refine pr_s (pc1 := 33) (st1 := [.int 120]) rfl (fun _ => rfl) ?_
  refine pr_s (pc1 := 35) (lv1 := [(6, .int 120), (5, .int 40), (0, .ref 115), (1, .int 6), (2, .int a2), (3, .int a3), (4, .int a4)]) (st1 := []) rfl (fun _ => rfl) ?_
  refine pr_s (pc1 := 36) (st1 := [.ref 115]) rfl (fun _ => rfl) ?_
  refine pr_getf (pc1 := 39) (v := .ref 116) rfl rfl pg_515 rfl rfl ?_
  refine pr_s (pc1 := 41) (st1 := [.int 40, .ref 116]) rfl (fun _ => rfl) ?_
  refine pr_iald (pc1 := 42) (x := (-1)) rfl pg_522 rfl rfl rfl ?_
  refine pr_bt (t := 86) (off := 44) (bb := decide (((-1) : Int32) < 0)) (st1 := []) rfl rfl rfl rfl (by decide) ?_
  refine pr_s (pc1 := 89) (lv1 := [(5, .int 41), (6, .int 120), (0, .ref 115), (1, .int 6), (2, .int a2), (3, .int a3), (4, .int a4)]) (st1 := []) rfl (fun _ => rfl) ?_
  refine pr_s (pc1 := 18) (st1 := []) rfl (fun _ => rfl) ?_
  refine pr_s (pc1 := 20) (st1 := [.int 41]) rfl (fun _ => rfl) ?_
  refine pr_s (pc1 := 21) (st1 := [.int 6, .int 41]) rfl (fun _ => rfl) ?_
  refine pr_s (pc1 := 22) (st1 := [.int 1, .int 6, .int 41]) rfl (fun _ => rfl) ?_
  refine pr_s (pc1 := 23) (st1 := [.int 7, .int 41]) rfl (fun _ => rfl) ?_
  refine pr_s (pc1 := 25) (st1 := [.int 6, .int 7, .int 41]) rfl (fun _ => rfl) ?_
  refine pr_s (pc1 := 26) (st1 := [.int 42, .int 41]) rfl (fun _ => rfl) ?_
  refine pr_bf (t := 92) (off := 66) (bb := decide ((42 : Int32) ≤ (41 : Int32))) (st1 := []) rfl rfl rfl rfl (by decide) ?_
  refine pr_s (pc1 := 31) (st1 := [.int 41]) rfl (fun _ => rfl) ?_
  refine pr_s (pc1 := 32) (st1 := [.int 3, .int 41]) rfl (fun _ => rfl) ?_
  refine pr_s (pc1 := 33) (st1 := [.int 123]) rfl (fun _ => rfl) ?_
  refine pr_s (pc1 := 35) (lv1 := [(6, .int 123), (5, .int 41), (0, .ref 115), (1, .int 6), (2, .int a2), (3, .int a3), (4, .int a4)]) (st1 := []) rfl (fun _ => rfl) ?_
  refine pr_s (pc1 := 36) (st1 := [.ref 115]) rfl (fun _ => rfl) ?_
  refine pr_getf (pc1 := 39) (v := .ref 116) rfl rfl pg_515 rfl rfl ?_
  refine pr_s (pc1 := 41) (st1 := [.int 41, .ref 116]) rfl (fun _ => rfl) ?_
  refine pr_iald (pc1 := 42) (x := (-1)) rfl pg_522 rfl rfl rfl ?_
  refine pr_bt (t := 86) (off := 44) (bb := decide (((-1) : Int32) < 0)) (st1 := []) rfl rfl rfl rfl (by decide) ?_
  refine pr_s (pc1 := 89) (lv1 := [(5, .int 42), (6, .int 123), (0, .ref 115), (1, .int 6), (2, .int a2), (3, .int a3), (4, .int a4)]) (st1 := []) rfl (fun _ => rfl) ?_
  refine pr_s (pc1 := 18) (st1 := []) rfl (fun _ => rfl) ?_
  refine pr_s (pc1 := 20) (st1 := [.int 42]) rfl (fun _ => rfl) ?_
  refine pr_s (pc1 := 21) (st1 := [.int 6, .int 42]) rfl (fun _ => rfl) ?_
  refine pr_s (pc1 := 22) (st1 := [.int 1, .int 6, .int 42]) rfl (fun _ => rfl) ?_
  refine pr_s (pc1 := 23) (st1 := [.int 7, .int 42]) rfl (fun _ => rfl) ?_
  refine pr_s (pc1 := 25) (st1 := [.int 6, .int 7, .int 42]) rfl (fun _ => rfl) ?_
  refine pr_s (pc1 := 26) (st1 := [.int 42, .int 42]) rfl (fun _ => rfl) ?_
  refine pr_bt (t := 92) (off := 66) (bb := decide ((42 : Int32) ≤ (42 : Int32))) (st1 := []) rfl rfl rfl rfl (by decide) ?_
  refine pr_s (pc1 := 93) (st1 := [.int (-1)]) rfl (fun _ => rfl) ?_
  exact pr_e rfl (fun _ => rfl) ⟨rfl, rfl⟩
set_option maxRecDepth 100000 in
theorem pq_110 {sx : Option (List Int32)} (a2 a3 a4 a5 : Int32) (ha5 : 1 ≤ a5.toInt ∧ a5.toInt ≤ 20) : px_C sx pm_L_wouldHold [.ref 0, .int 6, .int a2, .int a3, .int a4, .int a5, .ref 164] (px_hs) 2047 83973 0 0 (fun r h' => r = .inl (some (.int 0)) ∧ h' = ph_192) := by
  refine px_C_of rfl ?_
  refine pr_s (pc1 := 2) (st1 := [.ref 164]) rfl (fun _ => rfl) ?_
  refine pr_s (pc1 := 3) (st1 := [.int 0, .ref 164]) rfl (fun _ => rfl) ?_
  refine pr_s (pc1 := 4) (st1 := [.ref 0, .int 0, .ref 164]) rfl (fun _ => rfl) ?_
  refine pr_s (pc1 := 5) (st1 := [.int 6, .ref 0, .int 0, .ref 164]) rfl (fun _ => rfl) ?_
  refine pr_s (pc1 := 6) (st1 := [.int a2, .int 6, .ref 0, .int 0, .ref 164]) rfl (fun _ => rfl) ?_
  refine pr_s (pc1 := 7) (st1 := [.int a3, .int a2, .int 6, .ref 0, .int 0, .ref 164]) rfl (fun _ => rfl) ?_
  refine pr_s (pc1 := 9) (st1 := [.int a4, .int a3, .int a2, .int 6, .ref 0, .int 0, .ref 164]) rfl (fun _ => rfl) ?_
  refine pr_s (pc1 := 11) (st1 := [.int a5, .int a4, .int a3, .int a2, .int 6, .ref 0, .int 0, .ref 164]) rfl (fun _ => rfl) ?_
  refine pr_callv (N := pm_X6_wouldHold) (as := [.ref 0, .int 6, .int a2, .int a3, .int a4, .int a5]) (rest := [.int 0, .ref 164]) (f := 2046) (l := 83948) (c1 := 0) (k1 := 0) (c2 := 0) (k2 := 0) (v := some (.int 0)) (h1 := px_hs) rfl (fun ex => px_inv_hs ex rfl rfl rfl pg_0 rfl rfl rfl rfl) ?_ (Nat.le_of_ble_eq_true rfl) (Nat.le_of_ble_eq_true rfl) ?_
  · refine px_C_of rfl ?_
    refine pr_s (pc1 := 2) (st1 := [.int a5]) rfl (fun _ => rfl) ?_
    refine pr_callv (N := pm_X6_needMost) (as := [.int a5]) (rest := []) (f := 2045) (l := 83928) (c1 := 0) (k1 := 0) (c2 := 0) (k2 := 0) (v := none) (h1 := px_hs) rfl (fun _ => rfl) ?_ (Nat.le_of_ble_eq_true rfl) (Nat.le_of_ble_eq_true rfl) ?_
    · refine px_C_of rfl ?_
      refine pr_s (pc1 := 1) (st1 := [.int a5]) rfl (fun _ => rfl) ?_
      refine pr_s (pc1 := 2) (st1 := [.int 1, .int a5]) rfl (fun _ => rfl) ?_
      refine pr_bf (t := 11) (off := 9) (bb := decide (a5 < 1)) (st1 := []) rfl rfl rfl rfl (pb_ltF ha5.1 (show (1 : Int32).toInt ≤ 1 by decide) (by decide)) ?_
      refine pr_s (pc1 := 6) (st1 := [.int a5]) rfl (fun _ => rfl) ?_
      refine pr_s (pc1 := 8) (st1 := [.int 20, .int a5]) rfl (fun _ => rfl) ?_
      refine pr_bt (t := 22) (off := 14) (bb := decide (a5 ≤ 20)) (st1 := []) rfl rfl rfl rfl (pb_leT ha5.2 (show 20 ≤ (20 : Int32).toInt by decide) (by decide)) ?_
      exact pr_e rfl (fun _ => rfl) ⟨rfl, rfl⟩
    show px_R _ _ _ _ (5, [(0, .ref 0), (1, .int 6), (2, .int a2), (3, .int a3), (4, .int a4), (5, .int a5)], [], _) _ _ _
    refine pr_s (pc1 := 6) (st1 := [.ref 0]) rfl (fun _ => rfl) ?_
    refine pr_getf (pc1 := 9) (v := .ref 114) rfl rfl pg_0 rfl rfl ?_
    refine pr_s (pc1 := 10) (st1 := [.ref 0, .ref 114]) rfl (fun _ => rfl) ?_
    refine pr_getf (pc1 := 13) (v := .ref 92) rfl rfl pg_0 rfl rfl ?_
    refine pr_callv (N := pm_X5_become) (as := [.ref 114, .ref 92]) (rest := []) (f := 2045) (l := 83927) (c1 := 0) (k1 := 0) (c2 := 0) (k2 := 0) (v := none) (h1 := px_hs) rfl (fun ex => px_inv_hs ex rfl rfl rfl pg_514 rfl rfl rfl rfl) ?_ (Nat.le_of_ble_eq_true rfl) (Nat.le_of_ble_eq_true rfl) ?_
    · exact px_C_mono pb_become (Nat.le_of_ble_eq_true rfl) (Nat.le_of_ble_eq_true rfl) (Nat.le_refl _) (Nat.le_refl _) (fun _ _ h => h)
    show px_R _ _ _ _ (16, [(0, .ref 0), (1, .int 6), (2, .int a2), (3, .int a3), (4, .int a4), (5, .int a5)], [], _) _ _ _
    refine pr_s (pc1 := 17) (st1 := [.ref 0]) rfl (fun _ => rfl) ?_
    refine pr_getf (pc1 := 20) (v := .ref 114) rfl rfl pg_0 rfl rfl ?_
    refine pr_s (pc1 := 22) (st1 := [.int a5, .ref 114]) rfl (fun _ => rfl) ?_
    refine pr_callv (N := pm_X5_fireUpTo) (as := [.ref 114, .int a5]) (rest := []) (f := 2045) (l := 83921) (c1 := 0) (k1 := 0) (c2 := 0) (k2 := 0) (v := some (.int 0)) (h1 := px_hs) rfl (fun ex => px_inv_hs ex rfl rfl rfl pg_514 rfl rfl rfl rfl) ?_ (Nat.le_of_ble_eq_true rfl) (Nat.le_of_ble_eq_true rfl) ?_
    · refine px_C_of rfl ?_
      refine pr_s (pc1 := 1) (st1 := [.int 0]) rfl (fun _ => rfl) ?_
      refine pr_s (pc1 := 2) (lv1 := [(2, .int 0), (0, .ref 114), (1, .int a5)]) (st1 := []) rfl (fun _ => rfl) ?_
      refine pr_s (pc1 := 3) (st1 := [.int 0]) rfl (fun _ => rfl) ?_
      refine pr_s (pc1 := 4) (st1 := [.int a5, .int 0]) rfl (fun _ => rfl) ?_
      refine pr_bf (t := 153) (off := 149) (bb := decide ((a5 : Int32) ≤ (0 : Int32))) (st1 := []) rfl rfl rfl rfl (pb_leF ha5.1 (show (0 : Int32).toInt ≤ 0 by decide) (by decide)) ?_
      refine pr_s (pc1 := 8) (st1 := [.ref 114]) rfl (fun _ => rfl) ?_
      refine pr_callv (N := pm_X5_firstWaiting) (as := [.ref 114]) (rest := []) (f := 2044) (l := 83897) (c1 := 0) (k1 := 0) (c2 := 0) (k2 := 0) (v := some (.int (-1))) (h1 := px_hs) rfl (fun ex => px_inv_hs ex rfl rfl rfl pg_514 rfl rfl rfl rfl) ?_ (Nat.le_of_ble_eq_true rfl) (Nat.le_of_ble_eq_true rfl) ?_
      · exact px_C_none pc_3 (Nat.le_of_ble_eq_true rfl) (Nat.le_of_ble_eq_true rfl) (Nat.le_of_ble_eq_true rfl) (Nat.le_of_ble_eq_true rfl)
      show px_R _ _ _ _ (11, [(2, .int 0), (0, .ref 114), (1, .int a5)], [.int (-1)], _) _ _ _
      refine pr_s (pc1 := 12) (lv1 := [(3, .int (-1)), (2, .int 0), (0, .ref 114), (1, .int a5)]) (st1 := []) rfl (fun _ => rfl) ?_
      refine pr_s (pc1 := 13) (st1 := [.int (-1)]) rfl (fun _ => rfl) ?_
      refine pr_bt (t := 23) (off := 10) (bb := decide (((-1) : Int32) < 0)) (st1 := []) rfl rfl rfl rfl (by decide) ?_
      refine pr_s (pc1 := 24) (st1 := [.int 0]) rfl (fun _ => rfl) ?_
      exact pr_e rfl (fun _ => rfl) ⟨rfl, rfl⟩
    show px_R _ _ _ _ (25, [(0, .ref 0), (1, .int 6), (2, .int a2), (3, .int a3), (4, .int a4), (5, .int a5)], [.int 0], _) _ _ _
    refine pr_s (pc1 := 26) (st1 := []) rfl (fun _ => rfl) ?_
    refine pr_s (pc1 := 27) (st1 := [.ref 0]) rfl (fun _ => rfl) ?_
    refine pr_getf (pc1 := 30) (v := .ref 114) rfl rfl pg_0 rfl rfl ?_
    refine pr_getf (pc1 := 33) (v := .ref 115) rfl rfl pg_514 rfl rfl ?_
    refine pr_s (pc1 := 34) (st1 := [.int 6, .ref 115]) rfl (fun _ => rfl) ?_
    refine pr_s (pc1 := 35) (st1 := [.int a2, .int 6, .ref 115]) rfl (fun _ => rfl) ?_
    refine pr_s (pc1 := 36) (st1 := [.int a3, .int a2, .int 6, .ref 115]) rfl (fun _ => rfl) ?_
    refine pr_s (pc1 := 38) (st1 := [.int a4, .int a3, .int a2, .int 6, .ref 115]) rfl (fun _ => rfl) ?_
    refine pr_callv (N := pm_X2_placeLike) (as := [.ref 115, .int 6, .int a2, .int a3, .int a4]) (rest := []) (f := 2045) (l := 83922) (c1 := 0) (k1 := 0) (c2 := 0) (k2 := 0) (v := some (.int (-1))) (h1 := px_hs) rfl (fun ex => px_inv_hs ex rfl rfl rfl pg_515 rfl rfl rfl rfl) ?_ (Nat.le_of_ble_eq_true rfl) (Nat.le_of_ble_eq_true rfl) ?_
    · exact pq_109 a2 a3 a4
    show px_R _ _ _ _ (41, [(0, .ref 0), (1, .int 6), (2, .int a2), (3, .int a3), (4, .int a4), (5, .int a5)], [.int (-1)], _) _ _ _
    refine pr_bt (t := 48) (off := 7) (bb := decide (((-1) : Int32) < 0)) (st1 := []) rfl rfl rfl rfl (by decide) ?_
    refine pr_s (pc1 := 49) (st1 := [.int 0]) rfl (fun _ => rfl) ?_
    exact pr_e rfl (fun _ => rfl) ⟨rfl, rfl⟩
  show px_R _ _ _ _ (14, [(0, .ref 0), (1, .int 6), (2, .int a2), (3, .int a3), (4, .int a4), (5, .int a5), (6, .ref 164)], [.int 0, .int 0, .ref 164], _) _ _ _
  refine pr_bt (t := 21) (off := 7) (bb := decide ((0 : Int32) = 0)) (st1 := [.int 0, .ref 164]) rfl rfl rfl rfl (by decide) ?_
  refine pr_s (pc1 := 22) (st1 := [.long 0, .int 0, .ref 164]) rfl (fun _ => rfl) ?_
  refine pr_last (pc1 := 23) (h1 := ph_192) rfl pg_8 rfl rfl rfl ?_
  refine pr_s (pc1 := 30) (st1 := []) rfl (fun _ => rfl) ?_
  refine pr_s (pc1 := 31) (st1 := [.int 0]) rfl (fun _ => rfl) ?_
  exact pr_e rfl (fun _ => rfl) ⟨rfl, rfl⟩
set_option maxRecDepth 100000 in
theorem pq_111 {sx : Option (List Int32)} (a2 a3 a4 a5 : Int32) (ha5 : 1 ≤ a5.toInt ∧ a5.toInt ≤ 20) : px_C sx pm_X10_wouldHold [.ref 136, .int 6, .int a2, .int a3, .int a4, .int a5] (ph_192) 2047 83975 0 0 (fun r h' => r = .inl (some (.int 0)) ∧ h' = ph_192) := by
  refine px_C_of rfl ?_
  refine pr_s (pc1 := 1) (st1 := [.ref 136]) rfl (fun _ => rfl) ?_
  refine pr_s (pc1 := 3) (st1 := [.int a5, .ref 136]) rfl (fun _ => rfl) ?_
  refine pr_s (pc1 := 4) (st1 := [.int 1, .int a5, .ref 136]) rfl (fun _ => rfl) ?_
  refine pr_s (pc1 := 6) (st1 := [.int 20, .int 1, .int a5, .ref 136]) rfl (fun _ => rfl) ?_
  refine pr_callv (N := pm_X10_is) (as := [.int a5, .int 1, .int 20]) (rest := [.ref 136]) (f := 2046) (l := 83953) (c1 := 0) (k1 := 0) (c2 := 0) (k2 := 0) (v := some (.int 1)) (h1 := ph_192) rfl (fun _ => rfl) ?_ (Nat.le_of_ble_eq_true rfl) (Nat.le_of_ble_eq_true rfl) ?_
  · refine px_C_of rfl ?_
    refine pr_s (pc1 := 1) (st1 := [.int a5]) rfl (fun _ => rfl) ?_
    refine pr_s (pc1 := 2) (st1 := [.int 1, .int a5]) rfl (fun _ => rfl) ?_
    refine pr_bf (t := 14) (off := 12) (bb := decide (a5 < 1)) (st1 := []) rfl rfl rfl rfl (pb_ltF ha5.1 (show (1 : Int32).toInt ≤ 1 by decide) (by decide)) ?_
    refine pr_s (pc1 := 6) (st1 := [.int a5]) rfl (fun _ => rfl) ?_
    refine pr_s (pc1 := 7) (st1 := [.int 20, .int a5]) rfl (fun _ => rfl) ?_
    refine pr_bf (t := 14) (off := 7) (bb := decide ((20 : Int32) < a5)) (st1 := []) rfl rfl rfl rfl (pb_ltF (show 20 ≤ (20 : Int32).toInt by decide) ha5.2 (by decide)) ?_
    refine pr_s (pc1 := 11) (st1 := [.int 1]) rfl (fun _ => rfl) ?_
    refine pr_s (pc1 := 15) (st1 := [.int 1]) rfl (fun _ => rfl) ?_
    exact pr_e rfl (fun _ => rfl) ⟨rfl, rfl⟩
  show px_R _ _ _ _ (9, [(0, .ref 136), (1, .int 6), (2, .int a2), (3, .int a3), (4, .int a4), (5, .int a5)], [.int 1, .ref 136], _) _ _ _
  refine pr_bf (t := 16) (off := 7) (bb := decide ((1 : Int32) = 0)) (st1 := [.ref 136]) rfl rfl rfl rfl (by decide) ?_
  refine pr_s (pc1 := 13) (st1 := [.int 0, .ref 136]) rfl (fun _ => rfl) ?_
  refine pr_s (pc1 := 17) (st1 := [.int 0, .ref 136]) rfl (fun _ => rfl) ?_
  refine pr_putf (pc1 := 20) (h1 := ph_192) rfl rfl pg_508 rfl rfl rfl rfl rfl (px_set_same pg_508 rfl) rfl ?_
  refine pr_s (pc1 := 21) (st1 := [.ref 136]) rfl (fun _ => rfl) ?_
  refine pr_getf (pc1 := 24) (v := .int 0) rfl rfl pg_508 rfl rfl ?_
  refine pr_bt (t := 29) (off := 5) (bb := decide ((0 : Int32) ≤ 0)) (st1 := []) rfl rfl rfl rfl (by decide) ?_
  refine pr_s (pc1 := 30) (st1 := [.ref 136]) rfl (fun _ => rfl) ?_
  refine pr_s (pc1 := 32) (st1 := [.int a5, .ref 136]) rfl (fun _ => rfl) ?_
  refine pr_callv (N := pm_X10_fireAhead) (as := [.ref 136, .int a5]) (rest := []) (f := 2046) (l := 83954) (c1 := 0) (k1 := 0) (c2 := 0) (k2 := 0) (v := some (.int 0)) (h1 := ph_192) rfl (fun ex => px_inv_hs ex rfl rfl rfl pg_508 rfl rfl rfl rfl) ?_ (Nat.le_of_ble_eq_true rfl) (Nat.le_of_ble_eq_true rfl) ?_
  · refine px_C_of rfl ?_
    refine pr_s (pc1 := 1) (st1 := [.ref 136]) rfl (fun _ => rfl) ?_
    refine pr_getf (pc1 := 4) (v := .ref 151) rfl rfl pg_508 rfl rfl ?_
    refine pr_s (pc1 := 5) (st1 := [.ref 136, .ref 151]) rfl (fun _ => rfl) ?_
    refine pr_getf (pc1 := 8) (v := .ref 138) rfl rfl pg_508 rfl rfl ?_
    refine pr_callv (N := pm_X9_become) (as := [.ref 151, .ref 138]) (rest := []) (f := 2045) (l := 83933) (c1 := 0) (k1 := 0) (c2 := 0) (k2 := 0) (v := none) (h1 := ph_192) rfl (fun ex => px_inv_hs ex rfl rfl rfl pg_517 rfl rfl rfl rfl) ?_ (Nat.le_of_ble_eq_true rfl) (Nat.le_of_ble_eq_true rfl) ?_
    · exact px_C_none pc_4 (Nat.le_of_ble_eq_true rfl) (Nat.le_of_ble_eq_true rfl) (Nat.le_of_ble_eq_true rfl) (Nat.le_of_ble_eq_true rfl)
    show px_R _ _ _ _ (11, [(0, .ref 136), (1, .int a5)], [], _) _ _ _
    refine pr_s (pc1 := 12) (st1 := [.ref 136]) rfl (fun _ => rfl) ?_
    refine pr_getf (pc1 := 15) (v := .ref 151) rfl rfl pg_508 rfl rfl ?_
    refine pr_s (pc1 := 16) (st1 := [.int a5, .ref 151]) rfl (fun _ => rfl) ?_
    refine pr_callv (N := pm_X9_fire) (as := [.ref 151, .int a5]) (rest := []) (f := 2045) (l := 83931) (c1 := 0) (k1 := 0) (c2 := 0) (k2 := 0) (v := some (.int 0)) (h1 := ph_192) rfl (fun ex => px_inv_hs ex rfl rfl rfl pg_517 rfl rfl rfl rfl) ?_ (Nat.le_of_ble_eq_true rfl) (Nat.le_of_ble_eq_true rfl) ?_
    · refine px_C_of rfl ?_
      refine pr_s (pc1 := 1) (st1 := [.int 0]) rfl (fun _ => rfl) ?_
      refine pr_s (pc1 := 2) (lv1 := [(2, .int 0), (0, .ref 151), (1, .int a5)]) (st1 := []) rfl (fun _ => rfl) ?_
      refine pr_s (pc1 := 3) (st1 := [.ref 151]) rfl (fun _ => rfl) ?_
      refine pr_callv (N := pm_X9_first) (as := [.ref 151]) (rest := []) (f := 2044) (l := 83909) (c1 := 0) (k1 := 0) (c2 := 0) (k2 := 0) (v := some (.int (-1))) (h1 := ph_192) rfl (fun ex => px_inv_hs ex rfl rfl rfl pg_517 rfl rfl rfl rfl) ?_ (Nat.le_of_ble_eq_true rfl) (Nat.le_of_ble_eq_true rfl) ?_
      · refine px_C_of rfl ?_
        refine pr_s (pc1 := 1) (st1 := [.int (-1)]) rfl (fun _ => rfl) ?_
        refine pr_s (pc1 := 2) (lv1 := [(1, .int (-1)), (0, .ref 151)]) (st1 := []) rfl (fun _ => rfl) ?_
        refine pr_s (pc1 := 3) (st1 := [.int 0]) rfl (fun _ => rfl) ?_
        refine pr_s (pc1 := 4) (lv1 := [(2, .int 0), (1, .int (-1)), (0, .ref 151)]) (st1 := []) rfl (fun _ => rfl) ?_
        refine pr_s (pc1 := 5) (st1 := [.int 0]) rfl (fun _ => rfl) ?_
        refine pr_s (pc1 := 6) (st1 := [.ref 151, .int 0]) rfl (fun _ => rfl) ?_
        refine pr_getf (pc1 := 9) (v := .ref 156) rfl rfl pg_517 rfl rfl ?_
        refine pr_getf (pc1 := 12) (v := .int 0) rfl rfl pg_519 rfl rfl ?_
        refine pr_bt (t := 49) (off := 37) (bb := decide ((0 : Int32) ≤ (0 : Int32))) (st1 := []) rfl rfl rfl rfl (by decide) ?_
        refine pr_s (pc1 := 50) (st1 := [.int (-1)]) rfl (fun _ => rfl) ?_
        exact pr_e rfl (fun _ => rfl) ⟨rfl, rfl⟩
      show px_R _ _ _ _ (6, [(2, .int 0), (0, .ref 151), (1, .int a5)], [.int (-1)], _) _ _ _
      refine pr_s (pc1 := 7) (lv1 := [(3, .int (-1)), (2, .int 0), (0, .ref 151), (1, .int a5)]) (st1 := []) rfl (fun _ => rfl) ?_
      refine pr_s (pc1 := 8) (st1 := [.int 0]) rfl (fun _ => rfl) ?_
      refine pr_s (pc1 := 9) (st1 := [.int a5, .int 0]) rfl (fun _ => rfl) ?_
      refine pr_bf (t := 33) (off := 24) (bb := decide ((a5 : Int32) ≤ (0 : Int32))) (st1 := []) rfl rfl rfl rfl (pb_leF ha5.1 (show (0 : Int32).toInt ≤ 0 by decide) (by decide)) ?_
      refine pr_s (pc1 := 13) (st1 := [.int (-1)]) rfl (fun _ => rfl) ?_
      refine pr_s (pc1 := 14) (st1 := [.int (-1), .int (-1)]) rfl (fun _ => rfl) ?_
      refine pr_bt (t := 33) (off := 19) (bb := decide (((-1) : Int32) = (-1))) (st1 := []) rfl rfl rfl rfl (by decide) ?_
      refine pr_s (pc1 := 34) (st1 := [.int 0]) rfl (fun _ => rfl) ?_
      exact pr_e rfl (fun _ => rfl) ⟨rfl, rfl⟩
    show px_R _ _ _ _ (19, [(0, .ref 136), (1, .int a5)], [.int 0], _) _ _ _
    exact pr_e rfl (fun _ => rfl) ⟨rfl, rfl⟩
  show px_R _ _ _ _ (35, [(0, .ref 136), (1, .int 6), (2, .int a2), (3, .int a3), (4, .int a4), (5, .int a5)], [.int 0], _) _ _ _
  refine pr_s (pc1 := 36) (st1 := []) rfl (fun _ => rfl) ?_
  refine pr_s (pc1 := 37) (st1 := [.ref 136]) rfl (fun _ => rfl) ?_
  refine pr_getf (pc1 := 40) (v := .ref 151) rfl rfl pg_508 rfl rfl ?_
  refine pr_s (pc1 := 41) (st1 := [.int 6, .ref 151]) rfl (fun _ => rfl) ?_
  refine pr_s (pc1 := 42) (st1 := [.int a2, .int 6, .ref 151]) rfl (fun _ => rfl) ?_
  refine pr_s (pc1 := 43) (st1 := [.int a3, .int a2, .int 6, .ref 151]) rfl (fun _ => rfl) ?_
  refine pr_s (pc1 := 45) (st1 := [.int a4, .int a3, .int a2, .int 6, .ref 151]) rfl (fun _ => rfl) ?_
  refine pr_callv (N := pm_X9_find) (as := [.ref 151, .int 6, .int a2, .int a3, .int a4]) (rest := []) (f := 2046) (l := 83950) (c1 := 0) (k1 := 0) (c2 := 0) (k2 := 0) (v := some (.int (-1))) (h1 := ph_192) rfl (fun ex => px_inv_hs ex rfl rfl rfl pg_517 rfl rfl rfl rfl) ?_ (Nat.le_of_ble_eq_true rfl) (Nat.le_of_ble_eq_true rfl) ?_
  · refine px_C_of rfl ?_
    refine pr_s (pc1 := 1) (st1 := [.ref 151]) rfl (fun _ => rfl) ?_
    refine pr_getf (pc1 := 4) (v := .ref 154) rfl rfl pg_517 rfl rfl ?_
    refine pr_getf (pc1 := 7) (v := .int 0) rfl rfl pg_521 rfl rfl ?_
    refine pr_s (pc1 := 8) (st1 := [.int 1, .int 0]) rfl (fun _ => rfl) ?_
    refine pr_s (pc1 := 9) (st1 := [.int (-1)]) rfl (fun _ => rfl) ?_
    refine pr_s (pc1 := 11) (lv1 := [(5, .int (-1)), (0, .ref 151), (1, .int 6), (2, .int a2), (3, .int a3), (4, .int a4)]) (st1 := []) rfl (fun _ => rfl) ?_
    refine pr_s (pc1 := 13) (st1 := [.int (-1)]) rfl (fun _ => rfl) ?_
    refine pr_bt (t := 79) (off := 66) (bb := decide (((-1) : Int32) < 0)) (st1 := []) rfl rfl rfl rfl (by decide) ?_
    refine pr_s (pc1 := 81) (st1 := [.int (-1)]) rfl (fun _ => rfl) ?_
    exact pr_e rfl (fun _ => rfl) ⟨rfl, rfl⟩
  show px_R _ _ _ _ (48, [(0, .ref 136), (1, .int 6), (2, .int a2), (3, .int a3), (4, .int a4), (5, .int a5)], [.int (-1)], _) _ _ _
  refine pr_s (pc1 := 49) (st1 := [.int (-1), .int (-1)]) rfl (fun _ => rfl) ?_
  refine pr_bt (t := 56) (off := 7) (bb := decide (((-1) : Int32) = (-1))) (st1 := []) rfl rfl rfl rfl (by decide) ?_
  refine pr_s (pc1 := 57) (st1 := [.int 0]) rfl (fun _ => rfl) ?_
  exact pr_e rfl (fun _ => rfl) ⟨rfl, rfl⟩
set_option maxRecDepth 100000 in
theorem pq_112 {sx : Option (List Int32)} (a2 a3 a4 : Int32) : px_C sx pm_X2_placeLike [.ref 115, .int 7, .int a2, .int a3, .int a4] (px_hs) 2045 83922 0 0 (fun r h' => r = .inl (some (.int (-1))) ∧ h' = px_hs) := by
  refine px_C_of rfl ?_
  refine pr_s (pc1 := 1) (st1 := [.int 7]) rfl (fun _ => rfl) ?_
  refine pr_bf (t := 10) (off := 9) (bb := decide ((7 : Int32) < 0)) (st1 := []) rfl rfl rfl rfl (by decide) ?_
  refine pr_s (pc1 := 5) (st1 := [.int 7]) rfl (fun _ => rfl) ?_
  refine pr_s (pc1 := 7) (st1 := [.int 8, .int 7]) rfl (fun _ => rfl) ?_
  refine pr_bt (t := 12) (off := 5) (bb := decide ((7 : Int32) < 8)) (st1 := []) rfl rfl rfl rfl (by decide) ?_
  refine pr_s (pc1 := 13) (st1 := [.int 7]) rfl (fun _ => rfl) ?_
  refine pr_s (pc1 := 15) (st1 := [.int 6, .int 7]) rfl (fun _ => rfl) ?_
  refine pr_s (pc1 := 16) (st1 := [.int 42]) rfl (fun _ => rfl) ?_
  refine pr_s (pc1 := 18) (lv1 := [(5, .int 42), (0, .ref 115), (1, .int 7), (2, .int a2), (3, .int a3), (4, .int a4)]) (st1 := []) rfl (fun _ => rfl) ?_
  refine pr_s (pc1 := 20) (st1 := [.int 42]) rfl (fun _ => rfl) ?_
  refine pr_s (pc1 := 21) (st1 := [.int 7, .int 42]) rfl (fun _ => rfl) ?_
  refine pr_s (pc1 := 22) (st1 := [.int 1, .int 7, .int 42]) rfl (fun _ => rfl) ?_
  refine pr_s (pc1 := 23) (st1 := [.int 8, .int 42]) rfl (fun _ => rfl) ?_
  refine pr_s (pc1 := 25) (st1 := [.int 6, .int 8, .int 42]) rfl (fun _ => rfl) ?_
  refine pr_s (pc1 := 26) (st1 := [.int 48, .int 42]) rfl (fun _ => rfl) ?_
  refine pr_bf (t := 92) (off := 66) (bb := decide ((48 : Int32) ≤ (42 : Int32))) (st1 := []) rfl rfl rfl rfl (by decide) ?_
  refine pr_s (pc1 := 31) (st1 := [.int 42]) rfl (fun _ => rfl) ?_
  refine pr_s (pc1 := 32) (st1 := [.int 3, .int 42]) rfl (fun _ => rfl) ?_
  refine pr_s (pc1 := 33) (st1 := [.int 126]) rfl (fun _ => rfl) ?_
  refine pr_s (pc1 := 35) (lv1 := [(6, .int 126), (5, .int 42), (0, .ref 115), (1, .int 7), (2, .int a2), (3, .int a3), (4, .int a4)]) (st1 := []) rfl (fun _ => rfl) ?_
  refine pr_s (pc1 := 36) (st1 := [.ref 115]) rfl (fun _ => rfl) ?_
  refine pr_getf (pc1 := 39) (v := .ref 116) rfl rfl pg_515 rfl rfl ?_
  refine pr_s (pc1 := 41) (st1 := [.int 42, .ref 116]) rfl (fun _ => rfl) ?_
  refine pr_iald (pc1 := 42) (x := (-1)) rfl pg_522 rfl rfl rfl ?_
  refine pr_bt (t := 86) (off := 44) (bb := decide (((-1) : Int32) < 0)) (st1 := []) rfl rfl rfl rfl (by decide) ?_
  refine pr_s (pc1 := 89) (lv1 := [(5, .int 43), (6, .int 126), (0, .ref 115), (1, .int 7), (2, .int a2), (3, .int a3), (4, .int a4)]) (st1 := []) rfl (fun _ => rfl) ?_
  refine pr_s (pc1 := 18) (st1 := []) rfl (fun _ => rfl) ?_
  refine pr_s (pc1 := 20) (st1 := [.int 43]) rfl (fun _ => rfl) ?_
  refine pr_s (pc1 := 21) (st1 := [.int 7, .int 43]) rfl (fun _ => rfl) ?_
  refine pr_s (pc1 := 22) (st1 := [.int 1, .int 7, .int 43]) rfl (fun _ => rfl) ?_
  refine pr_s (pc1 := 23) (st1 := [.int 8, .int 43]) rfl (fun _ => rfl) ?_
  refine pr_s (pc1 := 25) (st1 := [.int 6, .int 8, .int 43]) rfl (fun _ => rfl) ?_
  refine pr_s (pc1 := 26) (st1 := [.int 48, .int 43]) rfl (fun _ => rfl) ?_
  refine pr_bf (t := 92) (off := 66) (bb := decide ((48 : Int32) ≤ (43 : Int32))) (st1 := []) rfl rfl rfl rfl (by decide) ?_
  refine pr_s (pc1 := 31) (st1 := [.int 43]) rfl (fun _ => rfl) ?_
  refine pr_s (pc1 := 32) (st1 := [.int 3, .int 43]) rfl (fun _ => rfl) ?_
  refine pr_s (pc1 := 33) (st1 := [.int 129]) rfl (fun _ => rfl) ?_
  refine pr_s (pc1 := 35) (lv1 := [(6, .int 129), (5, .int 43), (0, .ref 115), (1, .int 7), (2, .int a2), (3, .int a3), (4, .int a4)]) (st1 := []) rfl (fun _ => rfl) ?_
  refine pr_s (pc1 := 36) (st1 := [.ref 115]) rfl (fun _ => rfl) ?_
  refine pr_getf (pc1 := 39) (v := .ref 116) rfl rfl pg_515 rfl rfl ?_
  refine pr_s (pc1 := 41) (st1 := [.int 43, .ref 116]) rfl (fun _ => rfl) ?_
  refine pr_iald (pc1 := 42) (x := (-1)) rfl pg_522 rfl rfl rfl ?_
  refine pr_bt (t := 86) (off := 44) (bb := decide (((-1) : Int32) < 0)) (st1 := []) rfl rfl rfl rfl (by decide) ?_
  refine pr_s (pc1 := 89) (lv1 := [(5, .int 44), (6, .int 129), (0, .ref 115), (1, .int 7), (2, .int a2), (3, .int a3), (4, .int a4)]) (st1 := []) rfl (fun _ => rfl) ?_
  refine pr_s (pc1 := 18) (st1 := []) rfl (fun _ => rfl) ?_
  refine pr_s (pc1 := 20) (st1 := [.int 44]) rfl (fun _ => rfl) ?_
  refine pr_s (pc1 := 21) (st1 := [.int 7, .int 44]) rfl (fun _ => rfl) ?_
  refine pr_s (pc1 := 22) (st1 := [.int 1, .int 7, .int 44]) rfl (fun _ => rfl) ?_
  refine pr_s (pc1 := 23) (st1 := [.int 8, .int 44]) rfl (fun _ => rfl) ?_
  refine pr_s (pc1 := 25) (st1 := [.int 6, .int 8, .int 44]) rfl (fun _ => rfl) ?_
  refine pr_s (pc1 := 26) (st1 := [.int 48, .int 44]) rfl (fun _ => rfl) ?_
  refine pr_bf (t := 92) (off := 66) (bb := decide ((48 : Int32) ≤ (44 : Int32))) (st1 := []) rfl rfl rfl rfl (by decide) ?_
  refine pr_s (pc1 := 31) (st1 := [.int 44]) rfl (fun _ => rfl) ?_
  refine pr_s (pc1 := 32) (st1 := [.int 3, .int 44]) rfl (fun _ => rfl) ?_
  refine pr_s (pc1 := 33) (st1 := [.int 132]) rfl (fun _ => rfl) ?_
  refine pr_s (pc1 := 35) (lv1 := [(6, .int 132), (5, .int 44), (0, .ref 115), (1, .int 7), (2, .int a2), (3, .int a3), (4, .int a4)]) (st1 := []) rfl (fun _ => rfl) ?_
  refine pr_s (pc1 := 36) (st1 := [.ref 115]) rfl (fun _ => rfl) ?_
  refine pr_getf (pc1 := 39) (v := .ref 116) rfl rfl pg_515 rfl rfl ?_
  refine pr_s (pc1 := 41) (st1 := [.int 44, .ref 116]) rfl (fun _ => rfl) ?_
  refine pr_iald (pc1 := 42) (x := (-1)) rfl pg_522 rfl rfl rfl ?_
  refine pr_bt (t := 86) (off := 44) (bb := decide (((-1) : Int32) < 0)) (st1 := []) rfl rfl rfl rfl (by decide) ?_
  refine pr_s (pc1 := 89) (lv1 := [(5, .int 45), (6, .int 132), (0, .ref 115), (1, .int 7), (2, .int a2), (3, .int a3), (4, .int a4)]) (st1 := []) rfl (fun _ => rfl) ?_
  refine pr_s (pc1 := 18) (st1 := []) rfl (fun _ => rfl) ?_
  refine pr_s (pc1 := 20) (st1 := [.int 45]) rfl (fun _ => rfl) ?_
  refine pr_s (pc1 := 21) (st1 := [.int 7, .int 45]) rfl (fun _ => rfl) ?_
  refine pr_s (pc1 := 22) (st1 := [.int 1, .int 7, .int 45]) rfl (fun _ => rfl) ?_
  refine pr_s (pc1 := 23) (st1 := [.int 8, .int 45]) rfl (fun _ => rfl) ?_
  refine pr_s (pc1 := 25) (st1 := [.int 6, .int 8, .int 45]) rfl (fun _ => rfl) ?_
  refine pr_s (pc1 := 26) (st1 := [.int 48, .int 45]) rfl (fun _ => rfl) ?_
  refine pr_bf (t := 92) (off := 66) (bb := decide ((48 : Int32) ≤ (45 : Int32))) (st1 := []) rfl rfl rfl rfl (by decide) ?_
  refine pr_s (pc1 := 31) (st1 := [.int 45]) rfl (fun _ => rfl) ?_
  refine pr_s (pc1 := 32) (st1 := [.int 3, .int 45]) rfl (fun _ => rfl) ?_
  refine pr_s (pc1 := 33) (st1 := [.int 135]) rfl (fun _ => rfl) ?_
  refine pr_s (pc1 := 35) (lv1 := [(6, .int 135), (5, .int 45), (0, .ref 115), (1, .int 7), (2, .int a2), (3, .int a3), (4, .int a4)]) (st1 := []) rfl (fun _ => rfl) ?_
  refine pr_s (pc1 := 36) (st1 := [.ref 115]) rfl (fun _ => rfl) ?_
  refine pr_getf (pc1 := 39) (v := .ref 116) rfl rfl pg_515 rfl rfl ?_
  refine pr_s (pc1 := 41) (st1 := [.int 45, .ref 116]) rfl (fun _ => rfl) ?_
  refine pr_iald (pc1 := 42) (x := (-1)) rfl pg_522 rfl rfl rfl ?_
  refine pr_bt (t := 86) (off := 44) (bb := decide (((-1) : Int32) < 0)) (st1 := []) rfl rfl rfl rfl (by decide) ?_
  refine pr_s (pc1 := 89) (lv1 := [(5, .int 46), (6, .int 135), (0, .ref 115), (1, .int 7), (2, .int a2), (3, .int a3), (4, .int a4)]) (st1 := []) rfl (fun _ => rfl) ?_
  refine pr_s (pc1 := 18) (st1 := []) rfl (fun _ => rfl) ?_
  refine pr_s (pc1 := 20) (st1 := [.int 46]) rfl (fun _ => rfl) ?_
  refine pr_s (pc1 := 21) (st1 := [.int 7, .int 46]) rfl (fun _ => rfl) ?_
  refine pr_s (pc1 := 22) (st1 := [.int 1, .int 7, .int 46]) rfl (fun _ => rfl) ?_
  refine pr_s (pc1 := 23) (st1 := [.int 8, .int 46]) rfl (fun _ => rfl) ?_
  refine pr_s (pc1 := 25) (st1 := [.int 6, .int 8, .int 46]) rfl (fun _ => rfl) ?_
  refine pr_s (pc1 := 26) (st1 := [.int 48, .int 46]) rfl (fun _ => rfl) ?_
  refine pr_bf (t := 92) (off := 66) (bb := decide ((48 : Int32) ≤ (46 : Int32))) (st1 := []) rfl rfl rfl rfl (by decide) ?_
  refine pr_s (pc1 := 31) (st1 := [.int 46]) rfl (fun _ => rfl) ?_
  refine pr_s (pc1 := 32) (st1 := [.int 3, .int 46]) rfl (fun _ => rfl) ?_
  refine pr_s (pc1 := 33) (st1 := [.int 138]) rfl (fun _ => rfl) ?_
  refine pr_s (pc1 := 35) (lv1 := [(6, .int 138), (5, .int 46), (0, .ref 115), (1, .int 7), (2, .int a2), (3, .int a3), (4, .int a4)]) (st1 := []) rfl (fun _ => rfl) ?_
  refine pr_s (pc1 := 36) (st1 := [.ref 115]) rfl (fun _ => rfl) ?_
  refine pr_getf (pc1 := 39) (v := .ref 116) rfl rfl pg_515 rfl rfl ?_
  refine pr_s (pc1 := 41) (st1 := [.int 46, .ref 116]) rfl (fun _ => rfl) ?_
  refine pr_iald (pc1 := 42) (x := (-1)) rfl pg_522 rfl rfl rfl ?_
  refine pr_bt (t := 86) (off := 44) (bb := decide (((-1) : Int32) < 0)) (st1 := []) rfl rfl rfl rfl (by decide) ?_
  refine pr_s (pc1 := 89) (lv1 := [(5, .int 47), (6, .int 138), (0, .ref 115), (1, .int 7), (2, .int a2), (3, .int a3), (4, .int a4)]) (st1 := []) rfl (fun _ => rfl) ?_
  refine pr_s (pc1 := 18) (st1 := []) rfl (fun _ => rfl) ?_
  refine pr_s (pc1 := 20) (st1 := [.int 47]) rfl (fun _ => rfl) ?_
  refine pr_s (pc1 := 21) (st1 := [.int 7, .int 47]) rfl (fun _ => rfl) ?_
  refine pr_s (pc1 := 22) (st1 := [.int 1, .int 7, .int 47]) rfl (fun _ => rfl) ?_
  refine pr_s (pc1 := 23) (st1 := [.int 8, .int 47]) rfl (fun _ => rfl) ?_
  refine pr_s (pc1 := 25) (st1 := [.int 6, .int 8, .int 47]) rfl (fun _ => rfl) ?_
  refine pr_s (pc1 := 26) (st1 := [.int 48, .int 47]) rfl (fun _ => rfl) ?_
  refine pr_bf (t := 92) (off := 66) (bb := decide ((48 : Int32) ≤ (47 : Int32))) (st1 := []) rfl rfl rfl rfl (by decide) ?_
  refine pr_s (pc1 := 31) (st1 := [.int 47]) rfl (fun _ => rfl) ?_
  refine pr_s (pc1 := 32) (st1 := [.int 3, .int 47]) rfl (fun _ => rfl) ?_
  refine pr_s (pc1 := 33) (st1 := [.int 141]) rfl (fun _ => rfl) ?_
  refine pr_s (pc1 := 35) (lv1 := [(6, .int 141), (5, .int 47), (0, .ref 115), (1, .int 7), (2, .int a2), (3, .int a3), (4, .int a4)]) (st1 := []) rfl (fun _ => rfl) ?_
  refine pr_s (pc1 := 36) (st1 := [.ref 115]) rfl (fun _ => rfl) ?_
  refine pr_getf (pc1 := 39) (v := .ref 116) rfl rfl pg_515 rfl rfl ?_
  refine pr_s (pc1 := 41) (st1 := [.int 47, .ref 116]) rfl (fun _ => rfl) ?_
  refine pr_iald (pc1 := 42) (x := (-1)) rfl pg_522 rfl rfl rfl ?_
  refine pr_bt (t := 86) (off := 44) (bb := decide (((-1) : Int32) < 0)) (st1 := []) rfl rfl rfl rfl (by decide) ?_
  refine pr_s (pc1 := 89) (lv1 := [(5, .int 48), (6, .int 141), (0, .ref 115), (1, .int 7), (2, .int a2), (3, .int a3), (4, .int a4)]) (st1 := []) rfl (fun _ => rfl) ?_
  refine pr_s (pc1 := 18) (st1 := []) rfl (fun _ => rfl) ?_
  refine pr_s (pc1 := 20) (st1 := [.int 48]) rfl (fun _ => rfl) ?_
  refine pr_s (pc1 := 21) (st1 := [.int 7, .int 48]) rfl (fun _ => rfl) ?_
  refine pr_s (pc1 := 22) (st1 := [.int 1, .int 7, .int 48]) rfl (fun _ => rfl) ?_
  refine pr_s (pc1 := 23) (st1 := [.int 8, .int 48]) rfl (fun _ => rfl) ?_
  refine pr_s (pc1 := 25) (st1 := [.int 6, .int 8, .int 48]) rfl (fun _ => rfl) ?_
  refine pr_s (pc1 := 26) (st1 := [.int 48, .int 48]) rfl (fun _ => rfl) ?_
  refine pr_bt (t := 92) (off := 66) (bb := decide ((48 : Int32) ≤ (48 : Int32))) (st1 := []) rfl rfl rfl rfl (by decide) ?_
  refine pr_s (pc1 := 93) (st1 := [.int (-1)]) rfl (fun _ => rfl) ?_
  exact pr_e rfl (fun _ => rfl) ⟨rfl, rfl⟩
set_option maxRecDepth 100000 in
theorem pq_113 {sx : Option (List Int32)} (a2 a3 a4 a5 : Int32) (ha5 : 1 ≤ a5.toInt ∧ a5.toInt ≤ 20) : px_C sx pm_L_wouldHold [.ref 0, .int 7, .int a2, .int a3, .int a4, .int a5, .ref 164] (px_hs) 2047 83973 0 0 (fun r h' => r = .inl (some (.int 0)) ∧ h' = ph_192) := by
  refine px_C_of rfl ?_
  refine pr_s (pc1 := 2) (st1 := [.ref 164]) rfl (fun _ => rfl) ?_
  refine pr_s (pc1 := 3) (st1 := [.int 0, .ref 164]) rfl (fun _ => rfl) ?_
  refine pr_s (pc1 := 4) (st1 := [.ref 0, .int 0, .ref 164]) rfl (fun _ => rfl) ?_
  refine pr_s (pc1 := 5) (st1 := [.int 7, .ref 0, .int 0, .ref 164]) rfl (fun _ => rfl) ?_
  refine pr_s (pc1 := 6) (st1 := [.int a2, .int 7, .ref 0, .int 0, .ref 164]) rfl (fun _ => rfl) ?_
  refine pr_s (pc1 := 7) (st1 := [.int a3, .int a2, .int 7, .ref 0, .int 0, .ref 164]) rfl (fun _ => rfl) ?_
  refine pr_s (pc1 := 9) (st1 := [.int a4, .int a3, .int a2, .int 7, .ref 0, .int 0, .ref 164]) rfl (fun _ => rfl) ?_
  refine pr_s (pc1 := 11) (st1 := [.int a5, .int a4, .int a3, .int a2, .int 7, .ref 0, .int 0, .ref 164]) rfl (fun _ => rfl) ?_
  refine pr_callv (N := pm_X6_wouldHold) (as := [.ref 0, .int 7, .int a2, .int a3, .int a4, .int a5]) (rest := [.int 0, .ref 164]) (f := 2046) (l := 83948) (c1 := 0) (k1 := 0) (c2 := 0) (k2 := 0) (v := some (.int 0)) (h1 := px_hs) rfl (fun ex => px_inv_hs ex rfl rfl rfl pg_0 rfl rfl rfl rfl) ?_ (Nat.le_of_ble_eq_true rfl) (Nat.le_of_ble_eq_true rfl) ?_
  · refine px_C_of rfl ?_
    refine pr_s (pc1 := 2) (st1 := [.int a5]) rfl (fun _ => rfl) ?_
    refine pr_callv (N := pm_X6_needMost) (as := [.int a5]) (rest := []) (f := 2045) (l := 83928) (c1 := 0) (k1 := 0) (c2 := 0) (k2 := 0) (v := none) (h1 := px_hs) rfl (fun _ => rfl) ?_ (Nat.le_of_ble_eq_true rfl) (Nat.le_of_ble_eq_true rfl) ?_
    · refine px_C_of rfl ?_
      refine pr_s (pc1 := 1) (st1 := [.int a5]) rfl (fun _ => rfl) ?_
      refine pr_s (pc1 := 2) (st1 := [.int 1, .int a5]) rfl (fun _ => rfl) ?_
      refine pr_bf (t := 11) (off := 9) (bb := decide (a5 < 1)) (st1 := []) rfl rfl rfl rfl (pb_ltF ha5.1 (show (1 : Int32).toInt ≤ 1 by decide) (by decide)) ?_
      refine pr_s (pc1 := 6) (st1 := [.int a5]) rfl (fun _ => rfl) ?_
      refine pr_s (pc1 := 8) (st1 := [.int 20, .int a5]) rfl (fun _ => rfl) ?_
      refine pr_bt (t := 22) (off := 14) (bb := decide (a5 ≤ 20)) (st1 := []) rfl rfl rfl rfl (pb_leT ha5.2 (show 20 ≤ (20 : Int32).toInt by decide) (by decide)) ?_
      exact pr_e rfl (fun _ => rfl) ⟨rfl, rfl⟩
    show px_R _ _ _ _ (5, [(0, .ref 0), (1, .int 7), (2, .int a2), (3, .int a3), (4, .int a4), (5, .int a5)], [], _) _ _ _
    refine pr_s (pc1 := 6) (st1 := [.ref 0]) rfl (fun _ => rfl) ?_
    refine pr_getf (pc1 := 9) (v := .ref 114) rfl rfl pg_0 rfl rfl ?_
    refine pr_s (pc1 := 10) (st1 := [.ref 0, .ref 114]) rfl (fun _ => rfl) ?_
    refine pr_getf (pc1 := 13) (v := .ref 92) rfl rfl pg_0 rfl rfl ?_
    refine pr_callv (N := pm_X5_become) (as := [.ref 114, .ref 92]) (rest := []) (f := 2045) (l := 83927) (c1 := 0) (k1 := 0) (c2 := 0) (k2 := 0) (v := none) (h1 := px_hs) rfl (fun ex => px_inv_hs ex rfl rfl rfl pg_514 rfl rfl rfl rfl) ?_ (Nat.le_of_ble_eq_true rfl) (Nat.le_of_ble_eq_true rfl) ?_
    · exact px_C_mono pb_become (Nat.le_of_ble_eq_true rfl) (Nat.le_of_ble_eq_true rfl) (Nat.le_refl _) (Nat.le_refl _) (fun _ _ h => h)
    show px_R _ _ _ _ (16, [(0, .ref 0), (1, .int 7), (2, .int a2), (3, .int a3), (4, .int a4), (5, .int a5)], [], _) _ _ _
    refine pr_s (pc1 := 17) (st1 := [.ref 0]) rfl (fun _ => rfl) ?_
    refine pr_getf (pc1 := 20) (v := .ref 114) rfl rfl pg_0 rfl rfl ?_
    refine pr_s (pc1 := 22) (st1 := [.int a5, .ref 114]) rfl (fun _ => rfl) ?_
    refine pr_callv (N := pm_X5_fireUpTo) (as := [.ref 114, .int a5]) (rest := []) (f := 2045) (l := 83921) (c1 := 0) (k1 := 0) (c2 := 0) (k2 := 0) (v := some (.int 0)) (h1 := px_hs) rfl (fun ex => px_inv_hs ex rfl rfl rfl pg_514 rfl rfl rfl rfl) ?_ (Nat.le_of_ble_eq_true rfl) (Nat.le_of_ble_eq_true rfl) ?_
    · refine px_C_of rfl ?_
      refine pr_s (pc1 := 1) (st1 := [.int 0]) rfl (fun _ => rfl) ?_
      refine pr_s (pc1 := 2) (lv1 := [(2, .int 0), (0, .ref 114), (1, .int a5)]) (st1 := []) rfl (fun _ => rfl) ?_
      refine pr_s (pc1 := 3) (st1 := [.int 0]) rfl (fun _ => rfl) ?_
      refine pr_s (pc1 := 4) (st1 := [.int a5, .int 0]) rfl (fun _ => rfl) ?_
      refine pr_bf (t := 153) (off := 149) (bb := decide ((a5 : Int32) ≤ (0 : Int32))) (st1 := []) rfl rfl rfl rfl (pb_leF ha5.1 (show (0 : Int32).toInt ≤ 0 by decide) (by decide)) ?_
      refine pr_s (pc1 := 8) (st1 := [.ref 114]) rfl (fun _ => rfl) ?_
      refine pr_callv (N := pm_X5_firstWaiting) (as := [.ref 114]) (rest := []) (f := 2044) (l := 83897) (c1 := 0) (k1 := 0) (c2 := 0) (k2 := 0) (v := some (.int (-1))) (h1 := px_hs) rfl (fun ex => px_inv_hs ex rfl rfl rfl pg_514 rfl rfl rfl rfl) ?_ (Nat.le_of_ble_eq_true rfl) (Nat.le_of_ble_eq_true rfl) ?_
      · exact px_C_none pc_3 (Nat.le_of_ble_eq_true rfl) (Nat.le_of_ble_eq_true rfl) (Nat.le_of_ble_eq_true rfl) (Nat.le_of_ble_eq_true rfl)
      show px_R _ _ _ _ (11, [(2, .int 0), (0, .ref 114), (1, .int a5)], [.int (-1)], _) _ _ _
      refine pr_s (pc1 := 12) (lv1 := [(3, .int (-1)), (2, .int 0), (0, .ref 114), (1, .int a5)]) (st1 := []) rfl (fun _ => rfl) ?_
      refine pr_s (pc1 := 13) (st1 := [.int (-1)]) rfl (fun _ => rfl) ?_
      refine pr_bt (t := 23) (off := 10) (bb := decide (((-1) : Int32) < 0)) (st1 := []) rfl rfl rfl rfl (by decide) ?_
      refine pr_s (pc1 := 24) (st1 := [.int 0]) rfl (fun _ => rfl) ?_
      exact pr_e rfl (fun _ => rfl) ⟨rfl, rfl⟩
    show px_R _ _ _ _ (25, [(0, .ref 0), (1, .int 7), (2, .int a2), (3, .int a3), (4, .int a4), (5, .int a5)], [.int 0], _) _ _ _
    refine pr_s (pc1 := 26) (st1 := []) rfl (fun _ => rfl) ?_
    refine pr_s (pc1 := 27) (st1 := [.ref 0]) rfl (fun _ => rfl) ?_
    refine pr_getf (pc1 := 30) (v := .ref 114) rfl rfl pg_0 rfl rfl ?_
    refine pr_getf (pc1 := 33) (v := .ref 115) rfl rfl pg_514 rfl rfl ?_
    refine pr_s (pc1 := 34) (st1 := [.int 7, .ref 115]) rfl (fun _ => rfl) ?_
    refine pr_s (pc1 := 35) (st1 := [.int a2, .int 7, .ref 115]) rfl (fun _ => rfl) ?_
    refine pr_s (pc1 := 36) (st1 := [.int a3, .int a2, .int 7, .ref 115]) rfl (fun _ => rfl) ?_
    refine pr_s (pc1 := 38) (st1 := [.int a4, .int a3, .int a2, .int 7, .ref 115]) rfl (fun _ => rfl) ?_
    refine pr_callv (N := pm_X2_placeLike) (as := [.ref 115, .int 7, .int a2, .int a3, .int a4]) (rest := []) (f := 2045) (l := 83922) (c1 := 0) (k1 := 0) (c2 := 0) (k2 := 0) (v := some (.int (-1))) (h1 := px_hs) rfl (fun ex => px_inv_hs ex rfl rfl rfl pg_515 rfl rfl rfl rfl) ?_ (Nat.le_of_ble_eq_true rfl) (Nat.le_of_ble_eq_true rfl) ?_
    · exact pq_112 a2 a3 a4
    show px_R _ _ _ _ (41, [(0, .ref 0), (1, .int 7), (2, .int a2), (3, .int a3), (4, .int a4), (5, .int a5)], [.int (-1)], _) _ _ _
    refine pr_bt (t := 48) (off := 7) (bb := decide (((-1) : Int32) < 0)) (st1 := []) rfl rfl rfl rfl (by decide) ?_
    refine pr_s (pc1 := 49) (st1 := [.int 0]) rfl (fun _ => rfl) ?_
    exact pr_e rfl (fun _ => rfl) ⟨rfl, rfl⟩
  show px_R _ _ _ _ (14, [(0, .ref 0), (1, .int 7), (2, .int a2), (3, .int a3), (4, .int a4), (5, .int a5), (6, .ref 164)], [.int 0, .int 0, .ref 164], _) _ _ _
  refine pr_bt (t := 21) (off := 7) (bb := decide ((0 : Int32) = 0)) (st1 := [.int 0, .ref 164]) rfl rfl rfl rfl (by decide) ?_
  refine pr_s (pc1 := 22) (st1 := [.long 0, .int 0, .ref 164]) rfl (fun _ => rfl) ?_
  refine pr_last (pc1 := 23) (h1 := ph_192) rfl pg_8 rfl rfl rfl ?_
  refine pr_s (pc1 := 30) (st1 := []) rfl (fun _ => rfl) ?_
  refine pr_s (pc1 := 31) (st1 := [.int 0]) rfl (fun _ => rfl) ?_
  exact pr_e rfl (fun _ => rfl) ⟨rfl, rfl⟩
set_option maxRecDepth 100000 in
theorem pq_114 {sx : Option (List Int32)} (a2 a3 a4 a5 : Int32) (ha5 : 1 ≤ a5.toInt ∧ a5.toInt ≤ 20) : px_C sx pm_X10_wouldHold [.ref 136, .int 7, .int a2, .int a3, .int a4, .int a5] (ph_192) 2047 83975 0 0 (fun r h' => r = .inl (some (.int 0)) ∧ h' = ph_192) := by
  refine px_C_of rfl ?_
  refine pr_s (pc1 := 1) (st1 := [.ref 136]) rfl (fun _ => rfl) ?_
  refine pr_s (pc1 := 3) (st1 := [.int a5, .ref 136]) rfl (fun _ => rfl) ?_
  refine pr_s (pc1 := 4) (st1 := [.int 1, .int a5, .ref 136]) rfl (fun _ => rfl) ?_
  refine pr_s (pc1 := 6) (st1 := [.int 20, .int 1, .int a5, .ref 136]) rfl (fun _ => rfl) ?_
  refine pr_callv (N := pm_X10_is) (as := [.int a5, .int 1, .int 20]) (rest := [.ref 136]) (f := 2046) (l := 83953) (c1 := 0) (k1 := 0) (c2 := 0) (k2 := 0) (v := some (.int 1)) (h1 := ph_192) rfl (fun _ => rfl) ?_ (Nat.le_of_ble_eq_true rfl) (Nat.le_of_ble_eq_true rfl) ?_
  · refine px_C_of rfl ?_
    refine pr_s (pc1 := 1) (st1 := [.int a5]) rfl (fun _ => rfl) ?_
    refine pr_s (pc1 := 2) (st1 := [.int 1, .int a5]) rfl (fun _ => rfl) ?_
    refine pr_bf (t := 14) (off := 12) (bb := decide (a5 < 1)) (st1 := []) rfl rfl rfl rfl (pb_ltF ha5.1 (show (1 : Int32).toInt ≤ 1 by decide) (by decide)) ?_
    refine pr_s (pc1 := 6) (st1 := [.int a5]) rfl (fun _ => rfl) ?_
    refine pr_s (pc1 := 7) (st1 := [.int 20, .int a5]) rfl (fun _ => rfl) ?_
    refine pr_bf (t := 14) (off := 7) (bb := decide ((20 : Int32) < a5)) (st1 := []) rfl rfl rfl rfl (pb_ltF (show 20 ≤ (20 : Int32).toInt by decide) ha5.2 (by decide)) ?_
    refine pr_s (pc1 := 11) (st1 := [.int 1]) rfl (fun _ => rfl) ?_
    refine pr_s (pc1 := 15) (st1 := [.int 1]) rfl (fun _ => rfl) ?_
    exact pr_e rfl (fun _ => rfl) ⟨rfl, rfl⟩
  show px_R _ _ _ _ (9, [(0, .ref 136), (1, .int 7), (2, .int a2), (3, .int a3), (4, .int a4), (5, .int a5)], [.int 1, .ref 136], _) _ _ _
  refine pr_bf (t := 16) (off := 7) (bb := decide ((1 : Int32) = 0)) (st1 := [.ref 136]) rfl rfl rfl rfl (by decide) ?_
  refine pr_s (pc1 := 13) (st1 := [.int 0, .ref 136]) rfl (fun _ => rfl) ?_
  refine pr_s (pc1 := 17) (st1 := [.int 0, .ref 136]) rfl (fun _ => rfl) ?_
  refine pr_putf (pc1 := 20) (h1 := ph_192) rfl rfl pg_508 rfl rfl rfl rfl rfl (px_set_same pg_508 rfl) rfl ?_
  refine pr_s (pc1 := 21) (st1 := [.ref 136]) rfl (fun _ => rfl) ?_
  refine pr_getf (pc1 := 24) (v := .int 0) rfl rfl pg_508 rfl rfl ?_
  refine pr_bt (t := 29) (off := 5) (bb := decide ((0 : Int32) ≤ 0)) (st1 := []) rfl rfl rfl rfl (by decide) ?_
  refine pr_s (pc1 := 30) (st1 := [.ref 136]) rfl (fun _ => rfl) ?_
  refine pr_s (pc1 := 32) (st1 := [.int a5, .ref 136]) rfl (fun _ => rfl) ?_
  refine pr_callv (N := pm_X10_fireAhead) (as := [.ref 136, .int a5]) (rest := []) (f := 2046) (l := 83954) (c1 := 0) (k1 := 0) (c2 := 0) (k2 := 0) (v := some (.int 0)) (h1 := ph_192) rfl (fun ex => px_inv_hs ex rfl rfl rfl pg_508 rfl rfl rfl rfl) ?_ (Nat.le_of_ble_eq_true rfl) (Nat.le_of_ble_eq_true rfl) ?_
  · refine px_C_of rfl ?_
    refine pr_s (pc1 := 1) (st1 := [.ref 136]) rfl (fun _ => rfl) ?_
    refine pr_getf (pc1 := 4) (v := .ref 151) rfl rfl pg_508 rfl rfl ?_
    refine pr_s (pc1 := 5) (st1 := [.ref 136, .ref 151]) rfl (fun _ => rfl) ?_
    refine pr_getf (pc1 := 8) (v := .ref 138) rfl rfl pg_508 rfl rfl ?_
    refine pr_callv (N := pm_X9_become) (as := [.ref 151, .ref 138]) (rest := []) (f := 2045) (l := 83933) (c1 := 0) (k1 := 0) (c2 := 0) (k2 := 0) (v := none) (h1 := ph_192) rfl (fun ex => px_inv_hs ex rfl rfl rfl pg_517 rfl rfl rfl rfl) ?_ (Nat.le_of_ble_eq_true rfl) (Nat.le_of_ble_eq_true rfl) ?_
    · exact px_C_none pc_4 (Nat.le_of_ble_eq_true rfl) (Nat.le_of_ble_eq_true rfl) (Nat.le_of_ble_eq_true rfl) (Nat.le_of_ble_eq_true rfl)
    show px_R _ _ _ _ (11, [(0, .ref 136), (1, .int a5)], [], _) _ _ _
    refine pr_s (pc1 := 12) (st1 := [.ref 136]) rfl (fun _ => rfl) ?_
    refine pr_getf (pc1 := 15) (v := .ref 151) rfl rfl pg_508 rfl rfl ?_
    refine pr_s (pc1 := 16) (st1 := [.int a5, .ref 151]) rfl (fun _ => rfl) ?_
    refine pr_callv (N := pm_X9_fire) (as := [.ref 151, .int a5]) (rest := []) (f := 2045) (l := 83931) (c1 := 0) (k1 := 0) (c2 := 0) (k2 := 0) (v := some (.int 0)) (h1 := ph_192) rfl (fun ex => px_inv_hs ex rfl rfl rfl pg_517 rfl rfl rfl rfl) ?_ (Nat.le_of_ble_eq_true rfl) (Nat.le_of_ble_eq_true rfl) ?_
    · refine px_C_of rfl ?_
      refine pr_s (pc1 := 1) (st1 := [.int 0]) rfl (fun _ => rfl) ?_
      refine pr_s (pc1 := 2) (lv1 := [(2, .int 0), (0, .ref 151), (1, .int a5)]) (st1 := []) rfl (fun _ => rfl) ?_
      refine pr_s (pc1 := 3) (st1 := [.ref 151]) rfl (fun _ => rfl) ?_
      refine pr_callv (N := pm_X9_first) (as := [.ref 151]) (rest := []) (f := 2044) (l := 83909) (c1 := 0) (k1 := 0) (c2 := 0) (k2 := 0) (v := some (.int (-1))) (h1 := ph_192) rfl (fun ex => px_inv_hs ex rfl rfl rfl pg_517 rfl rfl rfl rfl) ?_ (Nat.le_of_ble_eq_true rfl) (Nat.le_of_ble_eq_true rfl) ?_
      · refine px_C_of rfl ?_
        refine pr_s (pc1 := 1) (st1 := [.int (-1)]) rfl (fun _ => rfl) ?_
        refine pr_s (pc1 := 2) (lv1 := [(1, .int (-1)), (0, .ref 151)]) (st1 := []) rfl (fun _ => rfl) ?_
        refine pr_s (pc1 := 3) (st1 := [.int 0]) rfl (fun _ => rfl) ?_
        refine pr_s (pc1 := 4) (lv1 := [(2, .int 0), (1, .int (-1)), (0, .ref 151)]) (st1 := []) rfl (fun _ => rfl) ?_
        refine pr_s (pc1 := 5) (st1 := [.int 0]) rfl (fun _ => rfl) ?_
        refine pr_s (pc1 := 6) (st1 := [.ref 151, .int 0]) rfl (fun _ => rfl) ?_
        refine pr_getf (pc1 := 9) (v := .ref 156) rfl rfl pg_517 rfl rfl ?_
        refine pr_getf (pc1 := 12) (v := .int 0) rfl rfl pg_519 rfl rfl ?_
        refine pr_bt (t := 49) (off := 37) (bb := decide ((0 : Int32) ≤ (0 : Int32))) (st1 := []) rfl rfl rfl rfl (by decide) ?_
        refine pr_s (pc1 := 50) (st1 := [.int (-1)]) rfl (fun _ => rfl) ?_
        exact pr_e rfl (fun _ => rfl) ⟨rfl, rfl⟩
      show px_R _ _ _ _ (6, [(2, .int 0), (0, .ref 151), (1, .int a5)], [.int (-1)], _) _ _ _
      refine pr_s (pc1 := 7) (lv1 := [(3, .int (-1)), (2, .int 0), (0, .ref 151), (1, .int a5)]) (st1 := []) rfl (fun _ => rfl) ?_
      refine pr_s (pc1 := 8) (st1 := [.int 0]) rfl (fun _ => rfl) ?_
      refine pr_s (pc1 := 9) (st1 := [.int a5, .int 0]) rfl (fun _ => rfl) ?_
      refine pr_bf (t := 33) (off := 24) (bb := decide ((a5 : Int32) ≤ (0 : Int32))) (st1 := []) rfl rfl rfl rfl (pb_leF ha5.1 (show (0 : Int32).toInt ≤ 0 by decide) (by decide)) ?_
      refine pr_s (pc1 := 13) (st1 := [.int (-1)]) rfl (fun _ => rfl) ?_
      refine pr_s (pc1 := 14) (st1 := [.int (-1), .int (-1)]) rfl (fun _ => rfl) ?_
      refine pr_bt (t := 33) (off := 19) (bb := decide (((-1) : Int32) = (-1))) (st1 := []) rfl rfl rfl rfl (by decide) ?_
      refine pr_s (pc1 := 34) (st1 := [.int 0]) rfl (fun _ => rfl) ?_
      exact pr_e rfl (fun _ => rfl) ⟨rfl, rfl⟩
    show px_R _ _ _ _ (19, [(0, .ref 136), (1, .int a5)], [.int 0], _) _ _ _
    exact pr_e rfl (fun _ => rfl) ⟨rfl, rfl⟩
  show px_R _ _ _ _ (35, [(0, .ref 136), (1, .int 7), (2, .int a2), (3, .int a3), (4, .int a4), (5, .int a5)], [.int 0], _) _ _ _
  refine pr_s (pc1 := 36) (st1 := []) rfl (fun _ => rfl) ?_
  refine pr_s (pc1 := 37) (st1 := [.ref 136]) rfl (fun _ => rfl) ?_
  refine pr_getf (pc1 := 40) (v := .ref 151) rfl rfl pg_508 rfl rfl ?_
  refine pr_s (pc1 := 41) (st1 := [.int 7, .ref 151]) rfl (fun _ => rfl) ?_
  refine pr_s (pc1 := 42) (st1 := [.int a2, .int 7, .ref 151]) rfl (fun _ => rfl) ?_
  refine pr_s (pc1 := 43) (st1 := [.int a3, .int a2, .int 7, .ref 151]) rfl (fun _ => rfl) ?_
  refine pr_s (pc1 := 45) (st1 := [.int a4, .int a3, .int a2, .int 7, .ref 151]) rfl (fun _ => rfl) ?_
  refine pr_callv (N := pm_X9_find) (as := [.ref 151, .int 7, .int a2, .int a3, .int a4]) (rest := []) (f := 2046) (l := 83950) (c1 := 0) (k1 := 0) (c2 := 0) (k2 := 0) (v := some (.int (-1))) (h1 := ph_192) rfl (fun ex => px_inv_hs ex rfl rfl rfl pg_517 rfl rfl rfl rfl) ?_ (Nat.le_of_ble_eq_true rfl) (Nat.le_of_ble_eq_true rfl) ?_
  · refine px_C_of rfl ?_
    refine pr_s (pc1 := 1) (st1 := [.ref 151]) rfl (fun _ => rfl) ?_
    refine pr_getf (pc1 := 4) (v := .ref 154) rfl rfl pg_517 rfl rfl ?_
    refine pr_getf (pc1 := 7) (v := .int 0) rfl rfl pg_521 rfl rfl ?_
    refine pr_s (pc1 := 8) (st1 := [.int 1, .int 0]) rfl (fun _ => rfl) ?_
    refine pr_s (pc1 := 9) (st1 := [.int (-1)]) rfl (fun _ => rfl) ?_
    refine pr_s (pc1 := 11) (lv1 := [(5, .int (-1)), (0, .ref 151), (1, .int 7), (2, .int a2), (3, .int a3), (4, .int a4)]) (st1 := []) rfl (fun _ => rfl) ?_
    refine pr_s (pc1 := 13) (st1 := [.int (-1)]) rfl (fun _ => rfl) ?_
    refine pr_bt (t := 79) (off := 66) (bb := decide (((-1) : Int32) < 0)) (st1 := []) rfl rfl rfl rfl (by decide) ?_
    refine pr_s (pc1 := 81) (st1 := [.int (-1)]) rfl (fun _ => rfl) ?_
    exact pr_e rfl (fun _ => rfl) ⟨rfl, rfl⟩
  show px_R _ _ _ _ (48, [(0, .ref 136), (1, .int 7), (2, .int a2), (3, .int a3), (4, .int a4), (5, .int a5)], [.int (-1)], _) _ _ _
  refine pr_s (pc1 := 49) (st1 := [.int (-1), .int (-1)]) rfl (fun _ => rfl) ?_
  refine pr_bt (t := 56) (off := 7) (bb := decide (((-1) : Int32) = (-1))) (st1 := []) rfl rfl rfl rfl (by decide) ?_
  refine pr_s (pc1 := 57) (st1 := [.int 0]) rfl (fun _ => rfl) ?_
  exact pr_e rfl (fun _ => rfl) ⟨rfl, rfl⟩
set_option maxRecDepth 100000 in
theorem pq_115 {sx : Option (List Int32)} (a1 a2 a3 a4 a5 : Int32) (ha1 : 8 ≤ a1.toInt ∧ a1.toInt ≤ 2147483647) (ha5 : 1 ≤ a5.toInt ∧ a5.toInt ≤ 20) : px_C sx pm_L_wouldHold [.ref 0, .int a1, .int a2, .int a3, .int a4, .int a5, .ref 164] (px_hs) 2047 83973 0 0 (fun r h' => r = .inl (some (.int 0)) ∧ h' = ph_192) := by
  refine px_C_of rfl ?_
  refine pr_s (pc1 := 2) (st1 := [.ref 164]) rfl (fun _ => rfl) ?_
  refine pr_s (pc1 := 3) (st1 := [.int 0, .ref 164]) rfl (fun _ => rfl) ?_
  refine pr_s (pc1 := 4) (st1 := [.ref 0, .int 0, .ref 164]) rfl (fun _ => rfl) ?_
  refine pr_s (pc1 := 5) (st1 := [.int a1, .ref 0, .int 0, .ref 164]) rfl (fun _ => rfl) ?_
  refine pr_s (pc1 := 6) (st1 := [.int a2, .int a1, .ref 0, .int 0, .ref 164]) rfl (fun _ => rfl) ?_
  refine pr_s (pc1 := 7) (st1 := [.int a3, .int a2, .int a1, .ref 0, .int 0, .ref 164]) rfl (fun _ => rfl) ?_
  refine pr_s (pc1 := 9) (st1 := [.int a4, .int a3, .int a2, .int a1, .ref 0, .int 0, .ref 164]) rfl (fun _ => rfl) ?_
  refine pr_s (pc1 := 11) (st1 := [.int a5, .int a4, .int a3, .int a2, .int a1, .ref 0, .int 0, .ref 164]) rfl (fun _ => rfl) ?_
  refine pr_callv (N := pm_X6_wouldHold) (as := [.ref 0, .int a1, .int a2, .int a3, .int a4, .int a5]) (rest := [.int 0, .ref 164]) (f := 2046) (l := 83948) (c1 := 0) (k1 := 0) (c2 := 0) (k2 := 0) (v := some (.int 0)) (h1 := px_hs) rfl (fun ex => px_inv_hs ex rfl rfl rfl pg_0 rfl rfl rfl rfl) ?_ (Nat.le_of_ble_eq_true rfl) (Nat.le_of_ble_eq_true rfl) ?_
  · refine px_C_of rfl ?_
    refine pr_s (pc1 := 2) (st1 := [.int a5]) rfl (fun _ => rfl) ?_
    refine pr_callv (N := pm_X6_needMost) (as := [.int a5]) (rest := []) (f := 2045) (l := 83928) (c1 := 0) (k1 := 0) (c2 := 0) (k2 := 0) (v := none) (h1 := px_hs) rfl (fun _ => rfl) ?_ (Nat.le_of_ble_eq_true rfl) (Nat.le_of_ble_eq_true rfl) ?_
    · refine px_C_of rfl ?_
      refine pr_s (pc1 := 1) (st1 := [.int a5]) rfl (fun _ => rfl) ?_
      refine pr_s (pc1 := 2) (st1 := [.int 1, .int a5]) rfl (fun _ => rfl) ?_
      refine pr_bf (t := 11) (off := 9) (bb := decide (a5 < 1)) (st1 := []) rfl rfl rfl rfl (pb_ltF ha5.1 (show (1 : Int32).toInt ≤ 1 by decide) (by decide)) ?_
      refine pr_s (pc1 := 6) (st1 := [.int a5]) rfl (fun _ => rfl) ?_
      refine pr_s (pc1 := 8) (st1 := [.int 20, .int a5]) rfl (fun _ => rfl) ?_
      refine pr_bt (t := 22) (off := 14) (bb := decide (a5 ≤ 20)) (st1 := []) rfl rfl rfl rfl (pb_leT ha5.2 (show 20 ≤ (20 : Int32).toInt by decide) (by decide)) ?_
      exact pr_e rfl (fun _ => rfl) ⟨rfl, rfl⟩
    show px_R _ _ _ _ (5, [(0, .ref 0), (1, .int a1), (2, .int a2), (3, .int a3), (4, .int a4), (5, .int a5)], [], _) _ _ _
    refine pr_s (pc1 := 6) (st1 := [.ref 0]) rfl (fun _ => rfl) ?_
    refine pr_getf (pc1 := 9) (v := .ref 114) rfl rfl pg_0 rfl rfl ?_
    refine pr_s (pc1 := 10) (st1 := [.ref 0, .ref 114]) rfl (fun _ => rfl) ?_
    refine pr_getf (pc1 := 13) (v := .ref 92) rfl rfl pg_0 rfl rfl ?_
    refine pr_callv (N := pm_X5_become) (as := [.ref 114, .ref 92]) (rest := []) (f := 2045) (l := 83927) (c1 := 0) (k1 := 0) (c2 := 0) (k2 := 0) (v := none) (h1 := px_hs) rfl (fun ex => px_inv_hs ex rfl rfl rfl pg_514 rfl rfl rfl rfl) ?_ (Nat.le_of_ble_eq_true rfl) (Nat.le_of_ble_eq_true rfl) ?_
    · exact px_C_mono pb_become (Nat.le_of_ble_eq_true rfl) (Nat.le_of_ble_eq_true rfl) (Nat.le_refl _) (Nat.le_refl _) (fun _ _ h => h)
    show px_R _ _ _ _ (16, [(0, .ref 0), (1, .int a1), (2, .int a2), (3, .int a3), (4, .int a4), (5, .int a5)], [], _) _ _ _
    refine pr_s (pc1 := 17) (st1 := [.ref 0]) rfl (fun _ => rfl) ?_
    refine pr_getf (pc1 := 20) (v := .ref 114) rfl rfl pg_0 rfl rfl ?_
    refine pr_s (pc1 := 22) (st1 := [.int a5, .ref 114]) rfl (fun _ => rfl) ?_
    refine pr_callv (N := pm_X5_fireUpTo) (as := [.ref 114, .int a5]) (rest := []) (f := 2045) (l := 83921) (c1 := 0) (k1 := 0) (c2 := 0) (k2 := 0) (v := some (.int 0)) (h1 := px_hs) rfl (fun ex => px_inv_hs ex rfl rfl rfl pg_514 rfl rfl rfl rfl) ?_ (Nat.le_of_ble_eq_true rfl) (Nat.le_of_ble_eq_true rfl) ?_
    · refine px_C_of rfl ?_
      refine pr_s (pc1 := 1) (st1 := [.int 0]) rfl (fun _ => rfl) ?_
      refine pr_s (pc1 := 2) (lv1 := [(2, .int 0), (0, .ref 114), (1, .int a5)]) (st1 := []) rfl (fun _ => rfl) ?_
      refine pr_s (pc1 := 3) (st1 := [.int 0]) rfl (fun _ => rfl) ?_
      refine pr_s (pc1 := 4) (st1 := [.int a5, .int 0]) rfl (fun _ => rfl) ?_
      refine pr_bf (t := 153) (off := 149) (bb := decide ((a5 : Int32) ≤ (0 : Int32))) (st1 := []) rfl rfl rfl rfl (pb_leF ha5.1 (show (0 : Int32).toInt ≤ 0 by decide) (by decide)) ?_
      refine pr_s (pc1 := 8) (st1 := [.ref 114]) rfl (fun _ => rfl) ?_
      refine pr_callv (N := pm_X5_firstWaiting) (as := [.ref 114]) (rest := []) (f := 2044) (l := 83897) (c1 := 0) (k1 := 0) (c2 := 0) (k2 := 0) (v := some (.int (-1))) (h1 := px_hs) rfl (fun ex => px_inv_hs ex rfl rfl rfl pg_514 rfl rfl rfl rfl) ?_ (Nat.le_of_ble_eq_true rfl) (Nat.le_of_ble_eq_true rfl) ?_
      · exact px_C_none pc_3 (Nat.le_of_ble_eq_true rfl) (Nat.le_of_ble_eq_true rfl) (Nat.le_of_ble_eq_true rfl) (Nat.le_of_ble_eq_true rfl)
      show px_R _ _ _ _ (11, [(2, .int 0), (0, .ref 114), (1, .int a5)], [.int (-1)], _) _ _ _
      refine pr_s (pc1 := 12) (lv1 := [(3, .int (-1)), (2, .int 0), (0, .ref 114), (1, .int a5)]) (st1 := []) rfl (fun _ => rfl) ?_
      refine pr_s (pc1 := 13) (st1 := [.int (-1)]) rfl (fun _ => rfl) ?_
      refine pr_bt (t := 23) (off := 10) (bb := decide (((-1) : Int32) < 0)) (st1 := []) rfl rfl rfl rfl (by decide) ?_
      refine pr_s (pc1 := 24) (st1 := [.int 0]) rfl (fun _ => rfl) ?_
      exact pr_e rfl (fun _ => rfl) ⟨rfl, rfl⟩
    show px_R _ _ _ _ (25, [(0, .ref 0), (1, .int a1), (2, .int a2), (3, .int a3), (4, .int a4), (5, .int a5)], [.int 0], _) _ _ _
    refine pr_s (pc1 := 26) (st1 := []) rfl (fun _ => rfl) ?_
    refine pr_s (pc1 := 27) (st1 := [.ref 0]) rfl (fun _ => rfl) ?_
    refine pr_getf (pc1 := 30) (v := .ref 114) rfl rfl pg_0 rfl rfl ?_
    refine pr_getf (pc1 := 33) (v := .ref 115) rfl rfl pg_514 rfl rfl ?_
    refine pr_s (pc1 := 34) (st1 := [.int a1, .ref 115]) rfl (fun _ => rfl) ?_
    refine pr_s (pc1 := 35) (st1 := [.int a2, .int a1, .ref 115]) rfl (fun _ => rfl) ?_
    refine pr_s (pc1 := 36) (st1 := [.int a3, .int a2, .int a1, .ref 115]) rfl (fun _ => rfl) ?_
    refine pr_s (pc1 := 38) (st1 := [.int a4, .int a3, .int a2, .int a1, .ref 115]) rfl (fun _ => rfl) ?_
    refine pr_callv (N := pm_X2_placeLike) (as := [.ref 115, .int a1, .int a2, .int a3, .int a4]) (rest := []) (f := 2045) (l := 83922) (c1 := 0) (k1 := 0) (c2 := 0) (k2 := 0) (v := some (.int (-1))) (h1 := px_hs) rfl (fun ex => px_inv_hs ex rfl rfl rfl pg_515 rfl rfl rfl rfl) ?_ (Nat.le_of_ble_eq_true rfl) (Nat.le_of_ble_eq_true rfl) ?_
    · refine px_C_of rfl ?_
      refine pr_s (pc1 := 1) (st1 := [.int a1]) rfl (fun _ => rfl) ?_
      refine pr_bf (t := 10) (off := 9) (bb := decide (a1 < 0)) (st1 := []) rfl rfl rfl rfl (pb_ltF ha1.1 (show (0 : Int32).toInt ≤ 0 by decide) (by decide)) ?_
      refine pr_s (pc1 := 5) (st1 := [.int a1]) rfl (fun _ => rfl) ?_
      refine pr_s (pc1 := 7) (st1 := [.int 8, .int a1]) rfl (fun _ => rfl) ?_
      refine pr_bf (t := 12) (off := 5) (bb := decide (a1 < 8)) (st1 := []) rfl rfl rfl rfl (pb_ltF ha1.1 (show (8 : Int32).toInt ≤ 8 by decide) (by decide)) ?_
      refine pr_s (pc1 := 11) (st1 := [.int (-1)]) rfl (fun _ => rfl) ?_
      exact pr_e rfl (fun _ => rfl) ⟨rfl, rfl⟩
    show px_R _ _ _ _ (41, [(0, .ref 0), (1, .int a1), (2, .int a2), (3, .int a3), (4, .int a4), (5, .int a5)], [.int (-1)], _) _ _ _
    refine pr_bt (t := 48) (off := 7) (bb := decide (((-1) : Int32) < 0)) (st1 := []) rfl rfl rfl rfl (by decide) ?_
    refine pr_s (pc1 := 49) (st1 := [.int 0]) rfl (fun _ => rfl) ?_
    exact pr_e rfl (fun _ => rfl) ⟨rfl, rfl⟩
  show px_R _ _ _ _ (14, [(0, .ref 0), (1, .int a1), (2, .int a2), (3, .int a3), (4, .int a4), (5, .int a5), (6, .ref 164)], [.int 0, .int 0, .ref 164], _) _ _ _
  refine pr_bt (t := 21) (off := 7) (bb := decide ((0 : Int32) = 0)) (st1 := [.int 0, .ref 164]) rfl rfl rfl rfl (by decide) ?_
  refine pr_s (pc1 := 22) (st1 := [.long 0, .int 0, .ref 164]) rfl (fun _ => rfl) ?_
  refine pr_last (pc1 := 23) (h1 := ph_192) rfl pg_8 rfl rfl rfl ?_
  refine pr_s (pc1 := 30) (st1 := []) rfl (fun _ => rfl) ?_
  refine pr_s (pc1 := 31) (st1 := [.int 0]) rfl (fun _ => rfl) ?_
  exact pr_e rfl (fun _ => rfl) ⟨rfl, rfl⟩
