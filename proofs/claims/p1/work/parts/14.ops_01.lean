/-! THE LAW'S CALLS, ONE BY ONE, ON A NEW OBJECT (wip/gen/p1gen.py) -/
set_option maxRecDepth 100000 in
set_option maxHeartbeats 40000000 in
theorem px_op_7 (a0 a1 a2 a3 a4 a5 : Int32) : px_T (some [a0, a1, a2, a3, a4, a5]) pm_law 2048 84000 (40, [(4, .int 0), (3, .ref 164), (2, .ref 136), (1, .ref 0), (0, .retAddr 0)], [.int 7], px_hs) 599837 7274195 (fun s1 => s1.2.2.1 = [.int 1] ∧ px_ins pm_law s1.1 = some (.ireturn, 1)) := by
  have ha1 : (-2147483648) ≤ a1.toInt ∧ a1.toInt ≤ 2147483647 := ⟨Int32.le_toInt a1, Int32.toInt_le a1⟩
  by_cases hs : a1.toInt < 0
  · have ha1 : (-2147483648) ≤ a1.toInt ∧ a1.toInt ≤ (-1) := ⟨ha1.1, by omega⟩
    refine pt_s (pc1 := 812) (st1 := []) rfl rfl (fun _ => rfl) ?_
    refine pt_s (pc1 := 813) (st1 := [.ref 0]) rfl rfl (fun _ => rfl) ?_
    refine pt_s (pc1 := 814) (st1 := [.retAddr 0, .ref 0]) rfl rfl (fun _ => rfl) ?_
    refine pt_s (pc1 := 816) (st1 := [.int 0, .retAddr 0, .ref 0]) rfl rfl (fun _ => rfl) ?_
    refine pt_s (pc1 := 817) (st1 := [.int 1, .int 0, .retAddr 0, .ref 0]) rfl rfl (fun _ => rfl) ?_
    refine pt_s (pc1 := 818) (st1 := [.int 1, .retAddr 0, .ref 0]) rfl rfl (fun _ => rfl) ?_
    refine pt_s (pc1 := 819) (st1 := [.int a1, .ref 0]) rfl rfl (fun _ => rfl) ?_
    refine pt_s (pc1 := 820) (st1 := [.ref 164, .int a1, .ref 0]) rfl rfl (fun _ => rfl) ?_
    refine pt_callv (N := pm_L_switchOff) (as := [.ref 0, .int a1, .ref 164]) (rest := []) (f := 2047) (l := 83977) (c1 := 1) (k1 := 6) (c2 := 599836) (k2 := 7274189) (v := some (.int 1)) (h1 := ph_14) rfl rfl (fun _ => rfl) ?_ (Nat.le_of_ble_eq_true rfl) (Nat.le_of_ble_eq_true rfl) ?_
    · refine px_C_of rfl ?_
      refine pr_s (pc1 := 1) (st1 := [.ref 164]) rfl (fun _ => rfl) ?_
      refine pr_s (pc1 := 2) (st1 := [.int 0, .ref 164]) rfl (fun _ => rfl) ?_
      refine pr_s (pc1 := 3) (st1 := [.ref 0, .int 0, .ref 164]) rfl (fun _ => rfl) ?_
      refine pr_s (pc1 := 4) (st1 := [.int a1, .ref 0, .int 0, .ref 164]) rfl (fun _ => rfl) ?_
      refine pr_callx (N := pm_X6_switchOff) (as := [.ref 0, .int a1]) (rest := [.int 0, .ref 164]) (f := 2046) (l := 83954) (c1 := 1) (k1 := 6) (c2 := 0) (k2 := 0) (E := 11) (h1 := ph_14) (a := 12) (y1 := 3) (y2 := 1) rfl (fun ex => px_inv_hs ex rfl rfl rfl pg_0 rfl rfl rfl rfl) ?_ (Nat.le_of_ble_eq_true rfl) (Nat.le_of_ble_eq_true rfl) rfl rfl rfl rfl ?_
      · refine px_C_of rfl ?_
        refine pr_s (pc1 := 1) (st1 := [.ref 0]) rfl (fun _ => rfl) ?_
        refine pr_s (pc1 := 2) (st1 := [.int a1, .ref 0]) rfl (fun _ => rfl) ?_
        refine pr_callo (N := pm_X6_needRule) (as := [.ref 0, .int a1]) (rest := []) (f := 2045) (l := 83933) (E := 11) (h1 := ph_14) rfl (fun ex => px_inv_hs ex rfl rfl rfl pg_0 rfl rfl rfl rfl) ?_ rfl ⟨rfl, rfl⟩
        · refine px_C_of rfl ?_
          refine pr_s (pc1 := 1) (st1 := [.int a1]) rfl (fun _ => rfl) ?_
          refine pr_bt (t := 12) (off := 11) (bb := decide (a1 < 0)) (st1 := []) rfl rfl rfl rfl (pb_ltT ha1.2 (show 0 ≤ (0 : Int32).toInt by decide) (by decide)) ?_
          refine pr_mh (z1 := 1) (z2 := 6) (c1 := 0) (k1 := 0) (pc1 := 22) (n := 165) (r := []) (h1 := ph_14) (es := fun n => [.inr (11, [])]) rfl (fun _ => rfl) pl_0 rfl (Nat.le_of_ble_eq_true rfl) (Nat.le_of_ble_eq_true rfl) ?_
          exact pr_e rfl (fun _ => rfl) ⟨rfl, rfl⟩
      show px_R _ _ _ _ (13, [(0, .ref 0), (1, .int a1), (2, .ref 164)], [], _) _ _ _
      refine pr_s (pc1 := 14) (st1 := [.int 1]) rfl (fun _ => rfl) ?_
      exact pr_e rfl (fun _ => rfl) ⟨rfl, rfl⟩
    show px_T _ _ _ _ (823, [(4, .int 0), (3, .ref 164), (2, .ref 136), (1, .ref 0), (0, .retAddr 0)], [.int 1], _) _ _ _
    refine pt_s (pc1 := 825) (lv1 := [(5, .int 1), (4, .int 0), (3, .ref 164), (2, .ref 136), (1, .ref 0), (0, .retAddr 0)]) (st1 := []) rfl rfl (fun _ => rfl) ?_
    refine pt_s (pc1 := 826) (st1 := [.ref 136]) rfl rfl (fun _ => rfl) ?_
    refine pt_s (pc1 := 827) (st1 := [.retAddr 0, .ref 136]) rfl rfl (fun _ => rfl) ?_
    refine pt_s (pc1 := 829) (st1 := [.int 0, .retAddr 0, .ref 136]) rfl rfl (fun _ => rfl) ?_
    refine pt_s (pc1 := 830) (st1 := [.int 1, .int 0, .retAddr 0, .ref 136]) rfl rfl (fun _ => rfl) ?_
    refine pt_s (pc1 := 831) (st1 := [.int 1, .retAddr 0, .ref 136]) rfl rfl (fun _ => rfl) ?_
    refine pt_s (pc1 := 832) (st1 := [.int a1, .ref 136]) rfl rfl (fun _ => rfl) ?_
    refine pt_callv (N := pm_X10_switchOff) (as := [.ref 136, .int a1]) (rest := []) (f := 2047) (l := 83979) (c1 := 0) (k1 := 0) (c2 := 599836) (k2 := 7274189) (v := some (.int 0)) (h1 := ph_15) rfl rfl (fun ex => px_inv_hs ex rfl rfl rfl pg_20 rfl rfl rfl rfl) ?_ (Nat.le_of_ble_eq_true rfl) (Nat.le_of_ble_eq_true rfl) ?_
    · refine px_C_of rfl ?_
      refine pr_s (pc1 := 1) (st1 := [.ref 136]) rfl (fun _ => rfl) ?_
      refine pr_s (pc1 := 2) (st1 := [.int 0, .ref 136]) rfl (fun _ => rfl) ?_
      refine pr_putf (pc1 := 5) (h1 := ph_14) rfl rfl pg_20 rfl rfl rfl rfl rfl (px_set_same pg_20 rfl) rfl ?_
      refine pr_s (pc1 := 6) (st1 := [.ref 136]) rfl (fun _ => rfl) ?_
      refine pr_s (pc1 := 7) (st1 := [.int a1, .ref 136]) rfl (fun _ => rfl) ?_
      refine pr_callv (N := pm_X10_isRule) (as := [.ref 136, .int a1]) (rest := []) (f := 2046) (l := 83958) (c1 := 0) (k1 := 0) (c2 := 0) (k2 := 0) (v := some (.int 0)) (h1 := ph_14) rfl (fun ex => px_inv_hs ex rfl rfl rfl pg_20 rfl rfl rfl rfl) ?_ (Nat.le_of_ble_eq_true rfl) (Nat.le_of_ble_eq_true rfl) ?_
      · refine px_C_of rfl ?_
        refine pr_s (pc1 := 1) (st1 := [.int a1]) rfl (fun _ => rfl) ?_
        refine pr_s (pc1 := 2) (st1 := [.int 0, .int a1]) rfl (fun _ => rfl) ?_
        refine pr_s (pc1 := 3) (st1 := [.ref 136, .int 0, .int a1]) rfl (fun _ => rfl) ?_
        refine pr_getf (pc1 := 6) (v := .int 0) rfl rfl pg_20 rfl rfl ?_
        refine pr_s (pc1 := 7) (st1 := [.int 1, .int 0, .int 0, .int a1]) rfl (fun _ => rfl) ?_
        refine pr_s (pc1 := 8) (st1 := [.int (-1), .int 0, .int a1]) rfl (fun _ => rfl) ?_
        refine pr_callv (N := pm_X10_is) (as := [.int a1, .int 0, .int (-1)]) (rest := []) (f := 2045) (l := 83936) (c1 := 0) (k1 := 0) (c2 := 0) (k2 := 0) (v := some (.int 0)) (h1 := ph_14) rfl (fun _ => rfl) ?_ (Nat.le_of_ble_eq_true rfl) (Nat.le_of_ble_eq_true rfl) ?_
        · refine px_C_of rfl ?_
          refine pr_s (pc1 := 1) (st1 := [.int a1]) rfl (fun _ => rfl) ?_
          refine pr_s (pc1 := 2) (st1 := [.int 0, .int a1]) rfl (fun _ => rfl) ?_
          refine pr_bt (t := 14) (off := 12) (bb := decide (a1 < 0)) (st1 := []) rfl rfl rfl rfl (pb_ltT ha1.2 (show 0 ≤ (0 : Int32).toInt by decide) (by decide)) ?_
          refine pr_s (pc1 := 15) (st1 := [.int 0]) rfl (fun _ => rfl) ?_
          exact pr_e rfl (fun _ => rfl) ⟨rfl, rfl⟩
        show px_R _ _ _ _ (11, [(0, .ref 136), (1, .int a1)], [.int 0], _) _ _ _
        exact pr_e rfl (fun _ => rfl) ⟨rfl, rfl⟩
      show px_R _ _ _ _ (10, [(0, .ref 136), (1, .int a1)], [.int 0], _) _ _ _
      refine pr_bf (t := 19) (off := 9) (bb := !decide ((0 : Int32) = 0)) (st1 := []) rfl rfl rfl rfl (px_not_f (by decide)) ?_
      refine pr_s (pc1 := 14) (st1 := [.ref 136]) rfl (fun _ => rfl) ?_
      refine pr_s (pc1 := 15) (st1 := [.int 1, .ref 136]) rfl (fun _ => rfl) ?_
      refine pr_callv (N := pm_X10_refuse) (as := [.ref 136, .int 1]) (rest := []) (f := 2046) (l := 83958) (c1 := 0) (k1 := 0) (c2 := 0) (k2 := 0) (v := some (.int 0)) (h1 := ph_15) rfl (fun ex => px_inv_hs ex rfl rfl rfl pg_20 rfl rfl rfl rfl) ?_ (Nat.le_of_ble_eq_true rfl) (Nat.le_of_ble_eq_true rfl) ?_
      · refine px_C_of rfl ?_
        refine pr_s (pc1 := 1) (st1 := [.ref 136]) rfl (fun _ => rfl) ?_
        refine pr_s (pc1 := 2) (st1 := [.int 1, .ref 136]) rfl (fun _ => rfl) ?_
        refine pr_putf (pc1 := 5) (h1 := ph_15) rfl rfl pg_20 rfl rfl rfl rfl rfl rfl rfl ?_
        refine pr_s (pc1 := 6) (st1 := [.int 0]) rfl (fun _ => rfl) ?_
        exact pr_e rfl (fun _ => rfl) ⟨rfl, rfl⟩
      show px_R _ _ _ _ (18, [(0, .ref 136), (1, .int a1)], [.int 0], _) _ _ _
      exact pr_e rfl (fun _ => rfl) ⟨rfl, rfl⟩
    show px_T _ _ _ _ (835, [(5, .int 1), (4, .int 0), (3, .ref 164), (2, .ref 136), (1, .ref 0), (0, .retAddr 0)], [.int 0], _) _ _ _
    refine pt_s (pc1 := 837) (lv1 := [(6, .int 0), (5, .int 1), (4, .int 0), (3, .ref 164), (2, .ref 136), (1, .ref 0), (0, .retAddr 0)]) (st1 := []) rfl rfl (fun _ => rfl) ?_
    refine pt_s (pc1 := 838) (st1 := [.ref 136]) rfl rfl (fun _ => rfl) ?_
    refine pt_callv (N := pm_X10_thrown) (as := [.ref 136]) (rest := []) (f := 2047) (l := 83980) (c1 := 0) (k1 := 0) (c2 := 599836) (k2 := 7274189) (v := some (.int 1)) (h1 := ph_15) rfl rfl (fun ex => px_inv_hs ex rfl rfl rfl pg_21 rfl rfl rfl rfl) ?_ (Nat.le_of_ble_eq_true rfl) (Nat.le_of_ble_eq_true rfl) ?_
    · refine px_C_of rfl ?_
      refine pr_s (pc1 := 1) (st1 := [.ref 136]) rfl (fun _ => rfl) ?_
      refine pr_getf (pc1 := 4) (v := .int 1) rfl rfl pg_21 rfl rfl ?_
      exact pr_e rfl (fun _ => rfl) ⟨rfl, rfl⟩
    show px_T _ _ _ _ (841, [(6, .int 0), (5, .int 1), (4, .int 0), (3, .ref 164), (2, .ref 136), (1, .ref 0), (0, .retAddr 0)], [.int 1], _) _ _ _
    refine pt_s (pc1 := 843) (st1 := [.int 1, .int 1]) rfl rfl (fun _ => rfl) ?_
    refine pt_bt (t := 848) (off := 5) (bb := decide ((1 : Int32) = 1)) (st1 := []) rfl rfl rfl rfl rfl (by decide) ?_
    refine pt_s (pc1 := 850) (st1 := [.int 1]) rfl rfl (fun _ => rfl) ?_
    refine pt_bt (t := 865) (off := 15) (bb := !decide ((1 : Int32) = 0)) (st1 := []) rfl rfl rfl rfl rfl (px_not_t (by decide)) ?_
    refine pt_s (pc1 := 2771) (st1 := []) rfl rfl (fun _ => rfl) ?_
    refine pt_s (pc1 := 2774) (lv1 := [(4, .int 6), (6, .int 0), (5, .int 1), (3, .ref 164), (2, .ref 136), (1, .ref 0), (0, .retAddr 0)]) (st1 := []) rfl rfl (fun _ => rfl) ?_
    refine pt_s (pc1 := 23) (st1 := []) rfl rfl (fun _ => rfl) ?_
    refine pt_s (pc1 := 25) (st1 := [.int 6]) rfl rfl (fun _ => rfl) ?_
    refine pt_s (pc1 := 26) (st1 := [.retAddr 0, .int 6]) rfl rfl (fun _ => rfl) ?_
    refine pt_s (pc1 := 27) (st1 := [.int 6, .int 6]) rfl rfl (fun _ => rfl) ?_
    refine pt_s (pc1 := 29) (st1 := [.int 6, .int 6, .int 6]) rfl rfl (fun _ => rfl) ?_
    refine pt_s (pc1 := 30) (st1 := [.int 0, .int 6]) rfl rfl (fun _ => rfl) ?_
    refine pt_bt (t := 2777) (off := 2747) (bb := decide ((0 : Int32) < (6 : Int32))) (st1 := []) rfl rfl rfl rfl rfl (by decide) ?_
    refine pt_s (pc1 := 2778) (st1 := [.int 1]) rfl rfl (fun _ => rfl) ?_
    exact pt_e rfl ⟨rfl, (rfl : px_ins pm_law 2778 = some (.ireturn, 1))⟩
  · have ha1 : 0 ≤ a1.toInt ∧ a1.toInt ≤ 2147483647 := ⟨by omega, ha1.2⟩
    refine pt_s (pc1 := 812) (st1 := []) rfl rfl (fun _ => rfl) ?_
    refine pt_s (pc1 := 813) (st1 := [.ref 0]) rfl rfl (fun _ => rfl) ?_
    refine pt_s (pc1 := 814) (st1 := [.retAddr 0, .ref 0]) rfl rfl (fun _ => rfl) ?_
    refine pt_s (pc1 := 816) (st1 := [.int 0, .retAddr 0, .ref 0]) rfl rfl (fun _ => rfl) ?_
    refine pt_s (pc1 := 817) (st1 := [.int 1, .int 0, .retAddr 0, .ref 0]) rfl rfl (fun _ => rfl) ?_
    refine pt_s (pc1 := 818) (st1 := [.int 1, .retAddr 0, .ref 0]) rfl rfl (fun _ => rfl) ?_
    refine pt_s (pc1 := 819) (st1 := [.int a1, .ref 0]) rfl rfl (fun _ => rfl) ?_
    refine pt_s (pc1 := 820) (st1 := [.ref 164, .int a1, .ref 0]) rfl rfl (fun _ => rfl) ?_
    refine pt_callv (N := pm_L_switchOff) (as := [.ref 0, .int a1, .ref 164]) (rest := []) (f := 2047) (l := 83977) (c1 := 1) (k1 := 6) (c2 := 599836) (k2 := 7274189) (v := some (.int 1)) (h1 := ph_14) rfl rfl (fun _ => rfl) ?_ (Nat.le_of_ble_eq_true rfl) (Nat.le_of_ble_eq_true rfl) ?_
    · refine px_C_of rfl ?_
      refine pr_s (pc1 := 1) (st1 := [.ref 164]) rfl (fun _ => rfl) ?_
      refine pr_s (pc1 := 2) (st1 := [.int 0, .ref 164]) rfl (fun _ => rfl) ?_
      refine pr_s (pc1 := 3) (st1 := [.ref 0, .int 0, .ref 164]) rfl (fun _ => rfl) ?_
      refine pr_s (pc1 := 4) (st1 := [.int a1, .ref 0, .int 0, .ref 164]) rfl (fun _ => rfl) ?_
      refine pr_callx (N := pm_X6_switchOff) (as := [.ref 0, .int a1]) (rest := [.int 0, .ref 164]) (f := 2046) (l := 83954) (c1 := 1) (k1 := 6) (c2 := 0) (k2 := 0) (E := 11) (h1 := ph_14) (a := 12) (y1 := 3) (y2 := 1) rfl (fun ex => px_inv_hs ex rfl rfl rfl pg_0 rfl rfl rfl rfl) ?_ (Nat.le_of_ble_eq_true rfl) (Nat.le_of_ble_eq_true rfl) rfl rfl rfl rfl ?_
      · refine px_C_of rfl ?_
        refine pr_s (pc1 := 1) (st1 := [.ref 0]) rfl (fun _ => rfl) ?_
        refine pr_s (pc1 := 2) (st1 := [.int a1, .ref 0]) rfl (fun _ => rfl) ?_
        refine pr_callo (N := pm_X6_needRule) (as := [.ref 0, .int a1]) (rest := []) (f := 2045) (l := 83933) (E := 11) (h1 := ph_14) rfl (fun ex => px_inv_hs ex rfl rfl rfl pg_0 rfl rfl rfl rfl) ?_ rfl ⟨rfl, rfl⟩
        · refine px_C_of rfl ?_
          refine pr_s (pc1 := 1) (st1 := [.int a1]) rfl (fun _ => rfl) ?_
          refine pr_bf (t := 12) (off := 11) (bb := decide (a1 < 0)) (st1 := []) rfl rfl rfl rfl (pb_ltF ha1.1 (show (0 : Int32).toInt ≤ 0 by decide) (by decide)) ?_
          refine pr_s (pc1 := 5) (st1 := [.int a1]) rfl (fun _ => rfl) ?_
          refine pr_s (pc1 := 6) (st1 := [.ref 0, .int a1]) rfl (fun _ => rfl) ?_
          refine pr_getf (pc1 := 9) (v := .int 0) rfl rfl pg_0 rfl rfl ?_
          refine pr_bf (t := 23) (off := 14) (bb := decide (a1 < 0)) (st1 := []) rfl rfl rfl rfl (pb_ltF ha1.1 (show (0 : Int32).toInt ≤ 0 by decide) (by decide)) ?_
          refine pr_mh (z1 := 1) (z2 := 6) (c1 := 0) (k1 := 0) (pc1 := 22) (n := 165) (r := []) (h1 := ph_14) (es := fun n => [.inr (11, [])]) rfl (fun _ => rfl) pl_0 rfl (Nat.le_of_ble_eq_true rfl) (Nat.le_of_ble_eq_true rfl) ?_
          exact pr_e rfl (fun _ => rfl) ⟨rfl, rfl⟩
      show px_R _ _ _ _ (13, [(0, .ref 0), (1, .int a1), (2, .ref 164)], [], _) _ _ _
      refine pr_s (pc1 := 14) (st1 := [.int 1]) rfl (fun _ => rfl) ?_
      exact pr_e rfl (fun _ => rfl) ⟨rfl, rfl⟩
    show px_T _ _ _ _ (823, [(4, .int 0), (3, .ref 164), (2, .ref 136), (1, .ref 0), (0, .retAddr 0)], [.int 1], _) _ _ _
    refine pt_s (pc1 := 825) (lv1 := [(5, .int 1), (4, .int 0), (3, .ref 164), (2, .ref 136), (1, .ref 0), (0, .retAddr 0)]) (st1 := []) rfl rfl (fun _ => rfl) ?_
    refine pt_s (pc1 := 826) (st1 := [.ref 136]) rfl rfl (fun _ => rfl) ?_
    refine pt_s (pc1 := 827) (st1 := [.retAddr 0, .ref 136]) rfl rfl (fun _ => rfl) ?_
    refine pt_s (pc1 := 829) (st1 := [.int 0, .retAddr 0, .ref 136]) rfl rfl (fun _ => rfl) ?_
    refine pt_s (pc1 := 830) (st1 := [.int 1, .int 0, .retAddr 0, .ref 136]) rfl rfl (fun _ => rfl) ?_
    refine pt_s (pc1 := 831) (st1 := [.int 1, .retAddr 0, .ref 136]) rfl rfl (fun _ => rfl) ?_
    refine pt_s (pc1 := 832) (st1 := [.int a1, .ref 136]) rfl rfl (fun _ => rfl) ?_
    refine pt_callv (N := pm_X10_switchOff) (as := [.ref 136, .int a1]) (rest := []) (f := 2047) (l := 83979) (c1 := 0) (k1 := 0) (c2 := 599836) (k2 := 7274189) (v := some (.int 0)) (h1 := ph_15) rfl rfl (fun ex => px_inv_hs ex rfl rfl rfl pg_20 rfl rfl rfl rfl) ?_ (Nat.le_of_ble_eq_true rfl) (Nat.le_of_ble_eq_true rfl) ?_
    · refine px_C_of rfl ?_
      refine pr_s (pc1 := 1) (st1 := [.ref 136]) rfl (fun _ => rfl) ?_
      refine pr_s (pc1 := 2) (st1 := [.int 0, .ref 136]) rfl (fun _ => rfl) ?_
      refine pr_putf (pc1 := 5) (h1 := ph_14) rfl rfl pg_20 rfl rfl rfl rfl rfl (px_set_same pg_20 rfl) rfl ?_
      refine pr_s (pc1 := 6) (st1 := [.ref 136]) rfl (fun _ => rfl) ?_
      refine pr_s (pc1 := 7) (st1 := [.int a1, .ref 136]) rfl (fun _ => rfl) ?_
      refine pr_callv (N := pm_X10_isRule) (as := [.ref 136, .int a1]) (rest := []) (f := 2046) (l := 83958) (c1 := 0) (k1 := 0) (c2 := 0) (k2 := 0) (v := some (.int 0)) (h1 := ph_14) rfl (fun ex => px_inv_hs ex rfl rfl rfl pg_20 rfl rfl rfl rfl) ?_ (Nat.le_of_ble_eq_true rfl) (Nat.le_of_ble_eq_true rfl) ?_
      · refine px_C_of rfl ?_
        refine pr_s (pc1 := 1) (st1 := [.int a1]) rfl (fun _ => rfl) ?_
        refine pr_s (pc1 := 2) (st1 := [.int 0, .int a1]) rfl (fun _ => rfl) ?_
        refine pr_s (pc1 := 3) (st1 := [.ref 136, .int 0, .int a1]) rfl (fun _ => rfl) ?_
        refine pr_getf (pc1 := 6) (v := .int 0) rfl rfl pg_20 rfl rfl ?_
        refine pr_s (pc1 := 7) (st1 := [.int 1, .int 0, .int 0, .int a1]) rfl (fun _ => rfl) ?_
        refine pr_s (pc1 := 8) (st1 := [.int (-1), .int 0, .int a1]) rfl (fun _ => rfl) ?_
        refine pr_callv (N := pm_X10_is) (as := [.int a1, .int 0, .int (-1)]) (rest := []) (f := 2045) (l := 83936) (c1 := 0) (k1 := 0) (c2 := 0) (k2 := 0) (v := some (.int 0)) (h1 := ph_14) rfl (fun _ => rfl) ?_ (Nat.le_of_ble_eq_true rfl) (Nat.le_of_ble_eq_true rfl) ?_
        · refine px_C_of rfl ?_
          refine pr_s (pc1 := 1) (st1 := [.int a1]) rfl (fun _ => rfl) ?_
          refine pr_s (pc1 := 2) (st1 := [.int 0, .int a1]) rfl (fun _ => rfl) ?_
          refine pr_bf (t := 14) (off := 12) (bb := decide (a1 < 0)) (st1 := []) rfl rfl rfl rfl (pb_ltF ha1.1 (show (0 : Int32).toInt ≤ 0 by decide) (by decide)) ?_
          refine pr_s (pc1 := 6) (st1 := [.int a1]) rfl (fun _ => rfl) ?_
          refine pr_s (pc1 := 7) (st1 := [.int (-1), .int a1]) rfl (fun _ => rfl) ?_
          refine pr_bt (t := 14) (off := 7) (bb := decide (((-1) : Int32) < a1)) (st1 := []) rfl rfl rfl rfl (pb_ltT (show ((-1) : Int32).toInt ≤ (-1) by decide) ha1.1 (by decide)) ?_
          refine pr_s (pc1 := 15) (st1 := [.int 0]) rfl (fun _ => rfl) ?_
          exact pr_e rfl (fun _ => rfl) ⟨rfl, rfl⟩
        show px_R _ _ _ _ (11, [(0, .ref 136), (1, .int a1)], [.int 0], _) _ _ _
        exact pr_e rfl (fun _ => rfl) ⟨rfl, rfl⟩
      show px_R _ _ _ _ (10, [(0, .ref 136), (1, .int a1)], [.int 0], _) _ _ _
      refine pr_bf (t := 19) (off := 9) (bb := !decide ((0 : Int32) = 0)) (st1 := []) rfl rfl rfl rfl (px_not_f (by decide)) ?_
      refine pr_s (pc1 := 14) (st1 := [.ref 136]) rfl (fun _ => rfl) ?_
      refine pr_s (pc1 := 15) (st1 := [.int 1, .ref 136]) rfl (fun _ => rfl) ?_
      refine pr_callv (N := pm_X10_refuse) (as := [.ref 136, .int 1]) (rest := []) (f := 2046) (l := 83958) (c1 := 0) (k1 := 0) (c2 := 0) (k2 := 0) (v := some (.int 0)) (h1 := ph_15) rfl (fun ex => px_inv_hs ex rfl rfl rfl pg_20 rfl rfl rfl rfl) ?_ (Nat.le_of_ble_eq_true rfl) (Nat.le_of_ble_eq_true rfl) ?_
      · refine px_C_of rfl ?_
        refine pr_s (pc1 := 1) (st1 := [.ref 136]) rfl (fun _ => rfl) ?_
        refine pr_s (pc1 := 2) (st1 := [.int 1, .ref 136]) rfl (fun _ => rfl) ?_
        refine pr_putf (pc1 := 5) (h1 := ph_15) rfl rfl pg_20 rfl rfl rfl rfl rfl rfl rfl ?_
        refine pr_s (pc1 := 6) (st1 := [.int 0]) rfl (fun _ => rfl) ?_
        exact pr_e rfl (fun _ => rfl) ⟨rfl, rfl⟩
      show px_R _ _ _ _ (18, [(0, .ref 136), (1, .int a1)], [.int 0], _) _ _ _
      exact pr_e rfl (fun _ => rfl) ⟨rfl, rfl⟩
    show px_T _ _ _ _ (835, [(5, .int 1), (4, .int 0), (3, .ref 164), (2, .ref 136), (1, .ref 0), (0, .retAddr 0)], [.int 0], _) _ _ _
    refine pt_s (pc1 := 837) (lv1 := [(6, .int 0), (5, .int 1), (4, .int 0), (3, .ref 164), (2, .ref 136), (1, .ref 0), (0, .retAddr 0)]) (st1 := []) rfl rfl (fun _ => rfl) ?_
    refine pt_s (pc1 := 838) (st1 := [.ref 136]) rfl rfl (fun _ => rfl) ?_
    refine pt_callv (N := pm_X10_thrown) (as := [.ref 136]) (rest := []) (f := 2047) (l := 83980) (c1 := 0) (k1 := 0) (c2 := 599836) (k2 := 7274189) (v := some (.int 1)) (h1 := ph_15) rfl rfl (fun ex => px_inv_hs ex rfl rfl rfl pg_21 rfl rfl rfl rfl) ?_ (Nat.le_of_ble_eq_true rfl) (Nat.le_of_ble_eq_true rfl) ?_
    · refine px_C_of rfl ?_
      refine pr_s (pc1 := 1) (st1 := [.ref 136]) rfl (fun _ => rfl) ?_
      refine pr_getf (pc1 := 4) (v := .int 1) rfl rfl pg_21 rfl rfl ?_
      exact pr_e rfl (fun _ => rfl) ⟨rfl, rfl⟩
    show px_T _ _ _ _ (841, [(6, .int 0), (5, .int 1), (4, .int 0), (3, .ref 164), (2, .ref 136), (1, .ref 0), (0, .retAddr 0)], [.int 1], _) _ _ _
    refine pt_s (pc1 := 843) (st1 := [.int 1, .int 1]) rfl rfl (fun _ => rfl) ?_
    refine pt_bt (t := 848) (off := 5) (bb := decide ((1 : Int32) = 1)) (st1 := []) rfl rfl rfl rfl rfl (by decide) ?_
    refine pt_s (pc1 := 850) (st1 := [.int 1]) rfl rfl (fun _ => rfl) ?_
    refine pt_bt (t := 865) (off := 15) (bb := !decide ((1 : Int32) = 0)) (st1 := []) rfl rfl rfl rfl rfl (px_not_t (by decide)) ?_
    refine pt_s (pc1 := 2771) (st1 := []) rfl rfl (fun _ => rfl) ?_
    refine pt_s (pc1 := 2774) (lv1 := [(4, .int 6), (6, .int 0), (5, .int 1), (3, .ref 164), (2, .ref 136), (1, .ref 0), (0, .retAddr 0)]) (st1 := []) rfl rfl (fun _ => rfl) ?_
    refine pt_s (pc1 := 23) (st1 := []) rfl rfl (fun _ => rfl) ?_
    refine pt_s (pc1 := 25) (st1 := [.int 6]) rfl rfl (fun _ => rfl) ?_
    refine pt_s (pc1 := 26) (st1 := [.retAddr 0, .int 6]) rfl rfl (fun _ => rfl) ?_
    refine pt_s (pc1 := 27) (st1 := [.int 6, .int 6]) rfl rfl (fun _ => rfl) ?_
    refine pt_s (pc1 := 29) (st1 := [.int 6, .int 6, .int 6]) rfl rfl (fun _ => rfl) ?_
    refine pt_s (pc1 := 30) (st1 := [.int 0, .int 6]) rfl rfl (fun _ => rfl) ?_
    refine pt_bt (t := 2777) (off := 2747) (bb := decide ((0 : Int32) < (6 : Int32))) (st1 := []) rfl rfl rfl rfl rfl (by decide) ?_
    refine pt_s (pc1 := 2778) (st1 := [.int 1]) rfl rfl (fun _ => rfl) ?_
    exact pt_e rfl ⟨rfl, (rfl : px_ins pm_law 2778 = some (.ireturn, 1))⟩
set_option maxRecDepth 100000 in
set_option maxHeartbeats 40000000 in
theorem px_op_8 (a0 a1 a2 a3 a4 a5 : Int32) : px_T (some [a0, a1, a2, a3, a4, a5]) pm_law 2048 84000 (40, [(4, .int 0), (3, .ref 164), (2, .ref 136), (1, .ref 0), (0, .retAddr 0)], [.int 8], px_hs) 599837 7274195 (fun s1 => s1.2.2.1 = [.int 1] ∧ px_ins pm_law s1.1 = some (.ireturn, 1)) := by
  have ha1 : (-2147483648) ≤ a1.toInt ∧ a1.toInt ≤ 2147483647 := ⟨Int32.le_toInt a1, Int32.toInt_le a1⟩
  have ha2 : (-2147483648) ≤ a2.toInt ∧ a2.toInt ≤ 2147483647 := ⟨Int32.le_toInt a2, Int32.toInt_le a2⟩
  have ha3 : (-2147483648) ≤ a3.toInt ∧ a3.toInt ≤ 2147483647 := ⟨Int32.le_toInt a3, Int32.toInt_le a3⟩
  have ha4 : (-2147483648) ≤ a4.toInt ∧ a4.toInt ≤ 2147483647 := ⟨Int32.le_toInt a4, Int32.toInt_le a4⟩
  by_cases hs : a1.toInt < 0
  · have ha1 : (-2147483648) ≤ a1.toInt ∧ a1.toInt ≤ (-1) := ⟨ha1.1, by omega⟩
    refine pt_s (pc1 := 868) (st1 := []) rfl rfl (fun _ => rfl) ?_
    refine pt_s (pc1 := 869) (st1 := [.ref 0]) rfl rfl (fun _ => rfl) ?_
    refine pt_s (pc1 := 870) (st1 := [.retAddr 0, .ref 0]) rfl rfl (fun _ => rfl) ?_
    refine pt_s (pc1 := 872) (st1 := [.int 0, .retAddr 0, .ref 0]) rfl rfl (fun _ => rfl) ?_
    refine pt_s (pc1 := 873) (st1 := [.int 1, .int 0, .retAddr 0, .ref 0]) rfl rfl (fun _ => rfl) ?_
    refine pt_s (pc1 := 874) (st1 := [.int 1, .retAddr 0, .ref 0]) rfl rfl (fun _ => rfl) ?_
    refine pt_s (pc1 := 875) (st1 := [.int a1, .ref 0]) rfl rfl (fun _ => rfl) ?_
    refine pt_s (pc1 := 876) (st1 := [.retAddr 0, .int a1, .ref 0]) rfl rfl (fun _ => rfl) ?_
    refine pt_s (pc1 := 878) (st1 := [.int 0, .retAddr 0, .int a1, .ref 0]) rfl rfl (fun _ => rfl) ?_
    refine pt_s (pc1 := 879) (st1 := [.int 2, .int 0, .retAddr 0, .int a1, .ref 0]) rfl rfl (fun _ => rfl) ?_
    refine pt_s (pc1 := 880) (st1 := [.int 2, .retAddr 0, .int a1, .ref 0]) rfl rfl (fun _ => rfl) ?_
    refine pt_s (pc1 := 881) (st1 := [.int a2, .int a1, .ref 0]) rfl rfl (fun _ => rfl) ?_
    refine pt_s (pc1 := 882) (st1 := [.retAddr 0, .int a2, .int a1, .ref 0]) rfl rfl (fun _ => rfl) ?_
    refine pt_s (pc1 := 884) (st1 := [.int 0, .retAddr 0, .int a2, .int a1, .ref 0]) rfl rfl (fun _ => rfl) ?_
    refine pt_s (pc1 := 885) (st1 := [.int 3, .int 0, .retAddr 0, .int a2, .int a1, .ref 0]) rfl rfl (fun _ => rfl) ?_
    refine pt_s (pc1 := 886) (st1 := [.int 3, .retAddr 0, .int a2, .int a1, .ref 0]) rfl rfl (fun _ => rfl) ?_
    refine pt_s (pc1 := 887) (st1 := [.int a3, .int a2, .int a1, .ref 0]) rfl rfl (fun _ => rfl) ?_
    refine pt_s (pc1 := 888) (st1 := [.retAddr 0, .int a3, .int a2, .int a1, .ref 0]) rfl rfl (fun _ => rfl) ?_
    refine pt_s (pc1 := 890) (st1 := [.int 0, .retAddr 0, .int a3, .int a2, .int a1, .ref 0]) rfl rfl (fun _ => rfl) ?_
    refine pt_s (pc1 := 891) (st1 := [.int 4, .int 0, .retAddr 0, .int a3, .int a2, .int a1, .ref 0]) rfl rfl (fun _ => rfl) ?_
    refine pt_s (pc1 := 892) (st1 := [.int 4, .retAddr 0, .int a3, .int a2, .int a1, .ref 0]) rfl rfl (fun _ => rfl) ?_
    refine pt_s (pc1 := 893) (st1 := [.int a4, .int a3, .int a2, .int a1, .ref 0]) rfl rfl (fun _ => rfl) ?_
    refine pt_s (pc1 := 894) (st1 := [.ref 164, .int a4, .int a3, .int a2, .int a1, .ref 0]) rfl rfl (fun _ => rfl) ?_
    refine pt_callv (N := pm_L_state) (as := [.ref 0, .int a1, .int a2, .int a3, .int a4, .ref 164]) (rest := []) (f := 2047) (l := 83974) (c1 := 1) (k1 := 6) (c2 := 599836) (k2 := 7274189) (v := some (.int 1)) (h1 := ph_1) rfl rfl (fun _ => rfl) ?_ (Nat.le_of_ble_eq_true rfl) (Nat.le_of_ble_eq_true rfl) ?_
    · refine px_C_of rfl ?_
      refine pr_s (pc1 := 2) (st1 := [.ref 164]) rfl (fun _ => rfl) ?_
      refine pr_s (pc1 := 3) (st1 := [.int 0, .ref 164]) rfl (fun _ => rfl) ?_
      refine pr_s (pc1 := 4) (st1 := [.ref 0, .int 0, .ref 164]) rfl (fun _ => rfl) ?_
      refine pr_s (pc1 := 5) (st1 := [.int a1, .ref 0, .int 0, .ref 164]) rfl (fun _ => rfl) ?_
      refine pr_s (pc1 := 6) (st1 := [.int a2, .int a1, .ref 0, .int 0, .ref 164]) rfl (fun _ => rfl) ?_
      refine pr_s (pc1 := 7) (st1 := [.int a3, .int a2, .int a1, .ref 0, .int 0, .ref 164]) rfl (fun _ => rfl) ?_
      refine pr_s (pc1 := 9) (st1 := [.int a4, .int a3, .int a2, .int a1, .ref 0, .int 0, .ref 164]) rfl (fun _ => rfl) ?_
      refine pr_callx (N := pm_X6_state) (as := [.ref 0, .int a1, .int a2, .int a3, .int a4]) (rest := [.int 0, .ref 164]) (f := 2046) (l := 83949) (c1 := 1) (k1 := 6) (c2 := 0) (k2 := 0) (E := 12) (h1 := ph_1) (a := 17) (y1 := 6) (y2 := 2) rfl (fun ex => px_inv_hs ex rfl rfl rfl pg_0 rfl rfl rfl rfl) ?_ (Nat.le_of_ble_eq_true rfl) (Nat.le_of_ble_eq_true rfl) rfl rfl rfl rfl ?_
      · refine px_C_of rfl ?_
        refine pr_s (pc1 := 1) (st1 := [.int a1]) rfl (fun _ => rfl) ?_
        refine pr_callv (N := pm_X6_isKind) (as := [.int a1]) (rest := []) (f := 2045) (l := 83929) (c1 := 0) (k1 := 0) (c2 := 1) (k2 := 6) (v := some (.int 0)) (h1 := px_hs) rfl (fun _ => rfl) ?_ (Nat.le_of_ble_eq_true rfl) (Nat.le_of_ble_eq_true rfl) ?_
        · refine px_C_of rfl ?_
          refine pr_s (pc1 := 1) (st1 := [.int a1]) rfl (fun _ => rfl) ?_
          refine pr_bt (t := 14) (off := 13) (bb := decide (a1 < 0)) (st1 := []) rfl rfl rfl rfl (pb_ltT ha1.2 (show 0 ≤ (0 : Int32).toInt by decide) (by decide)) ?_
          refine pr_s (pc1 := 15) (st1 := [.int 0]) rfl (fun _ => rfl) ?_
          exact pr_e rfl (fun _ => rfl) ⟨rfl, rfl⟩
        show px_R _ _ _ _ (4, [(0, .ref 0), (1, .int a1), (2, .int a2), (3, .int a3), (4, .int a4)], [.int 0], _) _ _ _
        refine pr_bt (t := 29) (off := 25) (bb := decide ((0 : Int32) = 0)) (st1 := []) rfl rfl rfl rfl (by decide) ?_
        refine pr_mh (z1 := 1) (z2 := 6) (c1 := 0) (k1 := 0) (pc1 := 38) (n := 165) (r := []) (h1 := ph_1) (es := fun n => [.inr (12, [])]) rfl (fun _ => rfl) pl_0 rfl (Nat.le_of_ble_eq_true rfl) (Nat.le_of_ble_eq_true rfl) ?_
        exact pr_e rfl (fun _ => rfl) ⟨rfl, rfl⟩
      show px_R _ _ _ _ (19, [(0, .ref 0), (1, .int a1), (2, .int a2), (3, .int a3), (4, .int a4), (5, .ref 164)], [], _) _ _ _
      refine pr_s (pc1 := 20) (st1 := [.int 1]) rfl (fun _ => rfl) ?_
      exact pr_e rfl (fun _ => rfl) ⟨rfl, rfl⟩
    show px_T _ _ _ _ (897, [(4, .int 0), (3, .ref 164), (2, .ref 136), (1, .ref 0), (0, .retAddr 0)], [.int 1], _) _ _ _
    refine pt_s (pc1 := 899) (lv1 := [(5, .int 1), (4, .int 0), (3, .ref 164), (2, .ref 136), (1, .ref 0), (0, .retAddr 0)]) (st1 := []) rfl rfl (fun _ => rfl) ?_
    refine pt_s (pc1 := 900) (st1 := [.ref 136]) rfl rfl (fun _ => rfl) ?_
    refine pt_s (pc1 := 901) (st1 := [.retAddr 0, .ref 136]) rfl rfl (fun _ => rfl) ?_
    refine pt_s (pc1 := 903) (st1 := [.int 0, .retAddr 0, .ref 136]) rfl rfl (fun _ => rfl) ?_
    refine pt_s (pc1 := 904) (st1 := [.int 1, .int 0, .retAddr 0, .ref 136]) rfl rfl (fun _ => rfl) ?_
    refine pt_s (pc1 := 905) (st1 := [.int 1, .retAddr 0, .ref 136]) rfl rfl (fun _ => rfl) ?_
    refine pt_s (pc1 := 906) (st1 := [.int a1, .ref 136]) rfl rfl (fun _ => rfl) ?_
    refine pt_s (pc1 := 907) (st1 := [.retAddr 0, .int a1, .ref 136]) rfl rfl (fun _ => rfl) ?_
    refine pt_s (pc1 := 909) (st1 := [.int 0, .retAddr 0, .int a1, .ref 136]) rfl rfl (fun _ => rfl) ?_
    refine pt_s (pc1 := 910) (st1 := [.int 2, .int 0, .retAddr 0, .int a1, .ref 136]) rfl rfl (fun _ => rfl) ?_
    refine pt_s (pc1 := 911) (st1 := [.int 2, .retAddr 0, .int a1, .ref 136]) rfl rfl (fun _ => rfl) ?_
    refine pt_s (pc1 := 912) (st1 := [.int a2, .int a1, .ref 136]) rfl rfl (fun _ => rfl) ?_
    refine pt_s (pc1 := 913) (st1 := [.retAddr 0, .int a2, .int a1, .ref 136]) rfl rfl (fun _ => rfl) ?_
    refine pt_s (pc1 := 915) (st1 := [.int 0, .retAddr 0, .int a2, .int a1, .ref 136]) rfl rfl (fun _ => rfl) ?_
    refine pt_s (pc1 := 916) (st1 := [.int 3, .int 0, .retAddr 0, .int a2, .int a1, .ref 136]) rfl rfl (fun _ => rfl) ?_
    refine pt_s (pc1 := 917) (st1 := [.int 3, .retAddr 0, .int a2, .int a1, .ref 136]) rfl rfl (fun _ => rfl) ?_
    refine pt_s (pc1 := 918) (st1 := [.int a3, .int a2, .int a1, .ref 136]) rfl rfl (fun _ => rfl) ?_
    refine pt_s (pc1 := 919) (st1 := [.retAddr 0, .int a3, .int a2, .int a1, .ref 136]) rfl rfl (fun _ => rfl) ?_
    refine pt_s (pc1 := 921) (st1 := [.int 0, .retAddr 0, .int a3, .int a2, .int a1, .ref 136]) rfl rfl (fun _ => rfl) ?_
    refine pt_s (pc1 := 922) (st1 := [.int 4, .int 0, .retAddr 0, .int a3, .int a2, .int a1, .ref 136]) rfl rfl (fun _ => rfl) ?_
    refine pt_s (pc1 := 923) (st1 := [.int 4, .retAddr 0, .int a3, .int a2, .int a1, .ref 136]) rfl rfl (fun _ => rfl) ?_
    refine pt_s (pc1 := 924) (st1 := [.int a4, .int a3, .int a2, .int a1, .ref 136]) rfl rfl (fun _ => rfl) ?_
    refine pt_callv (N := pm_X10_state) (as := [.ref 136, .int a1, .int a2, .int a3, .int a4]) (rest := []) (f := 2047) (l := 83974) (c1 := 0) (k1 := 0) (c2 := 599836) (k2 := 7274189) (v := some (.int 0)) (h1 := ph_2) rfl rfl (fun ex => px_inv_hs ex rfl rfl rfl pg_2 rfl rfl rfl rfl) ?_ (Nat.le_of_ble_eq_true rfl) (Nat.le_of_ble_eq_true rfl) ?_
    · refine px_C_of rfl ?_
      refine pr_s (pc1 := 1) (st1 := [.ref 136]) rfl (fun _ => rfl) ?_
      refine pr_s (pc1 := 2) (st1 := [.int 0, .ref 136]) rfl (fun _ => rfl) ?_
      refine pr_putf (pc1 := 5) (h1 := ph_1) rfl rfl pg_2 rfl rfl rfl rfl rfl (px_set_same pg_2 rfl) rfl ?_
      refine pr_s (pc1 := 6) (st1 := [.int a1]) rfl (fun _ => rfl) ?_
      refine pr_s (pc1 := 7) (st1 := [.int 0, .int a1]) rfl (fun _ => rfl) ?_
      refine pr_s (pc1 := 9) (st1 := [.int 7, .int 0, .int a1]) rfl (fun _ => rfl) ?_
      refine pr_callv (N := pm_X10_is) (as := [.int a1, .int 0, .int 7]) (rest := []) (f := 2046) (l := 83952) (c1 := 0) (k1 := 0) (c2 := 0) (k2 := 0) (v := some (.int 0)) (h1 := ph_1) rfl (fun _ => rfl) ?_ (Nat.le_of_ble_eq_true rfl) (Nat.le_of_ble_eq_true rfl) ?_
      · refine px_C_of rfl ?_
        refine pr_s (pc1 := 1) (st1 := [.int a1]) rfl (fun _ => rfl) ?_
        refine pr_s (pc1 := 2) (st1 := [.int 0, .int a1]) rfl (fun _ => rfl) ?_
        refine pr_bt (t := 14) (off := 12) (bb := decide (a1 < 0)) (st1 := []) rfl rfl rfl rfl (pb_ltT ha1.2 (show 0 ≤ (0 : Int32).toInt by decide) (by decide)) ?_
        refine pr_s (pc1 := 15) (st1 := [.int 0]) rfl (fun _ => rfl) ?_
        exact pr_e rfl (fun _ => rfl) ⟨rfl, rfl⟩
      show px_R _ _ _ _ (12, [(0, .ref 136), (1, .int a1), (2, .int a2), (3, .int a3), (4, .int a4)], [.int 0], _) _ _ _
      refine pr_bt (t := 37) (off := 25) (bb := decide ((0 : Int32) = 0)) (st1 := []) rfl rfl rfl rfl (by decide) ?_
      refine pr_s (pc1 := 38) (st1 := [.ref 136]) rfl (fun _ => rfl) ?_
      refine pr_s (pc1 := 39) (st1 := [.int 1, .ref 136]) rfl (fun _ => rfl) ?_
      refine pr_callv (N := pm_X10_refuse) (as := [.ref 136, .int 1]) (rest := []) (f := 2046) (l := 83953) (c1 := 0) (k1 := 0) (c2 := 0) (k2 := 0) (v := some (.int 0)) (h1 := ph_2) rfl (fun ex => px_inv_hs ex rfl rfl rfl pg_2 rfl rfl rfl rfl) ?_ (Nat.le_of_ble_eq_true rfl) (Nat.le_of_ble_eq_true rfl) ?_
      · refine px_C_of rfl ?_
        refine pr_s (pc1 := 1) (st1 := [.ref 136]) rfl (fun _ => rfl) ?_
        refine pr_s (pc1 := 2) (st1 := [.int 1, .ref 136]) rfl (fun _ => rfl) ?_
        refine pr_putf (pc1 := 5) (h1 := ph_2) rfl rfl pg_2 rfl rfl rfl rfl rfl rfl rfl ?_
        refine pr_s (pc1 := 6) (st1 := [.int 0]) rfl (fun _ => rfl) ?_
        exact pr_e rfl (fun _ => rfl) ⟨rfl, rfl⟩
      show px_R _ _ _ _ (42, [(0, .ref 136), (1, .int a1), (2, .int a2), (3, .int a3), (4, .int a4)], [.int 0], _) _ _ _
      exact pr_e rfl (fun _ => rfl) ⟨rfl, rfl⟩
    show px_T _ _ _ _ (927, [(5, .int 1), (4, .int 0), (3, .ref 164), (2, .ref 136), (1, .ref 0), (0, .retAddr 0)], [.int 0], _) _ _ _
    refine pt_s (pc1 := 929) (lv1 := [(6, .int 0), (5, .int 1), (4, .int 0), (3, .ref 164), (2, .ref 136), (1, .ref 0), (0, .retAddr 0)]) (st1 := []) rfl rfl (fun _ => rfl) ?_
    refine pt_s (pc1 := 930) (st1 := [.ref 136]) rfl rfl (fun _ => rfl) ?_
    refine pt_callv (N := pm_X10_thrown) (as := [.ref 136]) (rest := []) (f := 2047) (l := 83980) (c1 := 0) (k1 := 0) (c2 := 599836) (k2 := 7274189) (v := some (.int 1)) (h1 := ph_2) rfl rfl (fun ex => px_inv_hs ex rfl rfl rfl pg_3 rfl rfl rfl rfl) ?_ (Nat.le_of_ble_eq_true rfl) (Nat.le_of_ble_eq_true rfl) ?_
    · refine px_C_of rfl ?_
      refine pr_s (pc1 := 1) (st1 := [.ref 136]) rfl (fun _ => rfl) ?_
      refine pr_getf (pc1 := 4) (v := .int 1) rfl rfl pg_3 rfl rfl ?_
      exact pr_e rfl (fun _ => rfl) ⟨rfl, rfl⟩
    show px_T _ _ _ _ (933, [(6, .int 0), (5, .int 1), (4, .int 0), (3, .ref 164), (2, .ref 136), (1, .ref 0), (0, .retAddr 0)], [.int 1], _) _ _ _
    refine pt_s (pc1 := 935) (st1 := [.int 1, .int 1]) rfl rfl (fun _ => rfl) ?_
    refine pt_bt (t := 940) (off := 5) (bb := decide ((1 : Int32) = 1)) (st1 := []) rfl rfl rfl rfl rfl (by decide) ?_
    refine pt_s (pc1 := 942) (st1 := [.int 1]) rfl rfl (fun _ => rfl) ?_
    refine pt_bt (t := 957) (off := 15) (bb := !decide ((1 : Int32) = 0)) (st1 := []) rfl rfl rfl rfl rfl (px_not_t (by decide)) ?_
    refine pt_s (pc1 := 2771) (st1 := []) rfl rfl (fun _ => rfl) ?_
    refine pt_s (pc1 := 2774) (lv1 := [(4, .int 6), (6, .int 0), (5, .int 1), (3, .ref 164), (2, .ref 136), (1, .ref 0), (0, .retAddr 0)]) (st1 := []) rfl rfl (fun _ => rfl) ?_
    refine pt_s (pc1 := 23) (st1 := []) rfl rfl (fun _ => rfl) ?_
    refine pt_s (pc1 := 25) (st1 := [.int 6]) rfl rfl (fun _ => rfl) ?_
    refine pt_s (pc1 := 26) (st1 := [.retAddr 0, .int 6]) rfl rfl (fun _ => rfl) ?_
    refine pt_s (pc1 := 27) (st1 := [.int 6, .int 6]) rfl rfl (fun _ => rfl) ?_
    refine pt_s (pc1 := 29) (st1 := [.int 6, .int 6, .int 6]) rfl rfl (fun _ => rfl) ?_
    refine pt_s (pc1 := 30) (st1 := [.int 0, .int 6]) rfl rfl (fun _ => rfl) ?_
    refine pt_bt (t := 2777) (off := 2747) (bb := decide ((0 : Int32) < (6 : Int32))) (st1 := []) rfl rfl rfl rfl rfl (by decide) ?_
    refine pt_s (pc1 := 2778) (st1 := [.int 1]) rfl rfl (fun _ => rfl) ?_
    exact pt_e rfl ⟨rfl, (rfl : px_ins pm_law 2778 = some (.ireturn, 1))⟩
  · have ha1 : 0 ≤ a1.toInt ∧ a1.toInt ≤ 2147483647 := ⟨by omega, ha1.2⟩
    by_cases hs : a1.toInt < 8
    · have ha1 : 0 ≤ a1.toInt ∧ a1.toInt ≤ 7 := ⟨ha1.1, by omega⟩
      by_cases hs : a2.toInt < (-999)
      · have ha2 : (-2147483648) ≤ a2.toInt ∧ a2.toInt ≤ (-1000) := ⟨ha2.1, by omega⟩
        refine pt_s (pc1 := 868) (st1 := []) rfl rfl (fun _ => rfl) ?_
        refine pt_s (pc1 := 869) (st1 := [.ref 0]) rfl rfl (fun _ => rfl) ?_
        refine pt_s (pc1 := 870) (st1 := [.retAddr 0, .ref 0]) rfl rfl (fun _ => rfl) ?_
        refine pt_s (pc1 := 872) (st1 := [.int 0, .retAddr 0, .ref 0]) rfl rfl (fun _ => rfl) ?_
        refine pt_s (pc1 := 873) (st1 := [.int 1, .int 0, .retAddr 0, .ref 0]) rfl rfl (fun _ => rfl) ?_
        refine pt_s (pc1 := 874) (st1 := [.int 1, .retAddr 0, .ref 0]) rfl rfl (fun _ => rfl) ?_
        refine pt_s (pc1 := 875) (st1 := [.int a1, .ref 0]) rfl rfl (fun _ => rfl) ?_
        refine pt_s (pc1 := 876) (st1 := [.retAddr 0, .int a1, .ref 0]) rfl rfl (fun _ => rfl) ?_
        refine pt_s (pc1 := 878) (st1 := [.int 0, .retAddr 0, .int a1, .ref 0]) rfl rfl (fun _ => rfl) ?_
        refine pt_s (pc1 := 879) (st1 := [.int 2, .int 0, .retAddr 0, .int a1, .ref 0]) rfl rfl (fun _ => rfl) ?_
        refine pt_s (pc1 := 880) (st1 := [.int 2, .retAddr 0, .int a1, .ref 0]) rfl rfl (fun _ => rfl) ?_
        refine pt_s (pc1 := 881) (st1 := [.int a2, .int a1, .ref 0]) rfl rfl (fun _ => rfl) ?_
        refine pt_s (pc1 := 882) (st1 := [.retAddr 0, .int a2, .int a1, .ref 0]) rfl rfl (fun _ => rfl) ?_
        refine pt_s (pc1 := 884) (st1 := [.int 0, .retAddr 0, .int a2, .int a1, .ref 0]) rfl rfl (fun _ => rfl) ?_
        refine pt_s (pc1 := 885) (st1 := [.int 3, .int 0, .retAddr 0, .int a2, .int a1, .ref 0]) rfl rfl (fun _ => rfl) ?_
        refine pt_s (pc1 := 886) (st1 := [.int 3, .retAddr 0, .int a2, .int a1, .ref 0]) rfl rfl (fun _ => rfl) ?_
        refine pt_s (pc1 := 887) (st1 := [.int a3, .int a2, .int a1, .ref 0]) rfl rfl (fun _ => rfl) ?_
        refine pt_s (pc1 := 888) (st1 := [.retAddr 0, .int a3, .int a2, .int a1, .ref 0]) rfl rfl (fun _ => rfl) ?_
        refine pt_s (pc1 := 890) (st1 := [.int 0, .retAddr 0, .int a3, .int a2, .int a1, .ref 0]) rfl rfl (fun _ => rfl) ?_
        refine pt_s (pc1 := 891) (st1 := [.int 4, .int 0, .retAddr 0, .int a3, .int a2, .int a1, .ref 0]) rfl rfl (fun _ => rfl) ?_
        refine pt_s (pc1 := 892) (st1 := [.int 4, .retAddr 0, .int a3, .int a2, .int a1, .ref 0]) rfl rfl (fun _ => rfl) ?_
        refine pt_s (pc1 := 893) (st1 := [.int a4, .int a3, .int a2, .int a1, .ref 0]) rfl rfl (fun _ => rfl) ?_
        refine pt_s (pc1 := 894) (st1 := [.ref 164, .int a4, .int a3, .int a2, .int a1, .ref 0]) rfl rfl (fun _ => rfl) ?_
        refine pt_callv (N := pm_L_state) (as := [.ref 0, .int a1, .int a2, .int a3, .int a4, .ref 164]) (rest := []) (f := 2047) (l := 83974) (c1 := 1) (k1 := 6) (c2 := 599836) (k2 := 7274189) (v := some (.int 1)) (h1 := ph_1) rfl rfl (fun _ => rfl) ?_ (Nat.le_of_ble_eq_true rfl) (Nat.le_of_ble_eq_true rfl) ?_
        · refine px_C_of rfl ?_
          refine pr_s (pc1 := 2) (st1 := [.ref 164]) rfl (fun _ => rfl) ?_
          refine pr_s (pc1 := 3) (st1 := [.int 0, .ref 164]) rfl (fun _ => rfl) ?_
          refine pr_s (pc1 := 4) (st1 := [.ref 0, .int 0, .ref 164]) rfl (fun _ => rfl) ?_
          refine pr_s (pc1 := 5) (st1 := [.int a1, .ref 0, .int 0, .ref 164]) rfl (fun _ => rfl) ?_
          refine pr_s (pc1 := 6) (st1 := [.int a2, .int a1, .ref 0, .int 0, .ref 164]) rfl (fun _ => rfl) ?_
          refine pr_s (pc1 := 7) (st1 := [.int a3, .int a2, .int a1, .ref 0, .int 0, .ref 164]) rfl (fun _ => rfl) ?_
          refine pr_s (pc1 := 9) (st1 := [.int a4, .int a3, .int a2, .int a1, .ref 0, .int 0, .ref 164]) rfl (fun _ => rfl) ?_
          refine pr_callx (N := pm_X6_state) (as := [.ref 0, .int a1, .int a2, .int a3, .int a4]) (rest := [.int 0, .ref 164]) (f := 2046) (l := 83949) (c1 := 1) (k1 := 6) (c2 := 0) (k2 := 0) (E := 12) (h1 := ph_1) (a := 17) (y1 := 6) (y2 := 2) rfl (fun ex => px_inv_hs ex rfl rfl rfl pg_0 rfl rfl rfl rfl) ?_ (Nat.le_of_ble_eq_true rfl) (Nat.le_of_ble_eq_true rfl) rfl rfl rfl rfl ?_
          · refine px_C_of rfl ?_
            refine pr_s (pc1 := 1) (st1 := [.int a1]) rfl (fun _ => rfl) ?_
            refine pr_callv (N := pm_X6_isKind) (as := [.int a1]) (rest := []) (f := 2045) (l := 83929) (c1 := 0) (k1 := 0) (c2 := 1) (k2 := 6) (v := some (.int 1)) (h1 := px_hs) rfl (fun _ => rfl) ?_ (Nat.le_of_ble_eq_true rfl) (Nat.le_of_ble_eq_true rfl) ?_
            · refine px_C_of rfl ?_
              refine pr_s (pc1 := 1) (st1 := [.int a1]) rfl (fun _ => rfl) ?_
              refine pr_bf (t := 14) (off := 13) (bb := decide (a1 < 0)) (st1 := []) rfl rfl rfl rfl (pb_ltF ha1.1 (show (0 : Int32).toInt ≤ 0 by decide) (by decide)) ?_
              refine pr_s (pc1 := 5) (st1 := [.int a1]) rfl (fun _ => rfl) ?_
              refine pr_s (pc1 := 7) (st1 := [.int 8, .int a1]) rfl (fun _ => rfl) ?_
              refine pr_bf (t := 14) (off := 7) (bb := decide ((8 : Int32) ≤ a1)) (st1 := []) rfl rfl rfl rfl (pb_leF (show 8 ≤ (8 : Int32).toInt by decide) ha1.2 (by decide)) ?_
              refine pr_s (pc1 := 11) (st1 := [.int 1]) rfl (fun _ => rfl) ?_
              refine pr_s (pc1 := 15) (st1 := [.int 1]) rfl (fun _ => rfl) ?_
              exact pr_e rfl (fun _ => rfl) ⟨rfl, rfl⟩
            show px_R _ _ _ _ (4, [(0, .ref 0), (1, .int a1), (2, .int a2), (3, .int a3), (4, .int a4)], [.int 1], _) _ _ _
            refine pr_bf (t := 29) (off := 25) (bb := decide ((1 : Int32) = 0)) (st1 := []) rfl rfl rfl rfl (by decide) ?_
            refine pr_s (pc1 := 8) (st1 := [.int a2]) rfl (fun _ => rfl) ?_
            refine pr_callv (N := pm_X6_isValue) (as := [.int a2]) (rest := []) (f := 2045) (l := 83929) (c1 := 0) (k1 := 0) (c2 := 1) (k2 := 6) (v := some (.int 0)) (h1 := px_hs) rfl (fun _ => rfl) ?_ (Nat.le_of_ble_eq_true rfl) (Nat.le_of_ble_eq_true rfl) ?_
            · refine px_C_of rfl ?_
              refine pr_s (pc1 := 1) (st1 := [.int a2]) rfl (fun _ => rfl) ?_
              refine pr_s (pc1 := 4) (st1 := [.int (-999), .int a2]) rfl (fun _ => rfl) ?_
              refine pr_bt (t := 18) (off := 14) (bb := decide (a2 < (-999))) (st1 := []) rfl rfl rfl rfl (pb_ltT ha2.2 (show (-999) ≤ ((-999) : Int32).toInt by decide) (by decide)) ?_
              refine pr_s (pc1 := 19) (st1 := [.int 0]) rfl (fun _ => rfl) ?_
              exact pr_e rfl (fun _ => rfl) ⟨rfl, rfl⟩
            show px_R _ _ _ _ (11, [(0, .ref 0), (1, .int a1), (2, .int a2), (3, .int a3), (4, .int a4)], [.int 0], _) _ _ _
            refine pr_bt (t := 29) (off := 18) (bb := decide ((0 : Int32) = 0)) (st1 := []) rfl rfl rfl rfl (by decide) ?_
            refine pr_mh (z1 := 1) (z2 := 6) (c1 := 0) (k1 := 0) (pc1 := 38) (n := 165) (r := []) (h1 := ph_1) (es := fun n => [.inr (12, [])]) rfl (fun _ => rfl) pl_0 rfl (Nat.le_of_ble_eq_true rfl) (Nat.le_of_ble_eq_true rfl) ?_
            exact pr_e rfl (fun _ => rfl) ⟨rfl, rfl⟩
          show px_R _ _ _ _ (19, [(0, .ref 0), (1, .int a1), (2, .int a2), (3, .int a3), (4, .int a4), (5, .ref 164)], [], _) _ _ _
          refine pr_s (pc1 := 20) (st1 := [.int 1]) rfl (fun _ => rfl) ?_
          exact pr_e rfl (fun _ => rfl) ⟨rfl, rfl⟩
        show px_T _ _ _ _ (897, [(4, .int 0), (3, .ref 164), (2, .ref 136), (1, .ref 0), (0, .retAddr 0)], [.int 1], _) _ _ _
        refine pt_s (pc1 := 899) (lv1 := [(5, .int 1), (4, .int 0), (3, .ref 164), (2, .ref 136), (1, .ref 0), (0, .retAddr 0)]) (st1 := []) rfl rfl (fun _ => rfl) ?_
        refine pt_s (pc1 := 900) (st1 := [.ref 136]) rfl rfl (fun _ => rfl) ?_
        refine pt_s (pc1 := 901) (st1 := [.retAddr 0, .ref 136]) rfl rfl (fun _ => rfl) ?_
        refine pt_s (pc1 := 903) (st1 := [.int 0, .retAddr 0, .ref 136]) rfl rfl (fun _ => rfl) ?_
        refine pt_s (pc1 := 904) (st1 := [.int 1, .int 0, .retAddr 0, .ref 136]) rfl rfl (fun _ => rfl) ?_
        refine pt_s (pc1 := 905) (st1 := [.int 1, .retAddr 0, .ref 136]) rfl rfl (fun _ => rfl) ?_
        refine pt_s (pc1 := 906) (st1 := [.int a1, .ref 136]) rfl rfl (fun _ => rfl) ?_
        refine pt_s (pc1 := 907) (st1 := [.retAddr 0, .int a1, .ref 136]) rfl rfl (fun _ => rfl) ?_
        refine pt_s (pc1 := 909) (st1 := [.int 0, .retAddr 0, .int a1, .ref 136]) rfl rfl (fun _ => rfl) ?_
        refine pt_s (pc1 := 910) (st1 := [.int 2, .int 0, .retAddr 0, .int a1, .ref 136]) rfl rfl (fun _ => rfl) ?_
        refine pt_s (pc1 := 911) (st1 := [.int 2, .retAddr 0, .int a1, .ref 136]) rfl rfl (fun _ => rfl) ?_
        refine pt_s (pc1 := 912) (st1 := [.int a2, .int a1, .ref 136]) rfl rfl (fun _ => rfl) ?_
        refine pt_s (pc1 := 913) (st1 := [.retAddr 0, .int a2, .int a1, .ref 136]) rfl rfl (fun _ => rfl) ?_
        refine pt_s (pc1 := 915) (st1 := [.int 0, .retAddr 0, .int a2, .int a1, .ref 136]) rfl rfl (fun _ => rfl) ?_
        refine pt_s (pc1 := 916) (st1 := [.int 3, .int 0, .retAddr 0, .int a2, .int a1, .ref 136]) rfl rfl (fun _ => rfl) ?_
        refine pt_s (pc1 := 917) (st1 := [.int 3, .retAddr 0, .int a2, .int a1, .ref 136]) rfl rfl (fun _ => rfl) ?_
        refine pt_s (pc1 := 918) (st1 := [.int a3, .int a2, .int a1, .ref 136]) rfl rfl (fun _ => rfl) ?_
        refine pt_s (pc1 := 919) (st1 := [.retAddr 0, .int a3, .int a2, .int a1, .ref 136]) rfl rfl (fun _ => rfl) ?_
        refine pt_s (pc1 := 921) (st1 := [.int 0, .retAddr 0, .int a3, .int a2, .int a1, .ref 136]) rfl rfl (fun _ => rfl) ?_
        refine pt_s (pc1 := 922) (st1 := [.int 4, .int 0, .retAddr 0, .int a3, .int a2, .int a1, .ref 136]) rfl rfl (fun _ => rfl) ?_
        refine pt_s (pc1 := 923) (st1 := [.int 4, .retAddr 0, .int a3, .int a2, .int a1, .ref 136]) rfl rfl (fun _ => rfl) ?_
        refine pt_s (pc1 := 924) (st1 := [.int a4, .int a3, .int a2, .int a1, .ref 136]) rfl rfl (fun _ => rfl) ?_
        refine pt_callv (N := pm_X10_state) (as := [.ref 136, .int a1, .int a2, .int a3, .int a4]) (rest := []) (f := 2047) (l := 83974) (c1 := 0) (k1 := 0) (c2 := 599836) (k2 := 7274189) (v := some (.int 0)) (h1 := ph_2) rfl rfl (fun ex => px_inv_hs ex rfl rfl rfl pg_2 rfl rfl rfl rfl) ?_ (Nat.le_of_ble_eq_true rfl) (Nat.le_of_ble_eq_true rfl) ?_
        · refine px_C_of rfl ?_
          refine pr_s (pc1 := 1) (st1 := [.ref 136]) rfl (fun _ => rfl) ?_
          refine pr_s (pc1 := 2) (st1 := [.int 0, .ref 136]) rfl (fun _ => rfl) ?_
          refine pr_putf (pc1 := 5) (h1 := ph_1) rfl rfl pg_2 rfl rfl rfl rfl rfl (px_set_same pg_2 rfl) rfl ?_
          refine pr_s (pc1 := 6) (st1 := [.int a1]) rfl (fun _ => rfl) ?_
          refine pr_s (pc1 := 7) (st1 := [.int 0, .int a1]) rfl (fun _ => rfl) ?_
          refine pr_s (pc1 := 9) (st1 := [.int 7, .int 0, .int a1]) rfl (fun _ => rfl) ?_
          refine pr_callv (N := pm_X10_is) (as := [.int a1, .int 0, .int 7]) (rest := []) (f := 2046) (l := 83952) (c1 := 0) (k1 := 0) (c2 := 0) (k2 := 0) (v := some (.int 1)) (h1 := ph_1) rfl (fun _ => rfl) ?_ (Nat.le_of_ble_eq_true rfl) (Nat.le_of_ble_eq_true rfl) ?_
          · refine px_C_of rfl ?_
            refine pr_s (pc1 := 1) (st1 := [.int a1]) rfl (fun _ => rfl) ?_
            refine pr_s (pc1 := 2) (st1 := [.int 0, .int a1]) rfl (fun _ => rfl) ?_
            refine pr_bf (t := 14) (off := 12) (bb := decide (a1 < 0)) (st1 := []) rfl rfl rfl rfl (pb_ltF ha1.1 (show (0 : Int32).toInt ≤ 0 by decide) (by decide)) ?_
            refine pr_s (pc1 := 6) (st1 := [.int a1]) rfl (fun _ => rfl) ?_
            refine pr_s (pc1 := 7) (st1 := [.int 7, .int a1]) rfl (fun _ => rfl) ?_
            refine pr_bf (t := 14) (off := 7) (bb := decide ((7 : Int32) < a1)) (st1 := []) rfl rfl rfl rfl (pb_ltF (show 7 ≤ (7 : Int32).toInt by decide) ha1.2 (by decide)) ?_
            refine pr_s (pc1 := 11) (st1 := [.int 1]) rfl (fun _ => rfl) ?_
            refine pr_s (pc1 := 15) (st1 := [.int 1]) rfl (fun _ => rfl) ?_
            exact pr_e rfl (fun _ => rfl) ⟨rfl, rfl⟩
          show px_R _ _ _ _ (12, [(0, .ref 136), (1, .int a1), (2, .int a2), (3, .int a3), (4, .int a4)], [.int 1], _) _ _ _
          refine pr_bf (t := 37) (off := 25) (bb := decide ((1 : Int32) = 0)) (st1 := []) rfl rfl rfl rfl (by decide) ?_
          refine pr_s (pc1 := 16) (st1 := [.int a2]) rfl (fun _ => rfl) ?_
          refine pr_callv (N := pm_X10_isValue) (as := [.int a2]) (rest := []) (f := 2046) (l := 83954) (c1 := 0) (k1 := 0) (c2 := 0) (k2 := 0) (v := some (.int 0)) (h1 := ph_1) rfl (fun _ => rfl) ?_ (Nat.le_of_ble_eq_true rfl) (Nat.le_of_ble_eq_true rfl) ?_
          · refine px_C_of rfl ?_
            refine pr_s (pc1 := 1) (st1 := [.int a2]) rfl (fun _ => rfl) ?_
            refine pr_s (pc1 := 4) (st1 := [.int (-999), .int a2]) rfl (fun _ => rfl) ?_
            refine pr_s (pc1 := 7) (st1 := [.int 999, .int (-999), .int a2]) rfl (fun _ => rfl) ?_
            refine pr_callv (N := pm_X10_is) (as := [.int a2, .int (-999), .int 999]) (rest := []) (f := 2045) (l := 83932) (c1 := 0) (k1 := 0) (c2 := 0) (k2 := 0) (v := some (.int 0)) (h1 := ph_1) rfl (fun _ => rfl) ?_ (Nat.le_of_ble_eq_true rfl) (Nat.le_of_ble_eq_true rfl) ?_
            · refine px_C_of rfl ?_
              refine pr_s (pc1 := 1) (st1 := [.int a2]) rfl (fun _ => rfl) ?_
              refine pr_s (pc1 := 2) (st1 := [.int (-999), .int a2]) rfl (fun _ => rfl) ?_
              refine pr_bt (t := 14) (off := 12) (bb := decide (a2 < (-999))) (st1 := []) rfl rfl rfl rfl (pb_ltT ha2.2 (show (-999) ≤ ((-999) : Int32).toInt by decide) (by decide)) ?_
              refine pr_s (pc1 := 15) (st1 := [.int 0]) rfl (fun _ => rfl) ?_
              exact pr_e rfl (fun _ => rfl) ⟨rfl, rfl⟩
            show px_R _ _ _ _ (10, [(0, .int a2)], [.int 0], _) _ _ _
            exact pr_e rfl (fun _ => rfl) ⟨rfl, rfl⟩
          show px_R _ _ _ _ (19, [(0, .ref 136), (1, .int a1), (2, .int a2), (3, .int a3), (4, .int a4)], [.int 0], _) _ _ _
          refine pr_bt (t := 37) (off := 18) (bb := decide ((0 : Int32) = 0)) (st1 := []) rfl rfl rfl rfl (by decide) ?_
          refine pr_s (pc1 := 38) (st1 := [.ref 136]) rfl (fun _ => rfl) ?_
          refine pr_s (pc1 := 39) (st1 := [.int 1, .ref 136]) rfl (fun _ => rfl) ?_
          refine pr_callv (N := pm_X10_refuse) (as := [.ref 136, .int 1]) (rest := []) (f := 2046) (l := 83953) (c1 := 0) (k1 := 0) (c2 := 0) (k2 := 0) (v := some (.int 0)) (h1 := ph_2) rfl (fun ex => px_inv_hs ex rfl rfl rfl pg_2 rfl rfl rfl rfl) ?_ (Nat.le_of_ble_eq_true rfl) (Nat.le_of_ble_eq_true rfl) ?_
          · refine px_C_of rfl ?_
            refine pr_s (pc1 := 1) (st1 := [.ref 136]) rfl (fun _ => rfl) ?_
            refine pr_s (pc1 := 2) (st1 := [.int 1, .ref 136]) rfl (fun _ => rfl) ?_
            refine pr_putf (pc1 := 5) (h1 := ph_2) rfl rfl pg_2 rfl rfl rfl rfl rfl rfl rfl ?_
            refine pr_s (pc1 := 6) (st1 := [.int 0]) rfl (fun _ => rfl) ?_
            exact pr_e rfl (fun _ => rfl) ⟨rfl, rfl⟩
          show px_R _ _ _ _ (42, [(0, .ref 136), (1, .int a1), (2, .int a2), (3, .int a3), (4, .int a4)], [.int 0], _) _ _ _
          exact pr_e rfl (fun _ => rfl) ⟨rfl, rfl⟩
        show px_T _ _ _ _ (927, [(5, .int 1), (4, .int 0), (3, .ref 164), (2, .ref 136), (1, .ref 0), (0, .retAddr 0)], [.int 0], _) _ _ _
        refine pt_s (pc1 := 929) (lv1 := [(6, .int 0), (5, .int 1), (4, .int 0), (3, .ref 164), (2, .ref 136), (1, .ref 0), (0, .retAddr 0)]) (st1 := []) rfl rfl (fun _ => rfl) ?_
        refine pt_s (pc1 := 930) (st1 := [.ref 136]) rfl rfl (fun _ => rfl) ?_
        refine pt_callv (N := pm_X10_thrown) (as := [.ref 136]) (rest := []) (f := 2047) (l := 83980) (c1 := 0) (k1 := 0) (c2 := 599836) (k2 := 7274189) (v := some (.int 1)) (h1 := ph_2) rfl rfl (fun ex => px_inv_hs ex rfl rfl rfl pg_3 rfl rfl rfl rfl) ?_ (Nat.le_of_ble_eq_true rfl) (Nat.le_of_ble_eq_true rfl) ?_
        · refine px_C_of rfl ?_
          refine pr_s (pc1 := 1) (st1 := [.ref 136]) rfl (fun _ => rfl) ?_
          refine pr_getf (pc1 := 4) (v := .int 1) rfl rfl pg_3 rfl rfl ?_
          exact pr_e rfl (fun _ => rfl) ⟨rfl, rfl⟩
        show px_T _ _ _ _ (933, [(6, .int 0), (5, .int 1), (4, .int 0), (3, .ref 164), (2, .ref 136), (1, .ref 0), (0, .retAddr 0)], [.int 1], _) _ _ _
        refine pt_s (pc1 := 935) (st1 := [.int 1, .int 1]) rfl rfl (fun _ => rfl) ?_
        refine pt_bt (t := 940) (off := 5) (bb := decide ((1 : Int32) = 1)) (st1 := []) rfl rfl rfl rfl rfl (by decide) ?_
        refine pt_s (pc1 := 942) (st1 := [.int 1]) rfl rfl (fun _ => rfl) ?_
        refine pt_bt (t := 957) (off := 15) (bb := !decide ((1 : Int32) = 0)) (st1 := []) rfl rfl rfl rfl rfl (px_not_t (by decide)) ?_
        refine pt_s (pc1 := 2771) (st1 := []) rfl rfl (fun _ => rfl) ?_
        refine pt_s (pc1 := 2774) (lv1 := [(4, .int 6), (6, .int 0), (5, .int 1), (3, .ref 164), (2, .ref 136), (1, .ref 0), (0, .retAddr 0)]) (st1 := []) rfl rfl (fun _ => rfl) ?_
        refine pt_s (pc1 := 23) (st1 := []) rfl rfl (fun _ => rfl) ?_
        refine pt_s (pc1 := 25) (st1 := [.int 6]) rfl rfl (fun _ => rfl) ?_
        refine pt_s (pc1 := 26) (st1 := [.retAddr 0, .int 6]) rfl rfl (fun _ => rfl) ?_
        refine pt_s (pc1 := 27) (st1 := [.int 6, .int 6]) rfl rfl (fun _ => rfl) ?_
        refine pt_s (pc1 := 29) (st1 := [.int 6, .int 6, .int 6]) rfl rfl (fun _ => rfl) ?_
        refine pt_s (pc1 := 30) (st1 := [.int 0, .int 6]) rfl rfl (fun _ => rfl) ?_
        refine pt_bt (t := 2777) (off := 2747) (bb := decide ((0 : Int32) < (6 : Int32))) (st1 := []) rfl rfl rfl rfl rfl (by decide) ?_
        refine pt_s (pc1 := 2778) (st1 := [.int 1]) rfl rfl (fun _ => rfl) ?_
        exact pt_e rfl ⟨rfl, (rfl : px_ins pm_law 2778 = some (.ireturn, 1))⟩
      · have ha2 : (-999) ≤ a2.toInt ∧ a2.toInt ≤ 2147483647 := ⟨by omega, ha2.2⟩
        by_cases hs : a2.toInt < 1000
        · have ha2 : (-999) ≤ a2.toInt ∧ a2.toInt ≤ 999 := ⟨ha2.1, by omega⟩
          by_cases hs : a3.toInt < (-999)
          · have ha3 : (-2147483648) ≤ a3.toInt ∧ a3.toInt ≤ (-1000) := ⟨ha3.1, by omega⟩
            refine pt_s (pc1 := 868) (st1 := []) rfl rfl (fun _ => rfl) ?_
            refine pt_s (pc1 := 869) (st1 := [.ref 0]) rfl rfl (fun _ => rfl) ?_
            refine pt_s (pc1 := 870) (st1 := [.retAddr 0, .ref 0]) rfl rfl (fun _ => rfl) ?_
            refine pt_s (pc1 := 872) (st1 := [.int 0, .retAddr 0, .ref 0]) rfl rfl (fun _ => rfl) ?_
            refine pt_s (pc1 := 873) (st1 := [.int 1, .int 0, .retAddr 0, .ref 0]) rfl rfl (fun _ => rfl) ?_
            refine pt_s (pc1 := 874) (st1 := [.int 1, .retAddr 0, .ref 0]) rfl rfl (fun _ => rfl) ?_
            refine pt_s (pc1 := 875) (st1 := [.int a1, .ref 0]) rfl rfl (fun _ => rfl) ?_
            refine pt_s (pc1 := 876) (st1 := [.retAddr 0, .int a1, .ref 0]) rfl rfl (fun _ => rfl) ?_
            refine pt_s (pc1 := 878) (st1 := [.int 0, .retAddr 0, .int a1, .ref 0]) rfl rfl (fun _ => rfl) ?_
            refine pt_s (pc1 := 879) (st1 := [.int 2, .int 0, .retAddr 0, .int a1, .ref 0]) rfl rfl (fun _ => rfl) ?_
            refine pt_s (pc1 := 880) (st1 := [.int 2, .retAddr 0, .int a1, .ref 0]) rfl rfl (fun _ => rfl) ?_
            refine pt_s (pc1 := 881) (st1 := [.int a2, .int a1, .ref 0]) rfl rfl (fun _ => rfl) ?_
            refine pt_s (pc1 := 882) (st1 := [.retAddr 0, .int a2, .int a1, .ref 0]) rfl rfl (fun _ => rfl) ?_
            refine pt_s (pc1 := 884) (st1 := [.int 0, .retAddr 0, .int a2, .int a1, .ref 0]) rfl rfl (fun _ => rfl) ?_
            refine pt_s (pc1 := 885) (st1 := [.int 3, .int 0, .retAddr 0, .int a2, .int a1, .ref 0]) rfl rfl (fun _ => rfl) ?_
            refine pt_s (pc1 := 886) (st1 := [.int 3, .retAddr 0, .int a2, .int a1, .ref 0]) rfl rfl (fun _ => rfl) ?_
            refine pt_s (pc1 := 887) (st1 := [.int a3, .int a2, .int a1, .ref 0]) rfl rfl (fun _ => rfl) ?_
            refine pt_s (pc1 := 888) (st1 := [.retAddr 0, .int a3, .int a2, .int a1, .ref 0]) rfl rfl (fun _ => rfl) ?_
            refine pt_s (pc1 := 890) (st1 := [.int 0, .retAddr 0, .int a3, .int a2, .int a1, .ref 0]) rfl rfl (fun _ => rfl) ?_
            refine pt_s (pc1 := 891) (st1 := [.int 4, .int 0, .retAddr 0, .int a3, .int a2, .int a1, .ref 0]) rfl rfl (fun _ => rfl) ?_
            refine pt_s (pc1 := 892) (st1 := [.int 4, .retAddr 0, .int a3, .int a2, .int a1, .ref 0]) rfl rfl (fun _ => rfl) ?_
            refine pt_s (pc1 := 893) (st1 := [.int a4, .int a3, .int a2, .int a1, .ref 0]) rfl rfl (fun _ => rfl) ?_
            refine pt_s (pc1 := 894) (st1 := [.ref 164, .int a4, .int a3, .int a2, .int a1, .ref 0]) rfl rfl (fun _ => rfl) ?_
            refine pt_callv (N := pm_L_state) (as := [.ref 0, .int a1, .int a2, .int a3, .int a4, .ref 164]) (rest := []) (f := 2047) (l := 83974) (c1 := 1) (k1 := 6) (c2 := 599836) (k2 := 7274189) (v := some (.int 1)) (h1 := ph_1) rfl rfl (fun _ => rfl) ?_ (Nat.le_of_ble_eq_true rfl) (Nat.le_of_ble_eq_true rfl) ?_
            · refine px_C_of rfl ?_
              refine pr_s (pc1 := 2) (st1 := [.ref 164]) rfl (fun _ => rfl) ?_
              refine pr_s (pc1 := 3) (st1 := [.int 0, .ref 164]) rfl (fun _ => rfl) ?_
              refine pr_s (pc1 := 4) (st1 := [.ref 0, .int 0, .ref 164]) rfl (fun _ => rfl) ?_
              refine pr_s (pc1 := 5) (st1 := [.int a1, .ref 0, .int 0, .ref 164]) rfl (fun _ => rfl) ?_
              refine pr_s (pc1 := 6) (st1 := [.int a2, .int a1, .ref 0, .int 0, .ref 164]) rfl (fun _ => rfl) ?_
              refine pr_s (pc1 := 7) (st1 := [.int a3, .int a2, .int a1, .ref 0, .int 0, .ref 164]) rfl (fun _ => rfl) ?_
              refine pr_s (pc1 := 9) (st1 := [.int a4, .int a3, .int a2, .int a1, .ref 0, .int 0, .ref 164]) rfl (fun _ => rfl) ?_
              refine pr_callx (N := pm_X6_state) (as := [.ref 0, .int a1, .int a2, .int a3, .int a4]) (rest := [.int 0, .ref 164]) (f := 2046) (l := 83949) (c1 := 1) (k1 := 6) (c2 := 0) (k2 := 0) (E := 12) (h1 := ph_1) (a := 17) (y1 := 6) (y2 := 2) rfl (fun ex => px_inv_hs ex rfl rfl rfl pg_0 rfl rfl rfl rfl) ?_ (Nat.le_of_ble_eq_true rfl) (Nat.le_of_ble_eq_true rfl) rfl rfl rfl rfl ?_
              · refine px_C_of rfl ?_
                refine pr_s (pc1 := 1) (st1 := [.int a1]) rfl (fun _ => rfl) ?_
                refine pr_callv (N := pm_X6_isKind) (as := [.int a1]) (rest := []) (f := 2045) (l := 83929) (c1 := 0) (k1 := 0) (c2 := 1) (k2 := 6) (v := some (.int 1)) (h1 := px_hs) rfl (fun _ => rfl) ?_ (Nat.le_of_ble_eq_true rfl) (Nat.le_of_ble_eq_true rfl) ?_
                · refine px_C_of rfl ?_
                  refine pr_s (pc1 := 1) (st1 := [.int a1]) rfl (fun _ => rfl) ?_
                  refine pr_bf (t := 14) (off := 13) (bb := decide (a1 < 0)) (st1 := []) rfl rfl rfl rfl (pb_ltF ha1.1 (show (0 : Int32).toInt ≤ 0 by decide) (by decide)) ?_
                  refine pr_s (pc1 := 5) (st1 := [.int a1]) rfl (fun _ => rfl) ?_
                  refine pr_s (pc1 := 7) (st1 := [.int 8, .int a1]) rfl (fun _ => rfl) ?_
                  refine pr_bf (t := 14) (off := 7) (bb := decide ((8 : Int32) ≤ a1)) (st1 := []) rfl rfl rfl rfl (pb_leF (show 8 ≤ (8 : Int32).toInt by decide) ha1.2 (by decide)) ?_
                  refine pr_s (pc1 := 11) (st1 := [.int 1]) rfl (fun _ => rfl) ?_
                  refine pr_s (pc1 := 15) (st1 := [.int 1]) rfl (fun _ => rfl) ?_
                  exact pr_e rfl (fun _ => rfl) ⟨rfl, rfl⟩
                show px_R _ _ _ _ (4, [(0, .ref 0), (1, .int a1), (2, .int a2), (3, .int a3), (4, .int a4)], [.int 1], _) _ _ _
                refine pr_bf (t := 29) (off := 25) (bb := decide ((1 : Int32) = 0)) (st1 := []) rfl rfl rfl rfl (by decide) ?_
                refine pr_s (pc1 := 8) (st1 := [.int a2]) rfl (fun _ => rfl) ?_
                refine pr_callv (N := pm_X6_isValue) (as := [.int a2]) (rest := []) (f := 2045) (l := 83929) (c1 := 0) (k1 := 0) (c2 := 1) (k2 := 6) (v := some (.int 1)) (h1 := px_hs) rfl (fun _ => rfl) ?_ (Nat.le_of_ble_eq_true rfl) (Nat.le_of_ble_eq_true rfl) ?_
                · refine px_C_of rfl ?_
                  refine pr_s (pc1 := 1) (st1 := [.int a2]) rfl (fun _ => rfl) ?_
                  refine pr_s (pc1 := 4) (st1 := [.int (-999), .int a2]) rfl (fun _ => rfl) ?_
                  refine pr_bf (t := 18) (off := 14) (bb := decide (a2 < (-999))) (st1 := []) rfl rfl rfl rfl (pb_ltF ha2.1 (show ((-999) : Int32).toInt ≤ (-999) by decide) (by decide)) ?_
                  refine pr_s (pc1 := 8) (st1 := [.int a2]) rfl (fun _ => rfl) ?_
                  refine pr_s (pc1 := 11) (st1 := [.int 999, .int a2]) rfl (fun _ => rfl) ?_
                  refine pr_bf (t := 18) (off := 7) (bb := decide ((999 : Int32) < a2)) (st1 := []) rfl rfl rfl rfl (pb_ltF (show 999 ≤ (999 : Int32).toInt by decide) ha2.2 (by decide)) ?_
                  refine pr_s (pc1 := 15) (st1 := [.int 1]) rfl (fun _ => rfl) ?_
                  refine pr_s (pc1 := 19) (st1 := [.int 1]) rfl (fun _ => rfl) ?_
                  exact pr_e rfl (fun _ => rfl) ⟨rfl, rfl⟩
                show px_R _ _ _ _ (11, [(0, .ref 0), (1, .int a1), (2, .int a2), (3, .int a3), (4, .int a4)], [.int 1], _) _ _ _
                refine pr_bf (t := 29) (off := 18) (bb := decide ((1 : Int32) = 0)) (st1 := []) rfl rfl rfl rfl (by decide) ?_
                refine pr_s (pc1 := 15) (st1 := [.int a3]) rfl (fun _ => rfl) ?_
                refine pr_callv (N := pm_X6_isValue) (as := [.int a3]) (rest := []) (f := 2045) (l := 83929) (c1 := 0) (k1 := 0) (c2 := 1) (k2 := 6) (v := some (.int 0)) (h1 := px_hs) rfl (fun _ => rfl) ?_ (Nat.le_of_ble_eq_true rfl) (Nat.le_of_ble_eq_true rfl) ?_
                · refine px_C_of rfl ?_
                  refine pr_s (pc1 := 1) (st1 := [.int a3]) rfl (fun _ => rfl) ?_
                  refine pr_s (pc1 := 4) (st1 := [.int (-999), .int a3]) rfl (fun _ => rfl) ?_
                  refine pr_bt (t := 18) (off := 14) (bb := decide (a3 < (-999))) (st1 := []) rfl rfl rfl rfl (pb_ltT ha3.2 (show (-999) ≤ ((-999) : Int32).toInt by decide) (by decide)) ?_
                  refine pr_s (pc1 := 19) (st1 := [.int 0]) rfl (fun _ => rfl) ?_
                  exact pr_e rfl (fun _ => rfl) ⟨rfl, rfl⟩
                show px_R _ _ _ _ (18, [(0, .ref 0), (1, .int a1), (2, .int a2), (3, .int a3), (4, .int a4)], [.int 0], _) _ _ _
                refine pr_bt (t := 29) (off := 11) (bb := decide ((0 : Int32) = 0)) (st1 := []) rfl rfl rfl rfl (by decide) ?_
                refine pr_mh (z1 := 1) (z2 := 6) (c1 := 0) (k1 := 0) (pc1 := 38) (n := 165) (r := []) (h1 := ph_1) (es := fun n => [.inr (12, [])]) rfl (fun _ => rfl) pl_0 rfl (Nat.le_of_ble_eq_true rfl) (Nat.le_of_ble_eq_true rfl) ?_
                exact pr_e rfl (fun _ => rfl) ⟨rfl, rfl⟩
              show px_R _ _ _ _ (19, [(0, .ref 0), (1, .int a1), (2, .int a2), (3, .int a3), (4, .int a4), (5, .ref 164)], [], _) _ _ _
              refine pr_s (pc1 := 20) (st1 := [.int 1]) rfl (fun _ => rfl) ?_
              exact pr_e rfl (fun _ => rfl) ⟨rfl, rfl⟩
            show px_T _ _ _ _ (897, [(4, .int 0), (3, .ref 164), (2, .ref 136), (1, .ref 0), (0, .retAddr 0)], [.int 1], _) _ _ _
            refine pt_s (pc1 := 899) (lv1 := [(5, .int 1), (4, .int 0), (3, .ref 164), (2, .ref 136), (1, .ref 0), (0, .retAddr 0)]) (st1 := []) rfl rfl (fun _ => rfl) ?_
            refine pt_s (pc1 := 900) (st1 := [.ref 136]) rfl rfl (fun _ => rfl) ?_
            refine pt_s (pc1 := 901) (st1 := [.retAddr 0, .ref 136]) rfl rfl (fun _ => rfl) ?_
            refine pt_s (pc1 := 903) (st1 := [.int 0, .retAddr 0, .ref 136]) rfl rfl (fun _ => rfl) ?_
            refine pt_s (pc1 := 904) (st1 := [.int 1, .int 0, .retAddr 0, .ref 136]) rfl rfl (fun _ => rfl) ?_
            refine pt_s (pc1 := 905) (st1 := [.int 1, .retAddr 0, .ref 136]) rfl rfl (fun _ => rfl) ?_
            refine pt_s (pc1 := 906) (st1 := [.int a1, .ref 136]) rfl rfl (fun _ => rfl) ?_
            refine pt_s (pc1 := 907) (st1 := [.retAddr 0, .int a1, .ref 136]) rfl rfl (fun _ => rfl) ?_
            refine pt_s (pc1 := 909) (st1 := [.int 0, .retAddr 0, .int a1, .ref 136]) rfl rfl (fun _ => rfl) ?_
            refine pt_s (pc1 := 910) (st1 := [.int 2, .int 0, .retAddr 0, .int a1, .ref 136]) rfl rfl (fun _ => rfl) ?_
            refine pt_s (pc1 := 911) (st1 := [.int 2, .retAddr 0, .int a1, .ref 136]) rfl rfl (fun _ => rfl) ?_
            refine pt_s (pc1 := 912) (st1 := [.int a2, .int a1, .ref 136]) rfl rfl (fun _ => rfl) ?_
            refine pt_s (pc1 := 913) (st1 := [.retAddr 0, .int a2, .int a1, .ref 136]) rfl rfl (fun _ => rfl) ?_
            refine pt_s (pc1 := 915) (st1 := [.int 0, .retAddr 0, .int a2, .int a1, .ref 136]) rfl rfl (fun _ => rfl) ?_
            refine pt_s (pc1 := 916) (st1 := [.int 3, .int 0, .retAddr 0, .int a2, .int a1, .ref 136]) rfl rfl (fun _ => rfl) ?_
            refine pt_s (pc1 := 917) (st1 := [.int 3, .retAddr 0, .int a2, .int a1, .ref 136]) rfl rfl (fun _ => rfl) ?_
            refine pt_s (pc1 := 918) (st1 := [.int a3, .int a2, .int a1, .ref 136]) rfl rfl (fun _ => rfl) ?_
            refine pt_s (pc1 := 919) (st1 := [.retAddr 0, .int a3, .int a2, .int a1, .ref 136]) rfl rfl (fun _ => rfl) ?_
            refine pt_s (pc1 := 921) (st1 := [.int 0, .retAddr 0, .int a3, .int a2, .int a1, .ref 136]) rfl rfl (fun _ => rfl) ?_
            refine pt_s (pc1 := 922) (st1 := [.int 4, .int 0, .retAddr 0, .int a3, .int a2, .int a1, .ref 136]) rfl rfl (fun _ => rfl) ?_
            refine pt_s (pc1 := 923) (st1 := [.int 4, .retAddr 0, .int a3, .int a2, .int a1, .ref 136]) rfl rfl (fun _ => rfl) ?_
            refine pt_s (pc1 := 924) (st1 := [.int a4, .int a3, .int a2, .int a1, .ref 136]) rfl rfl (fun _ => rfl) ?_
            refine pt_callv (N := pm_X10_state) (as := [.ref 136, .int a1, .int a2, .int a3, .int a4]) (rest := []) (f := 2047) (l := 83974) (c1 := 0) (k1 := 0) (c2 := 599836) (k2 := 7274189) (v := some (.int 0)) (h1 := ph_2) rfl rfl (fun ex => px_inv_hs ex rfl rfl rfl pg_2 rfl rfl rfl rfl) ?_ (Nat.le_of_ble_eq_true rfl) (Nat.le_of_ble_eq_true rfl) ?_
            · exact pq_1 a1 a2 a3 a4 ha1 ha2 ha3
            show px_T _ _ _ _ (927, [(5, .int 1), (4, .int 0), (3, .ref 164), (2, .ref 136), (1, .ref 0), (0, .retAddr 0)], [.int 0], _) _ _ _
            refine pt_s (pc1 := 929) (lv1 := [(6, .int 0), (5, .int 1), (4, .int 0), (3, .ref 164), (2, .ref 136), (1, .ref 0), (0, .retAddr 0)]) (st1 := []) rfl rfl (fun _ => rfl) ?_
            refine pt_s (pc1 := 930) (st1 := [.ref 136]) rfl rfl (fun _ => rfl) ?_
            refine pt_callv (N := pm_X10_thrown) (as := [.ref 136]) (rest := []) (f := 2047) (l := 83980) (c1 := 0) (k1 := 0) (c2 := 599836) (k2 := 7274189) (v := some (.int 1)) (h1 := ph_2) rfl rfl (fun ex => px_inv_hs ex rfl rfl rfl pg_3 rfl rfl rfl rfl) ?_ (Nat.le_of_ble_eq_true rfl) (Nat.le_of_ble_eq_true rfl) ?_
            · refine px_C_of rfl ?_
              refine pr_s (pc1 := 1) (st1 := [.ref 136]) rfl (fun _ => rfl) ?_
              refine pr_getf (pc1 := 4) (v := .int 1) rfl rfl pg_3 rfl rfl ?_
              exact pr_e rfl (fun _ => rfl) ⟨rfl, rfl⟩
            show px_T _ _ _ _ (933, [(6, .int 0), (5, .int 1), (4, .int 0), (3, .ref 164), (2, .ref 136), (1, .ref 0), (0, .retAddr 0)], [.int 1], _) _ _ _
            refine pt_s (pc1 := 935) (st1 := [.int 1, .int 1]) rfl rfl (fun _ => rfl) ?_
            refine pt_bt (t := 940) (off := 5) (bb := decide ((1 : Int32) = 1)) (st1 := []) rfl rfl rfl rfl rfl (by decide) ?_
            refine pt_s (pc1 := 942) (st1 := [.int 1]) rfl rfl (fun _ => rfl) ?_
            refine pt_bt (t := 957) (off := 15) (bb := !decide ((1 : Int32) = 0)) (st1 := []) rfl rfl rfl rfl rfl (px_not_t (by decide)) ?_
            refine pt_s (pc1 := 2771) (st1 := []) rfl rfl (fun _ => rfl) ?_
            refine pt_s (pc1 := 2774) (lv1 := [(4, .int 6), (6, .int 0), (5, .int 1), (3, .ref 164), (2, .ref 136), (1, .ref 0), (0, .retAddr 0)]) (st1 := []) rfl rfl (fun _ => rfl) ?_
            refine pt_s (pc1 := 23) (st1 := []) rfl rfl (fun _ => rfl) ?_
            refine pt_s (pc1 := 25) (st1 := [.int 6]) rfl rfl (fun _ => rfl) ?_
            refine pt_s (pc1 := 26) (st1 := [.retAddr 0, .int 6]) rfl rfl (fun _ => rfl) ?_
            refine pt_s (pc1 := 27) (st1 := [.int 6, .int 6]) rfl rfl (fun _ => rfl) ?_
            refine pt_s (pc1 := 29) (st1 := [.int 6, .int 6, .int 6]) rfl rfl (fun _ => rfl) ?_
            refine pt_s (pc1 := 30) (st1 := [.int 0, .int 6]) rfl rfl (fun _ => rfl) ?_
            refine pt_bt (t := 2777) (off := 2747) (bb := decide ((0 : Int32) < (6 : Int32))) (st1 := []) rfl rfl rfl rfl rfl (by decide) ?_
            refine pt_s (pc1 := 2778) (st1 := [.int 1]) rfl rfl (fun _ => rfl) ?_
            exact pt_e rfl ⟨rfl, (rfl : px_ins pm_law 2778 = some (.ireturn, 1))⟩
          · have ha3 : (-999) ≤ a3.toInt ∧ a3.toInt ≤ 2147483647 := ⟨by omega, ha3.2⟩
            by_cases hs : a3.toInt < 1000
            · have ha3 : (-999) ≤ a3.toInt ∧ a3.toInt ≤ 999 := ⟨ha3.1, by omega⟩
              by_cases hs : a4.toInt < (-999)
              · have ha4 : (-2147483648) ≤ a4.toInt ∧ a4.toInt ≤ (-1000) := ⟨ha4.1, by omega⟩
                refine pt_s (pc1 := 868) (st1 := []) rfl rfl (fun _ => rfl) ?_
                refine pt_s (pc1 := 869) (st1 := [.ref 0]) rfl rfl (fun _ => rfl) ?_
                refine pt_s (pc1 := 870) (st1 := [.retAddr 0, .ref 0]) rfl rfl (fun _ => rfl) ?_
                refine pt_s (pc1 := 872) (st1 := [.int 0, .retAddr 0, .ref 0]) rfl rfl (fun _ => rfl) ?_
                refine pt_s (pc1 := 873) (st1 := [.int 1, .int 0, .retAddr 0, .ref 0]) rfl rfl (fun _ => rfl) ?_
                refine pt_s (pc1 := 874) (st1 := [.int 1, .retAddr 0, .ref 0]) rfl rfl (fun _ => rfl) ?_
                refine pt_s (pc1 := 875) (st1 := [.int a1, .ref 0]) rfl rfl (fun _ => rfl) ?_
                refine pt_s (pc1 := 876) (st1 := [.retAddr 0, .int a1, .ref 0]) rfl rfl (fun _ => rfl) ?_
                refine pt_s (pc1 := 878) (st1 := [.int 0, .retAddr 0, .int a1, .ref 0]) rfl rfl (fun _ => rfl) ?_
                refine pt_s (pc1 := 879) (st1 := [.int 2, .int 0, .retAddr 0, .int a1, .ref 0]) rfl rfl (fun _ => rfl) ?_
                refine pt_s (pc1 := 880) (st1 := [.int 2, .retAddr 0, .int a1, .ref 0]) rfl rfl (fun _ => rfl) ?_
                refine pt_s (pc1 := 881) (st1 := [.int a2, .int a1, .ref 0]) rfl rfl (fun _ => rfl) ?_
                refine pt_s (pc1 := 882) (st1 := [.retAddr 0, .int a2, .int a1, .ref 0]) rfl rfl (fun _ => rfl) ?_
                refine pt_s (pc1 := 884) (st1 := [.int 0, .retAddr 0, .int a2, .int a1, .ref 0]) rfl rfl (fun _ => rfl) ?_
                refine pt_s (pc1 := 885) (st1 := [.int 3, .int 0, .retAddr 0, .int a2, .int a1, .ref 0]) rfl rfl (fun _ => rfl) ?_
                refine pt_s (pc1 := 886) (st1 := [.int 3, .retAddr 0, .int a2, .int a1, .ref 0]) rfl rfl (fun _ => rfl) ?_
                refine pt_s (pc1 := 887) (st1 := [.int a3, .int a2, .int a1, .ref 0]) rfl rfl (fun _ => rfl) ?_
                refine pt_s (pc1 := 888) (st1 := [.retAddr 0, .int a3, .int a2, .int a1, .ref 0]) rfl rfl (fun _ => rfl) ?_
                refine pt_s (pc1 := 890) (st1 := [.int 0, .retAddr 0, .int a3, .int a2, .int a1, .ref 0]) rfl rfl (fun _ => rfl) ?_
                refine pt_s (pc1 := 891) (st1 := [.int 4, .int 0, .retAddr 0, .int a3, .int a2, .int a1, .ref 0]) rfl rfl (fun _ => rfl) ?_
                refine pt_s (pc1 := 892) (st1 := [.int 4, .retAddr 0, .int a3, .int a2, .int a1, .ref 0]) rfl rfl (fun _ => rfl) ?_
                refine pt_s (pc1 := 893) (st1 := [.int a4, .int a3, .int a2, .int a1, .ref 0]) rfl rfl (fun _ => rfl) ?_
                refine pt_s (pc1 := 894) (st1 := [.ref 164, .int a4, .int a3, .int a2, .int a1, .ref 0]) rfl rfl (fun _ => rfl) ?_
                refine pt_callv (N := pm_L_state) (as := [.ref 0, .int a1, .int a2, .int a3, .int a4, .ref 164]) (rest := []) (f := 2047) (l := 83974) (c1 := 1) (k1 := 6) (c2 := 599836) (k2 := 7274189) (v := some (.int 1)) (h1 := ph_1) rfl rfl (fun _ => rfl) ?_ (Nat.le_of_ble_eq_true rfl) (Nat.le_of_ble_eq_true rfl) ?_
                · exact pq_2 a1 a2 a3 a4 ha1 ha2 ha3 ha4
                show px_T _ _ _ _ (897, [(4, .int 0), (3, .ref 164), (2, .ref 136), (1, .ref 0), (0, .retAddr 0)], [.int 1], _) _ _ _
                refine pt_s (pc1 := 899) (lv1 := [(5, .int 1), (4, .int 0), (3, .ref 164), (2, .ref 136), (1, .ref 0), (0, .retAddr 0)]) (st1 := []) rfl rfl (fun _ => rfl) ?_
                refine pt_s (pc1 := 900) (st1 := [.ref 136]) rfl rfl (fun _ => rfl) ?_
                refine pt_s (pc1 := 901) (st1 := [.retAddr 0, .ref 136]) rfl rfl (fun _ => rfl) ?_
                refine pt_s (pc1 := 903) (st1 := [.int 0, .retAddr 0, .ref 136]) rfl rfl (fun _ => rfl) ?_
                refine pt_s (pc1 := 904) (st1 := [.int 1, .int 0, .retAddr 0, .ref 136]) rfl rfl (fun _ => rfl) ?_
                refine pt_s (pc1 := 905) (st1 := [.int 1, .retAddr 0, .ref 136]) rfl rfl (fun _ => rfl) ?_
                refine pt_s (pc1 := 906) (st1 := [.int a1, .ref 136]) rfl rfl (fun _ => rfl) ?_
                refine pt_s (pc1 := 907) (st1 := [.retAddr 0, .int a1, .ref 136]) rfl rfl (fun _ => rfl) ?_
                refine pt_s (pc1 := 909) (st1 := [.int 0, .retAddr 0, .int a1, .ref 136]) rfl rfl (fun _ => rfl) ?_
                refine pt_s (pc1 := 910) (st1 := [.int 2, .int 0, .retAddr 0, .int a1, .ref 136]) rfl rfl (fun _ => rfl) ?_
                refine pt_s (pc1 := 911) (st1 := [.int 2, .retAddr 0, .int a1, .ref 136]) rfl rfl (fun _ => rfl) ?_
                refine pt_s (pc1 := 912) (st1 := [.int a2, .int a1, .ref 136]) rfl rfl (fun _ => rfl) ?_
                refine pt_s (pc1 := 913) (st1 := [.retAddr 0, .int a2, .int a1, .ref 136]) rfl rfl (fun _ => rfl) ?_
                refine pt_s (pc1 := 915) (st1 := [.int 0, .retAddr 0, .int a2, .int a1, .ref 136]) rfl rfl (fun _ => rfl) ?_
                refine pt_s (pc1 := 916) (st1 := [.int 3, .int 0, .retAddr 0, .int a2, .int a1, .ref 136]) rfl rfl (fun _ => rfl) ?_
                refine pt_s (pc1 := 917) (st1 := [.int 3, .retAddr 0, .int a2, .int a1, .ref 136]) rfl rfl (fun _ => rfl) ?_
                refine pt_s (pc1 := 918) (st1 := [.int a3, .int a2, .int a1, .ref 136]) rfl rfl (fun _ => rfl) ?_
                refine pt_s (pc1 := 919) (st1 := [.retAddr 0, .int a3, .int a2, .int a1, .ref 136]) rfl rfl (fun _ => rfl) ?_
                refine pt_s (pc1 := 921) (st1 := [.int 0, .retAddr 0, .int a3, .int a2, .int a1, .ref 136]) rfl rfl (fun _ => rfl) ?_
                refine pt_s (pc1 := 922) (st1 := [.int 4, .int 0, .retAddr 0, .int a3, .int a2, .int a1, .ref 136]) rfl rfl (fun _ => rfl) ?_
                refine pt_s (pc1 := 923) (st1 := [.int 4, .retAddr 0, .int a3, .int a2, .int a1, .ref 136]) rfl rfl (fun _ => rfl) ?_
                refine pt_s (pc1 := 924) (st1 := [.int a4, .int a3, .int a2, .int a1, .ref 136]) rfl rfl (fun _ => rfl) ?_
                refine pt_callv (N := pm_X10_state) (as := [.ref 136, .int a1, .int a2, .int a3, .int a4]) (rest := []) (f := 2047) (l := 83974) (c1 := 0) (k1 := 0) (c2 := 599836) (k2 := 7274189) (v := some (.int 0)) (h1 := ph_2) rfl rfl (fun ex => px_inv_hs ex rfl rfl rfl pg_2 rfl rfl rfl rfl) ?_ (Nat.le_of_ble_eq_true rfl) (Nat.le_of_ble_eq_true rfl) ?_
                · exact pq_3 a1 a2 a3 a4 ha1 ha2 ha3 ha4
                show px_T _ _ _ _ (927, [(5, .int 1), (4, .int 0), (3, .ref 164), (2, .ref 136), (1, .ref 0), (0, .retAddr 0)], [.int 0], _) _ _ _
                refine pt_s (pc1 := 929) (lv1 := [(6, .int 0), (5, .int 1), (4, .int 0), (3, .ref 164), (2, .ref 136), (1, .ref 0), (0, .retAddr 0)]) (st1 := []) rfl rfl (fun _ => rfl) ?_
                refine pt_s (pc1 := 930) (st1 := [.ref 136]) rfl rfl (fun _ => rfl) ?_
                refine pt_callv (N := pm_X10_thrown) (as := [.ref 136]) (rest := []) (f := 2047) (l := 83980) (c1 := 0) (k1 := 0) (c2 := 599836) (k2 := 7274189) (v := some (.int 1)) (h1 := ph_2) rfl rfl (fun ex => px_inv_hs ex rfl rfl rfl pg_3 rfl rfl rfl rfl) ?_ (Nat.le_of_ble_eq_true rfl) (Nat.le_of_ble_eq_true rfl) ?_
                · refine px_C_of rfl ?_
                  refine pr_s (pc1 := 1) (st1 := [.ref 136]) rfl (fun _ => rfl) ?_
                  refine pr_getf (pc1 := 4) (v := .int 1) rfl rfl pg_3 rfl rfl ?_
                  exact pr_e rfl (fun _ => rfl) ⟨rfl, rfl⟩
                show px_T _ _ _ _ (933, [(6, .int 0), (5, .int 1), (4, .int 0), (3, .ref 164), (2, .ref 136), (1, .ref 0), (0, .retAddr 0)], [.int 1], _) _ _ _
                refine pt_s (pc1 := 935) (st1 := [.int 1, .int 1]) rfl rfl (fun _ => rfl) ?_
                refine pt_bt (t := 940) (off := 5) (bb := decide ((1 : Int32) = 1)) (st1 := []) rfl rfl rfl rfl rfl (by decide) ?_
                refine pt_s (pc1 := 942) (st1 := [.int 1]) rfl rfl (fun _ => rfl) ?_
                refine pt_bt (t := 957) (off := 15) (bb := !decide ((1 : Int32) = 0)) (st1 := []) rfl rfl rfl rfl rfl (px_not_t (by decide)) ?_
                refine pt_s (pc1 := 2771) (st1 := []) rfl rfl (fun _ => rfl) ?_
                refine pt_s (pc1 := 2774) (lv1 := [(4, .int 6), (6, .int 0), (5, .int 1), (3, .ref 164), (2, .ref 136), (1, .ref 0), (0, .retAddr 0)]) (st1 := []) rfl rfl (fun _ => rfl) ?_
                refine pt_s (pc1 := 23) (st1 := []) rfl rfl (fun _ => rfl) ?_
                refine pt_s (pc1 := 25) (st1 := [.int 6]) rfl rfl (fun _ => rfl) ?_
                refine pt_s (pc1 := 26) (st1 := [.retAddr 0, .int 6]) rfl rfl (fun _ => rfl) ?_
                refine pt_s (pc1 := 27) (st1 := [.int 6, .int 6]) rfl rfl (fun _ => rfl) ?_
                refine pt_s (pc1 := 29) (st1 := [.int 6, .int 6, .int 6]) rfl rfl (fun _ => rfl) ?_
                refine pt_s (pc1 := 30) (st1 := [.int 0, .int 6]) rfl rfl (fun _ => rfl) ?_
                refine pt_bt (t := 2777) (off := 2747) (bb := decide ((0 : Int32) < (6 : Int32))) (st1 := []) rfl rfl rfl rfl rfl (by decide) ?_
                refine pt_s (pc1 := 2778) (st1 := [.int 1]) rfl rfl (fun _ => rfl) ?_
                exact pt_e rfl ⟨rfl, (rfl : px_ins pm_law 2778 = some (.ireturn, 1))⟩
              · have ha4 : (-999) ≤ a4.toInt ∧ a4.toInt ≤ 2147483647 := ⟨by omega, ha4.2⟩
                by_cases hs : a4.toInt < 1000
                · have ha4 : (-999) ≤ a4.toInt ∧ a4.toInt ≤ 999 := ⟨ha4.1, by omega⟩
                  have hc : a1.toInt = 0 ∨ a1.toInt = 1 ∨ a1.toInt = 2 ∨ a1.toInt = 3 ∨ a1.toInt = 4 ∨ a1.toInt = 5 ∨ a1.toInt = 6 ∨ a1.toInt = 7 := by omega
                  clear ha1
                  rcases hc with hc | hc | hc | hc | hc | hc | hc | hc
                  · obtain rfl : a1 = 0 := Int32.toInt_inj.mp (hc.trans rfl)
                    refine pt_s (pc1 := 868) (st1 := []) rfl rfl (fun _ => rfl) ?_
                    refine pt_s (pc1 := 869) (st1 := [.ref 0]) rfl rfl (fun _ => rfl) ?_
                    refine pt_s (pc1 := 870) (st1 := [.retAddr 0, .ref 0]) rfl rfl (fun _ => rfl) ?_
                    refine pt_s (pc1 := 872) (st1 := [.int 0, .retAddr 0, .ref 0]) rfl rfl (fun _ => rfl) ?_
                    refine pt_s (pc1 := 873) (st1 := [.int 1, .int 0, .retAddr 0, .ref 0]) rfl rfl (fun _ => rfl) ?_
                    refine pt_s (pc1 := 874) (st1 := [.int 1, .retAddr 0, .ref 0]) rfl rfl (fun _ => rfl) ?_
                    refine pt_s (pc1 := 875) (st1 := [.int 0, .ref 0]) rfl rfl (fun _ => rfl) ?_
                    refine pt_s (pc1 := 876) (st1 := [.retAddr 0, .int 0, .ref 0]) rfl rfl (fun _ => rfl) ?_
                    refine pt_s (pc1 := 878) (st1 := [.int 0, .retAddr 0, .int 0, .ref 0]) rfl rfl (fun _ => rfl) ?_
                    refine pt_s (pc1 := 879) (st1 := [.int 2, .int 0, .retAddr 0, .int 0, .ref 0]) rfl rfl (fun _ => rfl) ?_
                    refine pt_s (pc1 := 880) (st1 := [.int 2, .retAddr 0, .int 0, .ref 0]) rfl rfl (fun _ => rfl) ?_
                    refine pt_s (pc1 := 881) (st1 := [.int a2, .int 0, .ref 0]) rfl rfl (fun _ => rfl) ?_
                    refine pt_s (pc1 := 882) (st1 := [.retAddr 0, .int a2, .int 0, .ref 0]) rfl rfl (fun _ => rfl) ?_
                    refine pt_s (pc1 := 884) (st1 := [.int 0, .retAddr 0, .int a2, .int 0, .ref 0]) rfl rfl (fun _ => rfl) ?_
                    refine pt_s (pc1 := 885) (st1 := [.int 3, .int 0, .retAddr 0, .int a2, .int 0, .ref 0]) rfl rfl (fun _ => rfl) ?_
                    refine pt_s (pc1 := 886) (st1 := [.int 3, .retAddr 0, .int a2, .int 0, .ref 0]) rfl rfl (fun _ => rfl) ?_
                    refine pt_s (pc1 := 887) (st1 := [.int a3, .int a2, .int 0, .ref 0]) rfl rfl (fun _ => rfl) ?_
                    refine pt_s (pc1 := 888) (st1 := [.retAddr 0, .int a3, .int a2, .int 0, .ref 0]) rfl rfl (fun _ => rfl) ?_
                    refine pt_s (pc1 := 890) (st1 := [.int 0, .retAddr 0, .int a3, .int a2, .int 0, .ref 0]) rfl rfl (fun _ => rfl) ?_
                    refine pt_s (pc1 := 891) (st1 := [.int 4, .int 0, .retAddr 0, .int a3, .int a2, .int 0, .ref 0]) rfl rfl (fun _ => rfl) ?_
                    refine pt_s (pc1 := 892) (st1 := [.int 4, .retAddr 0, .int a3, .int a2, .int 0, .ref 0]) rfl rfl (fun _ => rfl) ?_
                    refine pt_s (pc1 := 893) (st1 := [.int a4, .int a3, .int a2, .int 0, .ref 0]) rfl rfl (fun _ => rfl) ?_
                    refine pt_s (pc1 := 894) (st1 := [.ref 164, .int a4, .int a3, .int a2, .int 0, .ref 0]) rfl rfl (fun _ => rfl) ?_
                    refine pt_callv (N := pm_L_state) (as := [.ref 0, .int 0, .int a2, .int a3, .int a4, .ref 164]) (rest := []) (f := 2047) (l := 83974) (c1 := 0) (k1 := 0) (c2 := 599837) (k2 := 7274195) (v := some (.int 0)) (h1 := ph_26 a2 a3 a4) rfl rfl (fun _ => rfl) ?_ (Nat.le_of_ble_eq_true rfl) (Nat.le_of_ble_eq_true rfl) ?_
                    · refine px_C_of rfl ?_
                      refine pr_s (pc1 := 2) (st1 := [.ref 164]) rfl (fun _ => rfl) ?_
                      refine pr_s (pc1 := 3) (st1 := [.int 0, .ref 164]) rfl (fun _ => rfl) ?_
                      refine pr_s (pc1 := 4) (st1 := [.ref 0, .int 0, .ref 164]) rfl (fun _ => rfl) ?_
                      refine pr_s (pc1 := 5) (st1 := [.int 0, .ref 0, .int 0, .ref 164]) rfl (fun _ => rfl) ?_
                      refine pr_s (pc1 := 6) (st1 := [.int a2, .int 0, .ref 0, .int 0, .ref 164]) rfl (fun _ => rfl) ?_
                      refine pr_s (pc1 := 7) (st1 := [.int a3, .int a2, .int 0, .ref 0, .int 0, .ref 164]) rfl (fun _ => rfl) ?_
                      refine pr_s (pc1 := 9) (st1 := [.int a4, .int a3, .int a2, .int 0, .ref 0, .int 0, .ref 164]) rfl (fun _ => rfl) ?_
                      refine pr_callv (N := pm_X6_state) (as := [.ref 0, .int 0, .int a2, .int a3, .int a4]) (rest := [.int 0, .ref 164]) (f := 2046) (l := 83949) (c1 := 0) (k1 := 0) (c2 := 0) (k2 := 0) (v := some (.int 0)) (h1 := ph_25 a2 a3 a4) rfl (fun ex => px_inv_hs ex rfl rfl rfl pg_0 rfl rfl rfl rfl) ?_ (Nat.le_of_ble_eq_true rfl) (Nat.le_of_ble_eq_true rfl) ?_
                      · exact pq_9 a2 a3 a4 ha2 ha3 ha4
                      show px_R _ _ _ _ (12, [(0, .ref 0), (1, .int 0), (2, .int a2), (3, .int a3), (4, .int a4), (5, .ref 164)], [.int 0, .int 0, .ref 164], _) _ _ _
                      refine pr_s (pc1 := 13) (st1 := [.long 0, .int 0, .ref 164]) rfl (fun _ => rfl) ?_
                      refine pr_last (pc1 := 14) (h1 := ph_26 a2 a3 a4) rfl (pg_64 a2 a3 a4) rfl rfl rfl ?_
                      refine pr_s (pc1 := 25) (st1 := []) rfl (fun _ => rfl) ?_
                      refine pr_s (pc1 := 26) (st1 := [.int 0]) rfl (fun _ => rfl) ?_
                      exact pr_e rfl (fun _ => rfl) ⟨rfl, rfl⟩
                    show px_T _ _ _ _ (897, [(4, .int 0), (3, .ref 164), (2, .ref 136), (1, .ref 0), (0, .retAddr 0)], [.int 0], _) _ _ _
                    refine pt_s (pc1 := 899) (lv1 := [(5, .int 0), (4, .int 0), (3, .ref 164), (2, .ref 136), (1, .ref 0), (0, .retAddr 0)]) (st1 := []) rfl rfl (fun _ => rfl) ?_
                    refine pt_s (pc1 := 900) (st1 := [.ref 136]) rfl rfl (fun _ => rfl) ?_
                    refine pt_s (pc1 := 901) (st1 := [.retAddr 0, .ref 136]) rfl rfl (fun _ => rfl) ?_
                    refine pt_s (pc1 := 903) (st1 := [.int 0, .retAddr 0, .ref 136]) rfl rfl (fun _ => rfl) ?_
                    refine pt_s (pc1 := 904) (st1 := [.int 1, .int 0, .retAddr 0, .ref 136]) rfl rfl (fun _ => rfl) ?_
                    refine pt_s (pc1 := 905) (st1 := [.int 1, .retAddr 0, .ref 136]) rfl rfl (fun _ => rfl) ?_
                    refine pt_s (pc1 := 906) (st1 := [.int 0, .ref 136]) rfl rfl (fun _ => rfl) ?_
                    refine pt_s (pc1 := 907) (st1 := [.retAddr 0, .int 0, .ref 136]) rfl rfl (fun _ => rfl) ?_
                    refine pt_s (pc1 := 909) (st1 := [.int 0, .retAddr 0, .int 0, .ref 136]) rfl rfl (fun _ => rfl) ?_
                    refine pt_s (pc1 := 910) (st1 := [.int 2, .int 0, .retAddr 0, .int 0, .ref 136]) rfl rfl (fun _ => rfl) ?_
                    refine pt_s (pc1 := 911) (st1 := [.int 2, .retAddr 0, .int 0, .ref 136]) rfl rfl (fun _ => rfl) ?_
                    refine pt_s (pc1 := 912) (st1 := [.int a2, .int 0, .ref 136]) rfl rfl (fun _ => rfl) ?_
                    refine pt_s (pc1 := 913) (st1 := [.retAddr 0, .int a2, .int 0, .ref 136]) rfl rfl (fun _ => rfl) ?_
                    refine pt_s (pc1 := 915) (st1 := [.int 0, .retAddr 0, .int a2, .int 0, .ref 136]) rfl rfl (fun _ => rfl) ?_
                    refine pt_s (pc1 := 916) (st1 := [.int 3, .int 0, .retAddr 0, .int a2, .int 0, .ref 136]) rfl rfl (fun _ => rfl) ?_
                    refine pt_s (pc1 := 917) (st1 := [.int 3, .retAddr 0, .int a2, .int 0, .ref 136]) rfl rfl (fun _ => rfl) ?_
                    refine pt_s (pc1 := 918) (st1 := [.int a3, .int a2, .int 0, .ref 136]) rfl rfl (fun _ => rfl) ?_
                    refine pt_s (pc1 := 919) (st1 := [.retAddr 0, .int a3, .int a2, .int 0, .ref 136]) rfl rfl (fun _ => rfl) ?_
                    refine pt_s (pc1 := 921) (st1 := [.int 0, .retAddr 0, .int a3, .int a2, .int 0, .ref 136]) rfl rfl (fun _ => rfl) ?_
                    refine pt_s (pc1 := 922) (st1 := [.int 4, .int 0, .retAddr 0, .int a3, .int a2, .int 0, .ref 136]) rfl rfl (fun _ => rfl) ?_
                    refine pt_s (pc1 := 923) (st1 := [.int 4, .retAddr 0, .int a3, .int a2, .int 0, .ref 136]) rfl rfl (fun _ => rfl) ?_
                    refine pt_s (pc1 := 924) (st1 := [.int a4, .int a3, .int a2, .int 0, .ref 136]) rfl rfl (fun _ => rfl) ?_
                    refine pt_callv (N := pm_X10_state) (as := [.ref 136, .int 0, .int a2, .int a3, .int a4]) (rest := []) (f := 2047) (l := 83974) (c1 := 1) (k1 := 6) (c2 := 599836) (k2 := 7274189) (v := some (.int 0)) (h1 := ph_37 a2 a3 a4) rfl rfl (fun ex => px_inv_hs ex rfl rfl rfl (pg_65 a2 a3 a4) rfl rfl rfl rfl) ?_ (Nat.le_of_ble_eq_true rfl) (Nat.le_of_ble_eq_true rfl) ?_
                    · exact pq_12 a2 a3 a4 ha2 ha3 ha4
                    show px_T _ _ _ _ (927, [(5, .int 0), (4, .int 0), (3, .ref 164), (2, .ref 136), (1, .ref 0), (0, .retAddr 0)], [.int 0], _) _ _ _
                    refine pt_s (pc1 := 929) (lv1 := [(6, .int 0), (5, .int 0), (4, .int 0), (3, .ref 164), (2, .ref 136), (1, .ref 0), (0, .retAddr 0)]) (st1 := []) rfl rfl (fun _ => rfl) ?_
                    refine pt_s (pc1 := 930) (st1 := [.ref 136]) rfl rfl (fun _ => rfl) ?_
                    refine pt_callv (N := pm_X10_thrown) (as := [.ref 136]) (rest := []) (f := 2047) (l := 83980) (c1 := 0) (k1 := 0) (c2 := 599836) (k2 := 7274189) (v := some (.int 0)) (h1 := ph_37 a2 a3 a4) rfl rfl (fun ex => px_inv_hs ex rfl rfl rfl (pg_98 a2 a3 a4) rfl rfl rfl rfl) ?_ (Nat.le_of_ble_eq_true rfl) (Nat.le_of_ble_eq_true rfl) ?_
                    · refine px_C_of rfl ?_
                      refine pr_s (pc1 := 1) (st1 := [.ref 136]) rfl (fun _ => rfl) ?_
                      refine pr_getf (pc1 := 4) (v := .int 0) rfl rfl (pg_98 a2 a3 a4) rfl rfl ?_
                      exact pr_e rfl (fun _ => rfl) ⟨rfl, rfl⟩
                    show px_T _ _ _ _ (933, [(6, .int 0), (5, .int 0), (4, .int 0), (3, .ref 164), (2, .ref 136), (1, .ref 0), (0, .retAddr 0)], [.int 0], _) _ _ _
                    refine pt_s (pc1 := 935) (st1 := [.int 0, .int 0]) rfl rfl (fun _ => rfl) ?_
                    refine pt_bt (t := 940) (off := 5) (bb := decide ((0 : Int32) = 0)) (st1 := []) rfl rfl rfl rfl rfl (by decide) ?_
                    refine pt_s (pc1 := 942) (st1 := [.int 0]) rfl rfl (fun _ => rfl) ?_
                    refine pt_bf (t := 957) (off := 15) (bb := !decide ((0 : Int32) = 0)) (st1 := []) rfl rfl rfl rfl rfl (px_not_f (by decide)) ?_
                    refine pt_s (pc1 := 946) (st1 := [.ref 164]) rfl rfl (fun _ => rfl) ?_
                    refine pt_s (pc1 := 947) (st1 := [.int 0, .ref 164]) rfl rfl (fun _ => rfl) ?_
                    refine pt_lald (pc1 := 948) (x := 0) rfl (pg_99 a2 a3 a4) rfl rfl rfl ?_
                    refine pt_s (pc1 := 950) (st1 := [.int 0, .long 0]) rfl rfl (fun _ => rfl) ?_
                    refine pt_s (pc1 := 951) (st1 := [.long 0, .long 0]) rfl rfl (fun _ => rfl) ?_
                    refine pt_s (pc1 := 952) (st1 := [.int 0]) rfl rfl (fun _ => rfl) ?_
                    refine pt_bt (t := 957) (off := 5) (bb := decide ((0 : Int32) = 0)) (st1 := []) rfl rfl rfl rfl rfl (by decide) ?_
                    refine pt_s (pc1 := 2771) (st1 := []) rfl rfl (fun _ => rfl) ?_
                    refine pt_s (pc1 := 2774) (lv1 := [(4, .int 6), (6, .int 0), (5, .int 0), (3, .ref 164), (2, .ref 136), (1, .ref 0), (0, .retAddr 0)]) (st1 := []) rfl rfl (fun _ => rfl) ?_
                    refine pt_s (pc1 := 23) (st1 := []) rfl rfl (fun _ => rfl) ?_
                    refine pt_s (pc1 := 25) (st1 := [.int 6]) rfl rfl (fun _ => rfl) ?_
                    refine pt_s (pc1 := 26) (st1 := [.retAddr 0, .int 6]) rfl rfl (fun _ => rfl) ?_
                    refine pt_s (pc1 := 27) (st1 := [.int 6, .int 6]) rfl rfl (fun _ => rfl) ?_
                    refine pt_s (pc1 := 29) (st1 := [.int 6, .int 6, .int 6]) rfl rfl (fun _ => rfl) ?_
                    refine pt_s (pc1 := 30) (st1 := [.int 0, .int 6]) rfl rfl (fun _ => rfl) ?_
                    refine pt_bt (t := 2777) (off := 2747) (bb := decide ((0 : Int32) < (6 : Int32))) (st1 := []) rfl rfl rfl rfl rfl (by decide) ?_
                    refine pt_s (pc1 := 2778) (st1 := [.int 1]) rfl rfl (fun _ => rfl) ?_
                    exact pt_e rfl ⟨rfl, (rfl : px_ins pm_law 2778 = some (.ireturn, 1))⟩
                  · obtain rfl : a1 = 1 := Int32.toInt_inj.mp (hc.trans rfl)
                    refine pt_s (pc1 := 868) (st1 := []) rfl rfl (fun _ => rfl) ?_
                    refine pt_s (pc1 := 869) (st1 := [.ref 0]) rfl rfl (fun _ => rfl) ?_
                    refine pt_s (pc1 := 870) (st1 := [.retAddr 0, .ref 0]) rfl rfl (fun _ => rfl) ?_
                    refine pt_s (pc1 := 872) (st1 := [.int 0, .retAddr 0, .ref 0]) rfl rfl (fun _ => rfl) ?_
                    refine pt_s (pc1 := 873) (st1 := [.int 1, .int 0, .retAddr 0, .ref 0]) rfl rfl (fun _ => rfl) ?_
                    refine pt_s (pc1 := 874) (st1 := [.int 1, .retAddr 0, .ref 0]) rfl rfl (fun _ => rfl) ?_
                    refine pt_s (pc1 := 875) (st1 := [.int 1, .ref 0]) rfl rfl (fun _ => rfl) ?_
                    refine pt_s (pc1 := 876) (st1 := [.retAddr 0, .int 1, .ref 0]) rfl rfl (fun _ => rfl) ?_
                    refine pt_s (pc1 := 878) (st1 := [.int 0, .retAddr 0, .int 1, .ref 0]) rfl rfl (fun _ => rfl) ?_
                    refine pt_s (pc1 := 879) (st1 := [.int 2, .int 0, .retAddr 0, .int 1, .ref 0]) rfl rfl (fun _ => rfl) ?_
                    refine pt_s (pc1 := 880) (st1 := [.int 2, .retAddr 0, .int 1, .ref 0]) rfl rfl (fun _ => rfl) ?_
                    refine pt_s (pc1 := 881) (st1 := [.int a2, .int 1, .ref 0]) rfl rfl (fun _ => rfl) ?_
                    refine pt_s (pc1 := 882) (st1 := [.retAddr 0, .int a2, .int 1, .ref 0]) rfl rfl (fun _ => rfl) ?_
                    refine pt_s (pc1 := 884) (st1 := [.int 0, .retAddr 0, .int a2, .int 1, .ref 0]) rfl rfl (fun _ => rfl) ?_
                    refine pt_s (pc1 := 885) (st1 := [.int 3, .int 0, .retAddr 0, .int a2, .int 1, .ref 0]) rfl rfl (fun _ => rfl) ?_
                    refine pt_s (pc1 := 886) (st1 := [.int 3, .retAddr 0, .int a2, .int 1, .ref 0]) rfl rfl (fun _ => rfl) ?_
                    refine pt_s (pc1 := 887) (st1 := [.int a3, .int a2, .int 1, .ref 0]) rfl rfl (fun _ => rfl) ?_
                    refine pt_s (pc1 := 888) (st1 := [.retAddr 0, .int a3, .int a2, .int 1, .ref 0]) rfl rfl (fun _ => rfl) ?_
                    refine pt_s (pc1 := 890) (st1 := [.int 0, .retAddr 0, .int a3, .int a2, .int 1, .ref 0]) rfl rfl (fun _ => rfl) ?_
                    refine pt_s (pc1 := 891) (st1 := [.int 4, .int 0, .retAddr 0, .int a3, .int a2, .int 1, .ref 0]) rfl rfl (fun _ => rfl) ?_
                    refine pt_s (pc1 := 892) (st1 := [.int 4, .retAddr 0, .int a3, .int a2, .int 1, .ref 0]) rfl rfl (fun _ => rfl) ?_
                    refine pt_s (pc1 := 893) (st1 := [.int a4, .int a3, .int a2, .int 1, .ref 0]) rfl rfl (fun _ => rfl) ?_
                    refine pt_s (pc1 := 894) (st1 := [.ref 164, .int a4, .int a3, .int a2, .int 1, .ref 0]) rfl rfl (fun _ => rfl) ?_
                    refine pt_callv (N := pm_L_state) (as := [.ref 0, .int 1, .int a2, .int a3, .int a4, .ref 164]) (rest := []) (f := 2047) (l := 83974) (c1 := 0) (k1 := 0) (c2 := 599837) (k2 := 7274195) (v := some (.int 0)) (h1 := ph_48 a2 a3 a4) rfl rfl (fun _ => rfl) ?_ (Nat.le_of_ble_eq_true rfl) (Nat.le_of_ble_eq_true rfl) ?_
                    · refine px_C_of rfl ?_
                      refine pr_s (pc1 := 2) (st1 := [.ref 164]) rfl (fun _ => rfl) ?_
                      refine pr_s (pc1 := 3) (st1 := [.int 0, .ref 164]) rfl (fun _ => rfl) ?_
                      refine pr_s (pc1 := 4) (st1 := [.ref 0, .int 0, .ref 164]) rfl (fun _ => rfl) ?_
                      refine pr_s (pc1 := 5) (st1 := [.int 1, .ref 0, .int 0, .ref 164]) rfl (fun _ => rfl) ?_
                      refine pr_s (pc1 := 6) (st1 := [.int a2, .int 1, .ref 0, .int 0, .ref 164]) rfl (fun _ => rfl) ?_
                      refine pr_s (pc1 := 7) (st1 := [.int a3, .int a2, .int 1, .ref 0, .int 0, .ref 164]) rfl (fun _ => rfl) ?_
                      refine pr_s (pc1 := 9) (st1 := [.int a4, .int a3, .int a2, .int 1, .ref 0, .int 0, .ref 164]) rfl (fun _ => rfl) ?_
                      refine pr_callv (N := pm_X6_state) (as := [.ref 0, .int 1, .int a2, .int a3, .int a4]) (rest := [.int 0, .ref 164]) (f := 2046) (l := 83949) (c1 := 0) (k1 := 0) (c2 := 0) (k2 := 0) (v := some (.int 0)) (h1 := ph_47 a2 a3 a4) rfl (fun ex => px_inv_hs ex rfl rfl rfl pg_0 rfl rfl rfl rfl) ?_ (Nat.le_of_ble_eq_true rfl) (Nat.le_of_ble_eq_true rfl) ?_
                      · exact pq_18 a2 a3 a4 ha2 ha3 ha4
                      show px_R _ _ _ _ (12, [(0, .ref 0), (1, .int 1), (2, .int a2), (3, .int a3), (4, .int a4), (5, .ref 164)], [.int 0, .int 0, .ref 164], _) _ _ _
                      refine pr_s (pc1 := 13) (st1 := [.long 0, .int 0, .ref 164]) rfl (fun _ => rfl) ?_
                      refine pr_last (pc1 := 14) (h1 := ph_48 a2 a3 a4) rfl (pg_130 a2 a3 a4) rfl rfl rfl ?_
                      refine pr_s (pc1 := 25) (st1 := []) rfl (fun _ => rfl) ?_
                      refine pr_s (pc1 := 26) (st1 := [.int 0]) rfl (fun _ => rfl) ?_
                      exact pr_e rfl (fun _ => rfl) ⟨rfl, rfl⟩
                    show px_T _ _ _ _ (897, [(4, .int 0), (3, .ref 164), (2, .ref 136), (1, .ref 0), (0, .retAddr 0)], [.int 0], _) _ _ _
                    refine pt_s (pc1 := 899) (lv1 := [(5, .int 0), (4, .int 0), (3, .ref 164), (2, .ref 136), (1, .ref 0), (0, .retAddr 0)]) (st1 := []) rfl rfl (fun _ => rfl) ?_
                    refine pt_s (pc1 := 900) (st1 := [.ref 136]) rfl rfl (fun _ => rfl) ?_
                    refine pt_s (pc1 := 901) (st1 := [.retAddr 0, .ref 136]) rfl rfl (fun _ => rfl) ?_
                    refine pt_s (pc1 := 903) (st1 := [.int 0, .retAddr 0, .ref 136]) rfl rfl (fun _ => rfl) ?_
                    refine pt_s (pc1 := 904) (st1 := [.int 1, .int 0, .retAddr 0, .ref 136]) rfl rfl (fun _ => rfl) ?_
                    refine pt_s (pc1 := 905) (st1 := [.int 1, .retAddr 0, .ref 136]) rfl rfl (fun _ => rfl) ?_
                    refine pt_s (pc1 := 906) (st1 := [.int 1, .ref 136]) rfl rfl (fun _ => rfl) ?_
                    refine pt_s (pc1 := 907) (st1 := [.retAddr 0, .int 1, .ref 136]) rfl rfl (fun _ => rfl) ?_
                    refine pt_s (pc1 := 909) (st1 := [.int 0, .retAddr 0, .int 1, .ref 136]) rfl rfl (fun _ => rfl) ?_
                    refine pt_s (pc1 := 910) (st1 := [.int 2, .int 0, .retAddr 0, .int 1, .ref 136]) rfl rfl (fun _ => rfl) ?_
                    refine pt_s (pc1 := 911) (st1 := [.int 2, .retAddr 0, .int 1, .ref 136]) rfl rfl (fun _ => rfl) ?_
                    refine pt_s (pc1 := 912) (st1 := [.int a2, .int 1, .ref 136]) rfl rfl (fun _ => rfl) ?_
                    refine pt_s (pc1 := 913) (st1 := [.retAddr 0, .int a2, .int 1, .ref 136]) rfl rfl (fun _ => rfl) ?_
                    refine pt_s (pc1 := 915) (st1 := [.int 0, .retAddr 0, .int a2, .int 1, .ref 136]) rfl rfl (fun _ => rfl) ?_
                    refine pt_s (pc1 := 916) (st1 := [.int 3, .int 0, .retAddr 0, .int a2, .int 1, .ref 136]) rfl rfl (fun _ => rfl) ?_
                    refine pt_s (pc1 := 917) (st1 := [.int 3, .retAddr 0, .int a2, .int 1, .ref 136]) rfl rfl (fun _ => rfl) ?_
                    refine pt_s (pc1 := 918) (st1 := [.int a3, .int a2, .int 1, .ref 136]) rfl rfl (fun _ => rfl) ?_
                    refine pt_s (pc1 := 919) (st1 := [.retAddr 0, .int a3, .int a2, .int 1, .ref 136]) rfl rfl (fun _ => rfl) ?_
                    refine pt_s (pc1 := 921) (st1 := [.int 0, .retAddr 0, .int a3, .int a2, .int 1, .ref 136]) rfl rfl (fun _ => rfl) ?_
                    refine pt_s (pc1 := 922) (st1 := [.int 4, .int 0, .retAddr 0, .int a3, .int a2, .int 1, .ref 136]) rfl rfl (fun _ => rfl) ?_
                    refine pt_s (pc1 := 923) (st1 := [.int 4, .retAddr 0, .int a3, .int a2, .int 1, .ref 136]) rfl rfl (fun _ => rfl) ?_
                    refine pt_s (pc1 := 924) (st1 := [.int a4, .int a3, .int a2, .int 1, .ref 136]) rfl rfl (fun _ => rfl) ?_
                    refine pt_callv (N := pm_X10_state) (as := [.ref 136, .int 1, .int a2, .int a3, .int a4]) (rest := []) (f := 2047) (l := 83974) (c1 := 1) (k1 := 6) (c2 := 599836) (k2 := 7274189) (v := some (.int 0)) (h1 := ph_59 a2 a3 a4) rfl rfl (fun ex => px_inv_hs ex rfl rfl rfl (pg_131 a2 a3 a4) rfl rfl rfl rfl) ?_ (Nat.le_of_ble_eq_true rfl) (Nat.le_of_ble_eq_true rfl) ?_
                    · exact pq_21 a2 a3 a4 ha2 ha3 ha4
                    show px_T _ _ _ _ (927, [(5, .int 0), (4, .int 0), (3, .ref 164), (2, .ref 136), (1, .ref 0), (0, .retAddr 0)], [.int 0], _) _ _ _
                    refine pt_s (pc1 := 929) (lv1 := [(6, .int 0), (5, .int 0), (4, .int 0), (3, .ref 164), (2, .ref 136), (1, .ref 0), (0, .retAddr 0)]) (st1 := []) rfl rfl (fun _ => rfl) ?_
                    refine pt_s (pc1 := 930) (st1 := [.ref 136]) rfl rfl (fun _ => rfl) ?_
                    refine pt_callv (N := pm_X10_thrown) (as := [.ref 136]) (rest := []) (f := 2047) (l := 83980) (c1 := 0) (k1 := 0) (c2 := 599836) (k2 := 7274189) (v := some (.int 0)) (h1 := ph_59 a2 a3 a4) rfl rfl (fun ex => px_inv_hs ex rfl rfl rfl (pg_156 a2 a3 a4) rfl rfl rfl rfl) ?_ (Nat.le_of_ble_eq_true rfl) (Nat.le_of_ble_eq_true rfl) ?_
                    · refine px_C_of rfl ?_
                      refine pr_s (pc1 := 1) (st1 := [.ref 136]) rfl (fun _ => rfl) ?_
                      refine pr_getf (pc1 := 4) (v := .int 0) rfl rfl (pg_156 a2 a3 a4) rfl rfl ?_
                      exact pr_e rfl (fun _ => rfl) ⟨rfl, rfl⟩
                    show px_T _ _ _ _ (933, [(6, .int 0), (5, .int 0), (4, .int 0), (3, .ref 164), (2, .ref 136), (1, .ref 0), (0, .retAddr 0)], [.int 0], _) _ _ _
                    refine pt_s (pc1 := 935) (st1 := [.int 0, .int 0]) rfl rfl (fun _ => rfl) ?_
                    refine pt_bt (t := 940) (off := 5) (bb := decide ((0 : Int32) = 0)) (st1 := []) rfl rfl rfl rfl rfl (by decide) ?_
                    refine pt_s (pc1 := 942) (st1 := [.int 0]) rfl rfl (fun _ => rfl) ?_
                    refine pt_bf (t := 957) (off := 15) (bb := !decide ((0 : Int32) = 0)) (st1 := []) rfl rfl rfl rfl rfl (px_not_f (by decide)) ?_
                    refine pt_s (pc1 := 946) (st1 := [.ref 164]) rfl rfl (fun _ => rfl) ?_
                    refine pt_s (pc1 := 947) (st1 := [.int 0, .ref 164]) rfl rfl (fun _ => rfl) ?_
                    refine pt_lald (pc1 := 948) (x := 0) rfl (pg_157 a2 a3 a4) rfl rfl rfl ?_
                    refine pt_s (pc1 := 950) (st1 := [.int 0, .long 0]) rfl rfl (fun _ => rfl) ?_
                    refine pt_s (pc1 := 951) (st1 := [.long 0, .long 0]) rfl rfl (fun _ => rfl) ?_
                    refine pt_s (pc1 := 952) (st1 := [.int 0]) rfl rfl (fun _ => rfl) ?_
                    refine pt_bt (t := 957) (off := 5) (bb := decide ((0 : Int32) = 0)) (st1 := []) rfl rfl rfl rfl rfl (by decide) ?_
                    refine pt_s (pc1 := 2771) (st1 := []) rfl rfl (fun _ => rfl) ?_
                    refine pt_s (pc1 := 2774) (lv1 := [(4, .int 6), (6, .int 0), (5, .int 0), (3, .ref 164), (2, .ref 136), (1, .ref 0), (0, .retAddr 0)]) (st1 := []) rfl rfl (fun _ => rfl) ?_
                    refine pt_s (pc1 := 23) (st1 := []) rfl rfl (fun _ => rfl) ?_
                    refine pt_s (pc1 := 25) (st1 := [.int 6]) rfl rfl (fun _ => rfl) ?_
                    refine pt_s (pc1 := 26) (st1 := [.retAddr 0, .int 6]) rfl rfl (fun _ => rfl) ?_
                    refine pt_s (pc1 := 27) (st1 := [.int 6, .int 6]) rfl rfl (fun _ => rfl) ?_
                    refine pt_s (pc1 := 29) (st1 := [.int 6, .int 6, .int 6]) rfl rfl (fun _ => rfl) ?_
                    refine pt_s (pc1 := 30) (st1 := [.int 0, .int 6]) rfl rfl (fun _ => rfl) ?_
                    refine pt_bt (t := 2777) (off := 2747) (bb := decide ((0 : Int32) < (6 : Int32))) (st1 := []) rfl rfl rfl rfl rfl (by decide) ?_
                    refine pt_s (pc1 := 2778) (st1 := [.int 1]) rfl rfl (fun _ => rfl) ?_
                    exact pt_e rfl ⟨rfl, (rfl : px_ins pm_law 2778 = some (.ireturn, 1))⟩
                  · obtain rfl : a1 = 2 := Int32.toInt_inj.mp (hc.trans rfl)
                    refine pt_s (pc1 := 868) (st1 := []) rfl rfl (fun _ => rfl) ?_
                    refine pt_s (pc1 := 869) (st1 := [.ref 0]) rfl rfl (fun _ => rfl) ?_
                    refine pt_s (pc1 := 870) (st1 := [.retAddr 0, .ref 0]) rfl rfl (fun _ => rfl) ?_
                    refine pt_s (pc1 := 872) (st1 := [.int 0, .retAddr 0, .ref 0]) rfl rfl (fun _ => rfl) ?_
                    refine pt_s (pc1 := 873) (st1 := [.int 1, .int 0, .retAddr 0, .ref 0]) rfl rfl (fun _ => rfl) ?_
                    refine pt_s (pc1 := 874) (st1 := [.int 1, .retAddr 0, .ref 0]) rfl rfl (fun _ => rfl) ?_
                    refine pt_s (pc1 := 875) (st1 := [.int 2, .ref 0]) rfl rfl (fun _ => rfl) ?_
                    refine pt_s (pc1 := 876) (st1 := [.retAddr 0, .int 2, .ref 0]) rfl rfl (fun _ => rfl) ?_
                    refine pt_s (pc1 := 878) (st1 := [.int 0, .retAddr 0, .int 2, .ref 0]) rfl rfl (fun _ => rfl) ?_
                    refine pt_s (pc1 := 879) (st1 := [.int 2, .int 0, .retAddr 0, .int 2, .ref 0]) rfl rfl (fun _ => rfl) ?_
                    refine pt_s (pc1 := 880) (st1 := [.int 2, .retAddr 0, .int 2, .ref 0]) rfl rfl (fun _ => rfl) ?_
                    refine pt_s (pc1 := 881) (st1 := [.int a2, .int 2, .ref 0]) rfl rfl (fun _ => rfl) ?_
                    refine pt_s (pc1 := 882) (st1 := [.retAddr 0, .int a2, .int 2, .ref 0]) rfl rfl (fun _ => rfl) ?_
                    refine pt_s (pc1 := 884) (st1 := [.int 0, .retAddr 0, .int a2, .int 2, .ref 0]) rfl rfl (fun _ => rfl) ?_
                    refine pt_s (pc1 := 885) (st1 := [.int 3, .int 0, .retAddr 0, .int a2, .int 2, .ref 0]) rfl rfl (fun _ => rfl) ?_
                    refine pt_s (pc1 := 886) (st1 := [.int 3, .retAddr 0, .int a2, .int 2, .ref 0]) rfl rfl (fun _ => rfl) ?_
                    refine pt_s (pc1 := 887) (st1 := [.int a3, .int a2, .int 2, .ref 0]) rfl rfl (fun _ => rfl) ?_
                    refine pt_s (pc1 := 888) (st1 := [.retAddr 0, .int a3, .int a2, .int 2, .ref 0]) rfl rfl (fun _ => rfl) ?_
                    refine pt_s (pc1 := 890) (st1 := [.int 0, .retAddr 0, .int a3, .int a2, .int 2, .ref 0]) rfl rfl (fun _ => rfl) ?_
                    refine pt_s (pc1 := 891) (st1 := [.int 4, .int 0, .retAddr 0, .int a3, .int a2, .int 2, .ref 0]) rfl rfl (fun _ => rfl) ?_
                    refine pt_s (pc1 := 892) (st1 := [.int 4, .retAddr 0, .int a3, .int a2, .int 2, .ref 0]) rfl rfl (fun _ => rfl) ?_
                    refine pt_s (pc1 := 893) (st1 := [.int a4, .int a3, .int a2, .int 2, .ref 0]) rfl rfl (fun _ => rfl) ?_
                    refine pt_s (pc1 := 894) (st1 := [.ref 164, .int a4, .int a3, .int a2, .int 2, .ref 0]) rfl rfl (fun _ => rfl) ?_
                    refine pt_callv (N := pm_L_state) (as := [.ref 0, .int 2, .int a2, .int a3, .int a4, .ref 164]) (rest := []) (f := 2047) (l := 83974) (c1 := 0) (k1 := 0) (c2 := 599837) (k2 := 7274195) (v := some (.int 0)) (h1 := ph_70 a2 a3 a4) rfl rfl (fun _ => rfl) ?_ (Nat.le_of_ble_eq_true rfl) (Nat.le_of_ble_eq_true rfl) ?_
                    · refine px_C_of rfl ?_
                      refine pr_s (pc1 := 2) (st1 := [.ref 164]) rfl (fun _ => rfl) ?_
                      refine pr_s (pc1 := 3) (st1 := [.int 0, .ref 164]) rfl (fun _ => rfl) ?_
                      refine pr_s (pc1 := 4) (st1 := [.ref 0, .int 0, .ref 164]) rfl (fun _ => rfl) ?_
                      refine pr_s (pc1 := 5) (st1 := [.int 2, .ref 0, .int 0, .ref 164]) rfl (fun _ => rfl) ?_
                      refine pr_s (pc1 := 6) (st1 := [.int a2, .int 2, .ref 0, .int 0, .ref 164]) rfl (fun _ => rfl) ?_
                      refine pr_s (pc1 := 7) (st1 := [.int a3, .int a2, .int 2, .ref 0, .int 0, .ref 164]) rfl (fun _ => rfl) ?_
                      refine pr_s (pc1 := 9) (st1 := [.int a4, .int a3, .int a2, .int 2, .ref 0, .int 0, .ref 164]) rfl (fun _ => rfl) ?_
                      refine pr_callv (N := pm_X6_state) (as := [.ref 0, .int 2, .int a2, .int a3, .int a4]) (rest := [.int 0, .ref 164]) (f := 2046) (l := 83949) (c1 := 0) (k1 := 0) (c2 := 0) (k2 := 0) (v := some (.int 0)) (h1 := ph_69 a2 a3 a4) rfl (fun ex => px_inv_hs ex rfl rfl rfl pg_0 rfl rfl rfl rfl) ?_ (Nat.le_of_ble_eq_true rfl) (Nat.le_of_ble_eq_true rfl) ?_
                      · exact pq_27 a2 a3 a4 ha2 ha3 ha4
                      show px_R _ _ _ _ (12, [(0, .ref 0), (1, .int 2), (2, .int a2), (3, .int a3), (4, .int a4), (5, .ref 164)], [.int 0, .int 0, .ref 164], _) _ _ _
                      refine pr_s (pc1 := 13) (st1 := [.long 0, .int 0, .ref 164]) rfl (fun _ => rfl) ?_
                      refine pr_last (pc1 := 14) (h1 := ph_70 a2 a3 a4) rfl (pg_188 a2 a3 a4) rfl rfl rfl ?_
                      refine pr_s (pc1 := 25) (st1 := []) rfl (fun _ => rfl) ?_
                      refine pr_s (pc1 := 26) (st1 := [.int 0]) rfl (fun _ => rfl) ?_
                      exact pr_e rfl (fun _ => rfl) ⟨rfl, rfl⟩
                    show px_T _ _ _ _ (897, [(4, .int 0), (3, .ref 164), (2, .ref 136), (1, .ref 0), (0, .retAddr 0)], [.int 0], _) _ _ _
                    refine pt_s (pc1 := 899) (lv1 := [(5, .int 0), (4, .int 0), (3, .ref 164), (2, .ref 136), (1, .ref 0), (0, .retAddr 0)]) (st1 := []) rfl rfl (fun _ => rfl) ?_
                    refine pt_s (pc1 := 900) (st1 := [.ref 136]) rfl rfl (fun _ => rfl) ?_
                    refine pt_s (pc1 := 901) (st1 := [.retAddr 0, .ref 136]) rfl rfl (fun _ => rfl) ?_
                    refine pt_s (pc1 := 903) (st1 := [.int 0, .retAddr 0, .ref 136]) rfl rfl (fun _ => rfl) ?_
                    refine pt_s (pc1 := 904) (st1 := [.int 1, .int 0, .retAddr 0, .ref 136]) rfl rfl (fun _ => rfl) ?_
                    refine pt_s (pc1 := 905) (st1 := [.int 1, .retAddr 0, .ref 136]) rfl rfl (fun _ => rfl) ?_
                    refine pt_s (pc1 := 906) (st1 := [.int 2, .ref 136]) rfl rfl (fun _ => rfl) ?_
                    refine pt_s (pc1 := 907) (st1 := [.retAddr 0, .int 2, .ref 136]) rfl rfl (fun _ => rfl) ?_
                    refine pt_s (pc1 := 909) (st1 := [.int 0, .retAddr 0, .int 2, .ref 136]) rfl rfl (fun _ => rfl) ?_
                    refine pt_s (pc1 := 910) (st1 := [.int 2, .int 0, .retAddr 0, .int 2, .ref 136]) rfl rfl (fun _ => rfl) ?_
                    refine pt_s (pc1 := 911) (st1 := [.int 2, .retAddr 0, .int 2, .ref 136]) rfl rfl (fun _ => rfl) ?_
                    refine pt_s (pc1 := 912) (st1 := [.int a2, .int 2, .ref 136]) rfl rfl (fun _ => rfl) ?_
                    refine pt_s (pc1 := 913) (st1 := [.retAddr 0, .int a2, .int 2, .ref 136]) rfl rfl (fun _ => rfl) ?_
                    refine pt_s (pc1 := 915) (st1 := [.int 0, .retAddr 0, .int a2, .int 2, .ref 136]) rfl rfl (fun _ => rfl) ?_
                    refine pt_s (pc1 := 916) (st1 := [.int 3, .int 0, .retAddr 0, .int a2, .int 2, .ref 136]) rfl rfl (fun _ => rfl) ?_
                    refine pt_s (pc1 := 917) (st1 := [.int 3, .retAddr 0, .int a2, .int 2, .ref 136]) rfl rfl (fun _ => rfl) ?_
                    refine pt_s (pc1 := 918) (st1 := [.int a3, .int a2, .int 2, .ref 136]) rfl rfl (fun _ => rfl) ?_
                    refine pt_s (pc1 := 919) (st1 := [.retAddr 0, .int a3, .int a2, .int 2, .ref 136]) rfl rfl (fun _ => rfl) ?_
                    refine pt_s (pc1 := 921) (st1 := [.int 0, .retAddr 0, .int a3, .int a2, .int 2, .ref 136]) rfl rfl (fun _ => rfl) ?_
                    refine pt_s (pc1 := 922) (st1 := [.int 4, .int 0, .retAddr 0, .int a3, .int a2, .int 2, .ref 136]) rfl rfl (fun _ => rfl) ?_
                    refine pt_s (pc1 := 923) (st1 := [.int 4, .retAddr 0, .int a3, .int a2, .int 2, .ref 136]) rfl rfl (fun _ => rfl) ?_
                    refine pt_s (pc1 := 924) (st1 := [.int a4, .int a3, .int a2, .int 2, .ref 136]) rfl rfl (fun _ => rfl) ?_
                    refine pt_callv (N := pm_X10_state) (as := [.ref 136, .int 2, .int a2, .int a3, .int a4]) (rest := []) (f := 2047) (l := 83974) (c1 := 1) (k1 := 6) (c2 := 599836) (k2 := 7274189) (v := some (.int 0)) (h1 := ph_81 a2 a3 a4) rfl rfl (fun ex => px_inv_hs ex rfl rfl rfl (pg_189 a2 a3 a4) rfl rfl rfl rfl) ?_ (Nat.le_of_ble_eq_true rfl) (Nat.le_of_ble_eq_true rfl) ?_
                    · exact pq_30 a2 a3 a4 ha2 ha3 ha4
                    show px_T _ _ _ _ (927, [(5, .int 0), (4, .int 0), (3, .ref 164), (2, .ref 136), (1, .ref 0), (0, .retAddr 0)], [.int 0], _) _ _ _
                    refine pt_s (pc1 := 929) (lv1 := [(6, .int 0), (5, .int 0), (4, .int 0), (3, .ref 164), (2, .ref 136), (1, .ref 0), (0, .retAddr 0)]) (st1 := []) rfl rfl (fun _ => rfl) ?_
                    refine pt_s (pc1 := 930) (st1 := [.ref 136]) rfl rfl (fun _ => rfl) ?_
                    refine pt_callv (N := pm_X10_thrown) (as := [.ref 136]) (rest := []) (f := 2047) (l := 83980) (c1 := 0) (k1 := 0) (c2 := 599836) (k2 := 7274189) (v := some (.int 0)) (h1 := ph_81 a2 a3 a4) rfl rfl (fun ex => px_inv_hs ex rfl rfl rfl (pg_214 a2 a3 a4) rfl rfl rfl rfl) ?_ (Nat.le_of_ble_eq_true rfl) (Nat.le_of_ble_eq_true rfl) ?_
                    · refine px_C_of rfl ?_
                      refine pr_s (pc1 := 1) (st1 := [.ref 136]) rfl (fun _ => rfl) ?_
                      refine pr_getf (pc1 := 4) (v := .int 0) rfl rfl (pg_214 a2 a3 a4) rfl rfl ?_
                      exact pr_e rfl (fun _ => rfl) ⟨rfl, rfl⟩
                    show px_T _ _ _ _ (933, [(6, .int 0), (5, .int 0), (4, .int 0), (3, .ref 164), (2, .ref 136), (1, .ref 0), (0, .retAddr 0)], [.int 0], _) _ _ _
                    refine pt_s (pc1 := 935) (st1 := [.int 0, .int 0]) rfl rfl (fun _ => rfl) ?_
                    refine pt_bt (t := 940) (off := 5) (bb := decide ((0 : Int32) = 0)) (st1 := []) rfl rfl rfl rfl rfl (by decide) ?_
                    refine pt_s (pc1 := 942) (st1 := [.int 0]) rfl rfl (fun _ => rfl) ?_
                    refine pt_bf (t := 957) (off := 15) (bb := !decide ((0 : Int32) = 0)) (st1 := []) rfl rfl rfl rfl rfl (px_not_f (by decide)) ?_
                    refine pt_s (pc1 := 946) (st1 := [.ref 164]) rfl rfl (fun _ => rfl) ?_
                    refine pt_s (pc1 := 947) (st1 := [.int 0, .ref 164]) rfl rfl (fun _ => rfl) ?_
                    refine pt_lald (pc1 := 948) (x := 0) rfl (pg_215 a2 a3 a4) rfl rfl rfl ?_
                    refine pt_s (pc1 := 950) (st1 := [.int 0, .long 0]) rfl rfl (fun _ => rfl) ?_
                    refine pt_s (pc1 := 951) (st1 := [.long 0, .long 0]) rfl rfl (fun _ => rfl) ?_
                    refine pt_s (pc1 := 952) (st1 := [.int 0]) rfl rfl (fun _ => rfl) ?_
                    refine pt_bt (t := 957) (off := 5) (bb := decide ((0 : Int32) = 0)) (st1 := []) rfl rfl rfl rfl rfl (by decide) ?_
                    refine pt_s (pc1 := 2771) (st1 := []) rfl rfl (fun _ => rfl) ?_
                    refine pt_s (pc1 := 2774) (lv1 := [(4, .int 6), (6, .int 0), (5, .int 0), (3, .ref 164), (2, .ref 136), (1, .ref 0), (0, .retAddr 0)]) (st1 := []) rfl rfl (fun _ => rfl) ?_
                    refine pt_s (pc1 := 23) (st1 := []) rfl rfl (fun _ => rfl) ?_
                    refine pt_s (pc1 := 25) (st1 := [.int 6]) rfl rfl (fun _ => rfl) ?_
                    refine pt_s (pc1 := 26) (st1 := [.retAddr 0, .int 6]) rfl rfl (fun _ => rfl) ?_
                    refine pt_s (pc1 := 27) (st1 := [.int 6, .int 6]) rfl rfl (fun _ => rfl) ?_
                    refine pt_s (pc1 := 29) (st1 := [.int 6, .int 6, .int 6]) rfl rfl (fun _ => rfl) ?_
                    refine pt_s (pc1 := 30) (st1 := [.int 0, .int 6]) rfl rfl (fun _ => rfl) ?_
                    refine pt_bt (t := 2777) (off := 2747) (bb := decide ((0 : Int32) < (6 : Int32))) (st1 := []) rfl rfl rfl rfl rfl (by decide) ?_
                    refine pt_s (pc1 := 2778) (st1 := [.int 1]) rfl rfl (fun _ => rfl) ?_
                    exact pt_e rfl ⟨rfl, (rfl : px_ins pm_law 2778 = some (.ireturn, 1))⟩
                  · obtain rfl : a1 = 3 := Int32.toInt_inj.mp (hc.trans rfl)
                    refine pt_s (pc1 := 868) (st1 := []) rfl rfl (fun _ => rfl) ?_
                    refine pt_s (pc1 := 869) (st1 := [.ref 0]) rfl rfl (fun _ => rfl) ?_
                    refine pt_s (pc1 := 870) (st1 := [.retAddr 0, .ref 0]) rfl rfl (fun _ => rfl) ?_
                    refine pt_s (pc1 := 872) (st1 := [.int 0, .retAddr 0, .ref 0]) rfl rfl (fun _ => rfl) ?_
                    refine pt_s (pc1 := 873) (st1 := [.int 1, .int 0, .retAddr 0, .ref 0]) rfl rfl (fun _ => rfl) ?_
                    refine pt_s (pc1 := 874) (st1 := [.int 1, .retAddr 0, .ref 0]) rfl rfl (fun _ => rfl) ?_
                    refine pt_s (pc1 := 875) (st1 := [.int 3, .ref 0]) rfl rfl (fun _ => rfl) ?_
                    refine pt_s (pc1 := 876) (st1 := [.retAddr 0, .int 3, .ref 0]) rfl rfl (fun _ => rfl) ?_
                    refine pt_s (pc1 := 878) (st1 := [.int 0, .retAddr 0, .int 3, .ref 0]) rfl rfl (fun _ => rfl) ?_
                    refine pt_s (pc1 := 879) (st1 := [.int 2, .int 0, .retAddr 0, .int 3, .ref 0]) rfl rfl (fun _ => rfl) ?_
                    refine pt_s (pc1 := 880) (st1 := [.int 2, .retAddr 0, .int 3, .ref 0]) rfl rfl (fun _ => rfl) ?_
                    refine pt_s (pc1 := 881) (st1 := [.int a2, .int 3, .ref 0]) rfl rfl (fun _ => rfl) ?_
                    refine pt_s (pc1 := 882) (st1 := [.retAddr 0, .int a2, .int 3, .ref 0]) rfl rfl (fun _ => rfl) ?_
                    refine pt_s (pc1 := 884) (st1 := [.int 0, .retAddr 0, .int a2, .int 3, .ref 0]) rfl rfl (fun _ => rfl) ?_
                    refine pt_s (pc1 := 885) (st1 := [.int 3, .int 0, .retAddr 0, .int a2, .int 3, .ref 0]) rfl rfl (fun _ => rfl) ?_
                    refine pt_s (pc1 := 886) (st1 := [.int 3, .retAddr 0, .int a2, .int 3, .ref 0]) rfl rfl (fun _ => rfl) ?_
                    refine pt_s (pc1 := 887) (st1 := [.int a3, .int a2, .int 3, .ref 0]) rfl rfl (fun _ => rfl) ?_
                    refine pt_s (pc1 := 888) (st1 := [.retAddr 0, .int a3, .int a2, .int 3, .ref 0]) rfl rfl (fun _ => rfl) ?_
                    refine pt_s (pc1 := 890) (st1 := [.int 0, .retAddr 0, .int a3, .int a2, .int 3, .ref 0]) rfl rfl (fun _ => rfl) ?_
                    refine pt_s (pc1 := 891) (st1 := [.int 4, .int 0, .retAddr 0, .int a3, .int a2, .int 3, .ref 0]) rfl rfl (fun _ => rfl) ?_
                    refine pt_s (pc1 := 892) (st1 := [.int 4, .retAddr 0, .int a3, .int a2, .int 3, .ref 0]) rfl rfl (fun _ => rfl) ?_
                    refine pt_s (pc1 := 893) (st1 := [.int a4, .int a3, .int a2, .int 3, .ref 0]) rfl rfl (fun _ => rfl) ?_
                    refine pt_s (pc1 := 894) (st1 := [.ref 164, .int a4, .int a3, .int a2, .int 3, .ref 0]) rfl rfl (fun _ => rfl) ?_
                    refine pt_callv (N := pm_L_state) (as := [.ref 0, .int 3, .int a2, .int a3, .int a4, .ref 164]) (rest := []) (f := 2047) (l := 83974) (c1 := 0) (k1 := 0) (c2 := 599837) (k2 := 7274195) (v := some (.int 0)) (h1 := ph_92 a2 a3 a4) rfl rfl (fun _ => rfl) ?_ (Nat.le_of_ble_eq_true rfl) (Nat.le_of_ble_eq_true rfl) ?_
                    · refine px_C_of rfl ?_
                      refine pr_s (pc1 := 2) (st1 := [.ref 164]) rfl (fun _ => rfl) ?_
                      refine pr_s (pc1 := 3) (st1 := [.int 0, .ref 164]) rfl (fun _ => rfl) ?_
                      refine pr_s (pc1 := 4) (st1 := [.ref 0, .int 0, .ref 164]) rfl (fun _ => rfl) ?_
                      refine pr_s (pc1 := 5) (st1 := [.int 3, .ref 0, .int 0, .ref 164]) rfl (fun _ => rfl) ?_
                      refine pr_s (pc1 := 6) (st1 := [.int a2, .int 3, .ref 0, .int 0, .ref 164]) rfl (fun _ => rfl) ?_
                      refine pr_s (pc1 := 7) (st1 := [.int a3, .int a2, .int 3, .ref 0, .int 0, .ref 164]) rfl (fun _ => rfl) ?_
                      refine pr_s (pc1 := 9) (st1 := [.int a4, .int a3, .int a2, .int 3, .ref 0, .int 0, .ref 164]) rfl (fun _ => rfl) ?_
                      refine pr_callv (N := pm_X6_state) (as := [.ref 0, .int 3, .int a2, .int a3, .int a4]) (rest := [.int 0, .ref 164]) (f := 2046) (l := 83949) (c1 := 0) (k1 := 0) (c2 := 0) (k2 := 0) (v := some (.int 0)) (h1 := ph_91 a2 a3 a4) rfl (fun ex => px_inv_hs ex rfl rfl rfl pg_0 rfl rfl rfl rfl) ?_ (Nat.le_of_ble_eq_true rfl) (Nat.le_of_ble_eq_true rfl) ?_
                      · exact pq_36 a2 a3 a4 ha2 ha3 ha4
                      show px_R _ _ _ _ (12, [(0, .ref 0), (1, .int 3), (2, .int a2), (3, .int a3), (4, .int a4), (5, .ref 164)], [.int 0, .int 0, .ref 164], _) _ _ _
                      refine pr_s (pc1 := 13) (st1 := [.long 0, .int 0, .ref 164]) rfl (fun _ => rfl) ?_
                      refine pr_last (pc1 := 14) (h1 := ph_92 a2 a3 a4) rfl (pg_246 a2 a3 a4) rfl rfl rfl ?_
                      refine pr_s (pc1 := 25) (st1 := []) rfl (fun _ => rfl) ?_
                      refine pr_s (pc1 := 26) (st1 := [.int 0]) rfl (fun _ => rfl) ?_
                      exact pr_e rfl (fun _ => rfl) ⟨rfl, rfl⟩
                    show px_T _ _ _ _ (897, [(4, .int 0), (3, .ref 164), (2, .ref 136), (1, .ref 0), (0, .retAddr 0)], [.int 0], _) _ _ _
                    refine pt_s (pc1 := 899) (lv1 := [(5, .int 0), (4, .int 0), (3, .ref 164), (2, .ref 136), (1, .ref 0), (0, .retAddr 0)]) (st1 := []) rfl rfl (fun _ => rfl) ?_
                    refine pt_s (pc1 := 900) (st1 := [.ref 136]) rfl rfl (fun _ => rfl) ?_
                    refine pt_s (pc1 := 901) (st1 := [.retAddr 0, .ref 136]) rfl rfl (fun _ => rfl) ?_
                    refine pt_s (pc1 := 903) (st1 := [.int 0, .retAddr 0, .ref 136]) rfl rfl (fun _ => rfl) ?_
                    refine pt_s (pc1 := 904) (st1 := [.int 1, .int 0, .retAddr 0, .ref 136]) rfl rfl (fun _ => rfl) ?_
                    refine pt_s (pc1 := 905) (st1 := [.int 1, .retAddr 0, .ref 136]) rfl rfl (fun _ => rfl) ?_
                    refine pt_s (pc1 := 906) (st1 := [.int 3, .ref 136]) rfl rfl (fun _ => rfl) ?_
                    refine pt_s (pc1 := 907) (st1 := [.retAddr 0, .int 3, .ref 136]) rfl rfl (fun _ => rfl) ?_
                    refine pt_s (pc1 := 909) (st1 := [.int 0, .retAddr 0, .int 3, .ref 136]) rfl rfl (fun _ => rfl) ?_
                    refine pt_s (pc1 := 910) (st1 := [.int 2, .int 0, .retAddr 0, .int 3, .ref 136]) rfl rfl (fun _ => rfl) ?_
                    refine pt_s (pc1 := 911) (st1 := [.int 2, .retAddr 0, .int 3, .ref 136]) rfl rfl (fun _ => rfl) ?_
                    refine pt_s (pc1 := 912) (st1 := [.int a2, .int 3, .ref 136]) rfl rfl (fun _ => rfl) ?_
                    refine pt_s (pc1 := 913) (st1 := [.retAddr 0, .int a2, .int 3, .ref 136]) rfl rfl (fun _ => rfl) ?_
                    refine pt_s (pc1 := 915) (st1 := [.int 0, .retAddr 0, .int a2, .int 3, .ref 136]) rfl rfl (fun _ => rfl) ?_
                    refine pt_s (pc1 := 916) (st1 := [.int 3, .int 0, .retAddr 0, .int a2, .int 3, .ref 136]) rfl rfl (fun _ => rfl) ?_
                    refine pt_s (pc1 := 917) (st1 := [.int 3, .retAddr 0, .int a2, .int 3, .ref 136]) rfl rfl (fun _ => rfl) ?_
                    refine pt_s (pc1 := 918) (st1 := [.int a3, .int a2, .int 3, .ref 136]) rfl rfl (fun _ => rfl) ?_
                    refine pt_s (pc1 := 919) (st1 := [.retAddr 0, .int a3, .int a2, .int 3, .ref 136]) rfl rfl (fun _ => rfl) ?_
                    refine pt_s (pc1 := 921) (st1 := [.int 0, .retAddr 0, .int a3, .int a2, .int 3, .ref 136]) rfl rfl (fun _ => rfl) ?_
                    refine pt_s (pc1 := 922) (st1 := [.int 4, .int 0, .retAddr 0, .int a3, .int a2, .int 3, .ref 136]) rfl rfl (fun _ => rfl) ?_
                    refine pt_s (pc1 := 923) (st1 := [.int 4, .retAddr 0, .int a3, .int a2, .int 3, .ref 136]) rfl rfl (fun _ => rfl) ?_
                    refine pt_s (pc1 := 924) (st1 := [.int a4, .int a3, .int a2, .int 3, .ref 136]) rfl rfl (fun _ => rfl) ?_
                    refine pt_callv (N := pm_X10_state) (as := [.ref 136, .int 3, .int a2, .int a3, .int a4]) (rest := []) (f := 2047) (l := 83974) (c1 := 1) (k1 := 6) (c2 := 599836) (k2 := 7274189) (v := some (.int 0)) (h1 := ph_103 a2 a3 a4) rfl rfl (fun ex => px_inv_hs ex rfl rfl rfl (pg_247 a2 a3 a4) rfl rfl rfl rfl) ?_ (Nat.le_of_ble_eq_true rfl) (Nat.le_of_ble_eq_true rfl) ?_
                    · exact pq_39 a2 a3 a4 ha2 ha3 ha4
                    show px_T _ _ _ _ (927, [(5, .int 0), (4, .int 0), (3, .ref 164), (2, .ref 136), (1, .ref 0), (0, .retAddr 0)], [.int 0], _) _ _ _
                    refine pt_s (pc1 := 929) (lv1 := [(6, .int 0), (5, .int 0), (4, .int 0), (3, .ref 164), (2, .ref 136), (1, .ref 0), (0, .retAddr 0)]) (st1 := []) rfl rfl (fun _ => rfl) ?_
                    refine pt_s (pc1 := 930) (st1 := [.ref 136]) rfl rfl (fun _ => rfl) ?_
                    refine pt_callv (N := pm_X10_thrown) (as := [.ref 136]) (rest := []) (f := 2047) (l := 83980) (c1 := 0) (k1 := 0) (c2 := 599836) (k2 := 7274189) (v := some (.int 0)) (h1 := ph_103 a2 a3 a4) rfl rfl (fun ex => px_inv_hs ex rfl rfl rfl (pg_272 a2 a3 a4) rfl rfl rfl rfl) ?_ (Nat.le_of_ble_eq_true rfl) (Nat.le_of_ble_eq_true rfl) ?_
                    · refine px_C_of rfl ?_
                      refine pr_s (pc1 := 1) (st1 := [.ref 136]) rfl (fun _ => rfl) ?_
                      refine pr_getf (pc1 := 4) (v := .int 0) rfl rfl (pg_272 a2 a3 a4) rfl rfl ?_
                      exact pr_e rfl (fun _ => rfl) ⟨rfl, rfl⟩
                    show px_T _ _ _ _ (933, [(6, .int 0), (5, .int 0), (4, .int 0), (3, .ref 164), (2, .ref 136), (1, .ref 0), (0, .retAddr 0)], [.int 0], _) _ _ _
                    refine pt_s (pc1 := 935) (st1 := [.int 0, .int 0]) rfl rfl (fun _ => rfl) ?_
                    refine pt_bt (t := 940) (off := 5) (bb := decide ((0 : Int32) = 0)) (st1 := []) rfl rfl rfl rfl rfl (by decide) ?_
                    refine pt_s (pc1 := 942) (st1 := [.int 0]) rfl rfl (fun _ => rfl) ?_
                    refine pt_bf (t := 957) (off := 15) (bb := !decide ((0 : Int32) = 0)) (st1 := []) rfl rfl rfl rfl rfl (px_not_f (by decide)) ?_
                    refine pt_s (pc1 := 946) (st1 := [.ref 164]) rfl rfl (fun _ => rfl) ?_
                    refine pt_s (pc1 := 947) (st1 := [.int 0, .ref 164]) rfl rfl (fun _ => rfl) ?_
                    refine pt_lald (pc1 := 948) (x := 0) rfl (pg_273 a2 a3 a4) rfl rfl rfl ?_
                    refine pt_s (pc1 := 950) (st1 := [.int 0, .long 0]) rfl rfl (fun _ => rfl) ?_
                    refine pt_s (pc1 := 951) (st1 := [.long 0, .long 0]) rfl rfl (fun _ => rfl) ?_
                    refine pt_s (pc1 := 952) (st1 := [.int 0]) rfl rfl (fun _ => rfl) ?_
                    refine pt_bt (t := 957) (off := 5) (bb := decide ((0 : Int32) = 0)) (st1 := []) rfl rfl rfl rfl rfl (by decide) ?_
                    refine pt_s (pc1 := 2771) (st1 := []) rfl rfl (fun _ => rfl) ?_
                    refine pt_s (pc1 := 2774) (lv1 := [(4, .int 6), (6, .int 0), (5, .int 0), (3, .ref 164), (2, .ref 136), (1, .ref 0), (0, .retAddr 0)]) (st1 := []) rfl rfl (fun _ => rfl) ?_
                    refine pt_s (pc1 := 23) (st1 := []) rfl rfl (fun _ => rfl) ?_
                    refine pt_s (pc1 := 25) (st1 := [.int 6]) rfl rfl (fun _ => rfl) ?_
                    refine pt_s (pc1 := 26) (st1 := [.retAddr 0, .int 6]) rfl rfl (fun _ => rfl) ?_
                    refine pt_s (pc1 := 27) (st1 := [.int 6, .int 6]) rfl rfl (fun _ => rfl) ?_
                    refine pt_s (pc1 := 29) (st1 := [.int 6, .int 6, .int 6]) rfl rfl (fun _ => rfl) ?_
                    refine pt_s (pc1 := 30) (st1 := [.int 0, .int 6]) rfl rfl (fun _ => rfl) ?_
                    refine pt_bt (t := 2777) (off := 2747) (bb := decide ((0 : Int32) < (6 : Int32))) (st1 := []) rfl rfl rfl rfl rfl (by decide) ?_
                    refine pt_s (pc1 := 2778) (st1 := [.int 1]) rfl rfl (fun _ => rfl) ?_
                    exact pt_e rfl ⟨rfl, (rfl : px_ins pm_law 2778 = some (.ireturn, 1))⟩
                  · obtain rfl : a1 = 4 := Int32.toInt_inj.mp (hc.trans rfl)
                    refine pt_s (pc1 := 868) (st1 := []) rfl rfl (fun _ => rfl) ?_
                    refine pt_s (pc1 := 869) (st1 := [.ref 0]) rfl rfl (fun _ => rfl) ?_
                    refine pt_s (pc1 := 870) (st1 := [.retAddr 0, .ref 0]) rfl rfl (fun _ => rfl) ?_
                    refine pt_s (pc1 := 872) (st1 := [.int 0, .retAddr 0, .ref 0]) rfl rfl (fun _ => rfl) ?_
                    refine pt_s (pc1 := 873) (st1 := [.int 1, .int 0, .retAddr 0, .ref 0]) rfl rfl (fun _ => rfl) ?_
                    refine pt_s (pc1 := 874) (st1 := [.int 1, .retAddr 0, .ref 0]) rfl rfl (fun _ => rfl) ?_
                    refine pt_s (pc1 := 875) (st1 := [.int 4, .ref 0]) rfl rfl (fun _ => rfl) ?_
                    refine pt_s (pc1 := 876) (st1 := [.retAddr 0, .int 4, .ref 0]) rfl rfl (fun _ => rfl) ?_
                    refine pt_s (pc1 := 878) (st1 := [.int 0, .retAddr 0, .int 4, .ref 0]) rfl rfl (fun _ => rfl) ?_
                    refine pt_s (pc1 := 879) (st1 := [.int 2, .int 0, .retAddr 0, .int 4, .ref 0]) rfl rfl (fun _ => rfl) ?_
                    refine pt_s (pc1 := 880) (st1 := [.int 2, .retAddr 0, .int 4, .ref 0]) rfl rfl (fun _ => rfl) ?_
                    refine pt_s (pc1 := 881) (st1 := [.int a2, .int 4, .ref 0]) rfl rfl (fun _ => rfl) ?_
                    refine pt_s (pc1 := 882) (st1 := [.retAddr 0, .int a2, .int 4, .ref 0]) rfl rfl (fun _ => rfl) ?_
                    refine pt_s (pc1 := 884) (st1 := [.int 0, .retAddr 0, .int a2, .int 4, .ref 0]) rfl rfl (fun _ => rfl) ?_
                    refine pt_s (pc1 := 885) (st1 := [.int 3, .int 0, .retAddr 0, .int a2, .int 4, .ref 0]) rfl rfl (fun _ => rfl) ?_
                    refine pt_s (pc1 := 886) (st1 := [.int 3, .retAddr 0, .int a2, .int 4, .ref 0]) rfl rfl (fun _ => rfl) ?_
                    refine pt_s (pc1 := 887) (st1 := [.int a3, .int a2, .int 4, .ref 0]) rfl rfl (fun _ => rfl) ?_
                    refine pt_s (pc1 := 888) (st1 := [.retAddr 0, .int a3, .int a2, .int 4, .ref 0]) rfl rfl (fun _ => rfl) ?_
                    refine pt_s (pc1 := 890) (st1 := [.int 0, .retAddr 0, .int a3, .int a2, .int 4, .ref 0]) rfl rfl (fun _ => rfl) ?_
                    refine pt_s (pc1 := 891) (st1 := [.int 4, .int 0, .retAddr 0, .int a3, .int a2, .int 4, .ref 0]) rfl rfl (fun _ => rfl) ?_
                    refine pt_s (pc1 := 892) (st1 := [.int 4, .retAddr 0, .int a3, .int a2, .int 4, .ref 0]) rfl rfl (fun _ => rfl) ?_
                    refine pt_s (pc1 := 893) (st1 := [.int a4, .int a3, .int a2, .int 4, .ref 0]) rfl rfl (fun _ => rfl) ?_
                    refine pt_s (pc1 := 894) (st1 := [.ref 164, .int a4, .int a3, .int a2, .int 4, .ref 0]) rfl rfl (fun _ => rfl) ?_
                    refine pt_callv (N := pm_L_state) (as := [.ref 0, .int 4, .int a2, .int a3, .int a4, .ref 164]) (rest := []) (f := 2047) (l := 83974) (c1 := 0) (k1 := 0) (c2 := 599837) (k2 := 7274195) (v := some (.int 0)) (h1 := ph_114 a2 a3 a4) rfl rfl (fun _ => rfl) ?_ (Nat.le_of_ble_eq_true rfl) (Nat.le_of_ble_eq_true rfl) ?_
                    · refine px_C_of rfl ?_
                      refine pr_s (pc1 := 2) (st1 := [.ref 164]) rfl (fun _ => rfl) ?_
                      refine pr_s (pc1 := 3) (st1 := [.int 0, .ref 164]) rfl (fun _ => rfl) ?_
                      refine pr_s (pc1 := 4) (st1 := [.ref 0, .int 0, .ref 164]) rfl (fun _ => rfl) ?_
                      refine pr_s (pc1 := 5) (st1 := [.int 4, .ref 0, .int 0, .ref 164]) rfl (fun _ => rfl) ?_
                      refine pr_s (pc1 := 6) (st1 := [.int a2, .int 4, .ref 0, .int 0, .ref 164]) rfl (fun _ => rfl) ?_
                      refine pr_s (pc1 := 7) (st1 := [.int a3, .int a2, .int 4, .ref 0, .int 0, .ref 164]) rfl (fun _ => rfl) ?_
                      refine pr_s (pc1 := 9) (st1 := [.int a4, .int a3, .int a2, .int 4, .ref 0, .int 0, .ref 164]) rfl (fun _ => rfl) ?_
                      refine pr_callv (N := pm_X6_state) (as := [.ref 0, .int 4, .int a2, .int a3, .int a4]) (rest := [.int 0, .ref 164]) (f := 2046) (l := 83949) (c1 := 0) (k1 := 0) (c2 := 0) (k2 := 0) (v := some (.int 0)) (h1 := ph_113 a2 a3 a4) rfl (fun ex => px_inv_hs ex rfl rfl rfl pg_0 rfl rfl rfl rfl) ?_ (Nat.le_of_ble_eq_true rfl) (Nat.le_of_ble_eq_true rfl) ?_
                      · exact pq_45 a2 a3 a4 ha2 ha3 ha4
                      show px_R _ _ _ _ (12, [(0, .ref 0), (1, .int 4), (2, .int a2), (3, .int a3), (4, .int a4), (5, .ref 164)], [.int 0, .int 0, .ref 164], _) _ _ _
                      refine pr_s (pc1 := 13) (st1 := [.long 0, .int 0, .ref 164]) rfl (fun _ => rfl) ?_
                      refine pr_last (pc1 := 14) (h1 := ph_114 a2 a3 a4) rfl (pg_304 a2 a3 a4) rfl rfl rfl ?_
                      refine pr_s (pc1 := 25) (st1 := []) rfl (fun _ => rfl) ?_
                      refine pr_s (pc1 := 26) (st1 := [.int 0]) rfl (fun _ => rfl) ?_
                      exact pr_e rfl (fun _ => rfl) ⟨rfl, rfl⟩
                    show px_T _ _ _ _ (897, [(4, .int 0), (3, .ref 164), (2, .ref 136), (1, .ref 0), (0, .retAddr 0)], [.int 0], _) _ _ _
                    refine pt_s (pc1 := 899) (lv1 := [(5, .int 0), (4, .int 0), (3, .ref 164), (2, .ref 136), (1, .ref 0), (0, .retAddr 0)]) (st1 := []) rfl rfl (fun _ => rfl) ?_
                    refine pt_s (pc1 := 900) (st1 := [.ref 136]) rfl rfl (fun _ => rfl) ?_
                    refine pt_s (pc1 := 901) (st1 := [.retAddr 0, .ref 136]) rfl rfl (fun _ => rfl) ?_
                    refine pt_s (pc1 := 903) (st1 := [.int 0, .retAddr 0, .ref 136]) rfl rfl (fun _ => rfl) ?_
                    refine pt_s (pc1 := 904) (st1 := [.int 1, .int 0, .retAddr 0, .ref 136]) rfl rfl (fun _ => rfl) ?_
                    refine pt_s (pc1 := 905) (st1 := [.int 1, .retAddr 0, .ref 136]) rfl rfl (fun _ => rfl) ?_
                    refine pt_s (pc1 := 906) (st1 := [.int 4, .ref 136]) rfl rfl (fun _ => rfl) ?_
                    refine pt_s (pc1 := 907) (st1 := [.retAddr 0, .int 4, .ref 136]) rfl rfl (fun _ => rfl) ?_
                    refine pt_s (pc1 := 909) (st1 := [.int 0, .retAddr 0, .int 4, .ref 136]) rfl rfl (fun _ => rfl) ?_
                    refine pt_s (pc1 := 910) (st1 := [.int 2, .int 0, .retAddr 0, .int 4, .ref 136]) rfl rfl (fun _ => rfl) ?_
                    refine pt_s (pc1 := 911) (st1 := [.int 2, .retAddr 0, .int 4, .ref 136]) rfl rfl (fun _ => rfl) ?_
                    refine pt_s (pc1 := 912) (st1 := [.int a2, .int 4, .ref 136]) rfl rfl (fun _ => rfl) ?_
                    refine pt_s (pc1 := 913) (st1 := [.retAddr 0, .int a2, .int 4, .ref 136]) rfl rfl (fun _ => rfl) ?_
                    refine pt_s (pc1 := 915) (st1 := [.int 0, .retAddr 0, .int a2, .int 4, .ref 136]) rfl rfl (fun _ => rfl) ?_
                    refine pt_s (pc1 := 916) (st1 := [.int 3, .int 0, .retAddr 0, .int a2, .int 4, .ref 136]) rfl rfl (fun _ => rfl) ?_
                    refine pt_s (pc1 := 917) (st1 := [.int 3, .retAddr 0, .int a2, .int 4, .ref 136]) rfl rfl (fun _ => rfl) ?_
                    refine pt_s (pc1 := 918) (st1 := [.int a3, .int a2, .int 4, .ref 136]) rfl rfl (fun _ => rfl) ?_
                    refine pt_s (pc1 := 919) (st1 := [.retAddr 0, .int a3, .int a2, .int 4, .ref 136]) rfl rfl (fun _ => rfl) ?_
                    refine pt_s (pc1 := 921) (st1 := [.int 0, .retAddr 0, .int a3, .int a2, .int 4, .ref 136]) rfl rfl (fun _ => rfl) ?_
                    refine pt_s (pc1 := 922) (st1 := [.int 4, .int 0, .retAddr 0, .int a3, .int a2, .int 4, .ref 136]) rfl rfl (fun _ => rfl) ?_
                    refine pt_s (pc1 := 923) (st1 := [.int 4, .retAddr 0, .int a3, .int a2, .int 4, .ref 136]) rfl rfl (fun _ => rfl) ?_
                    refine pt_s (pc1 := 924) (st1 := [.int a4, .int a3, .int a2, .int 4, .ref 136]) rfl rfl (fun _ => rfl) ?_
                    refine pt_callv (N := pm_X10_state) (as := [.ref 136, .int 4, .int a2, .int a3, .int a4]) (rest := []) (f := 2047) (l := 83974) (c1 := 1) (k1 := 6) (c2 := 599836) (k2 := 7274189) (v := some (.int 0)) (h1 := ph_125 a2 a3 a4) rfl rfl (fun ex => px_inv_hs ex rfl rfl rfl (pg_305 a2 a3 a4) rfl rfl rfl rfl) ?_ (Nat.le_of_ble_eq_true rfl) (Nat.le_of_ble_eq_true rfl) ?_
                    · exact pq_48 a2 a3 a4 ha2 ha3 ha4
                    show px_T _ _ _ _ (927, [(5, .int 0), (4, .int 0), (3, .ref 164), (2, .ref 136), (1, .ref 0), (0, .retAddr 0)], [.int 0], _) _ _ _
                    refine pt_s (pc1 := 929) (lv1 := [(6, .int 0), (5, .int 0), (4, .int 0), (3, .ref 164), (2, .ref 136), (1, .ref 0), (0, .retAddr 0)]) (st1 := []) rfl rfl (fun _ => rfl) ?_
                    refine pt_s (pc1 := 930) (st1 := [.ref 136]) rfl rfl (fun _ => rfl) ?_
                    refine pt_callv (N := pm_X10_thrown) (as := [.ref 136]) (rest := []) (f := 2047) (l := 83980) (c1 := 0) (k1 := 0) (c2 := 599836) (k2 := 7274189) (v := some (.int 0)) (h1 := ph_125 a2 a3 a4) rfl rfl (fun ex => px_inv_hs ex rfl rfl rfl (pg_330 a2 a3 a4) rfl rfl rfl rfl) ?_ (Nat.le_of_ble_eq_true rfl) (Nat.le_of_ble_eq_true rfl) ?_
                    · refine px_C_of rfl ?_
                      refine pr_s (pc1 := 1) (st1 := [.ref 136]) rfl (fun _ => rfl) ?_
                      refine pr_getf (pc1 := 4) (v := .int 0) rfl rfl (pg_330 a2 a3 a4) rfl rfl ?_
                      exact pr_e rfl (fun _ => rfl) ⟨rfl, rfl⟩
                    show px_T _ _ _ _ (933, [(6, .int 0), (5, .int 0), (4, .int 0), (3, .ref 164), (2, .ref 136), (1, .ref 0), (0, .retAddr 0)], [.int 0], _) _ _ _
                    refine pt_s (pc1 := 935) (st1 := [.int 0, .int 0]) rfl rfl (fun _ => rfl) ?_
                    refine pt_bt (t := 940) (off := 5) (bb := decide ((0 : Int32) = 0)) (st1 := []) rfl rfl rfl rfl rfl (by decide) ?_
                    refine pt_s (pc1 := 942) (st1 := [.int 0]) rfl rfl (fun _ => rfl) ?_
                    refine pt_bf (t := 957) (off := 15) (bb := !decide ((0 : Int32) = 0)) (st1 := []) rfl rfl rfl rfl rfl (px_not_f (by decide)) ?_
                    refine pt_s (pc1 := 946) (st1 := [.ref 164]) rfl rfl (fun _ => rfl) ?_
                    refine pt_s (pc1 := 947) (st1 := [.int 0, .ref 164]) rfl rfl (fun _ => rfl) ?_
                    refine pt_lald (pc1 := 948) (x := 0) rfl (pg_331 a2 a3 a4) rfl rfl rfl ?_
                    refine pt_s (pc1 := 950) (st1 := [.int 0, .long 0]) rfl rfl (fun _ => rfl) ?_
                    refine pt_s (pc1 := 951) (st1 := [.long 0, .long 0]) rfl rfl (fun _ => rfl) ?_
                    refine pt_s (pc1 := 952) (st1 := [.int 0]) rfl rfl (fun _ => rfl) ?_
                    refine pt_bt (t := 957) (off := 5) (bb := decide ((0 : Int32) = 0)) (st1 := []) rfl rfl rfl rfl rfl (by decide) ?_
                    refine pt_s (pc1 := 2771) (st1 := []) rfl rfl (fun _ => rfl) ?_
                    refine pt_s (pc1 := 2774) (lv1 := [(4, .int 6), (6, .int 0), (5, .int 0), (3, .ref 164), (2, .ref 136), (1, .ref 0), (0, .retAddr 0)]) (st1 := []) rfl rfl (fun _ => rfl) ?_
                    refine pt_s (pc1 := 23) (st1 := []) rfl rfl (fun _ => rfl) ?_
                    refine pt_s (pc1 := 25) (st1 := [.int 6]) rfl rfl (fun _ => rfl) ?_
                    refine pt_s (pc1 := 26) (st1 := [.retAddr 0, .int 6]) rfl rfl (fun _ => rfl) ?_
                    refine pt_s (pc1 := 27) (st1 := [.int 6, .int 6]) rfl rfl (fun _ => rfl) ?_
                    refine pt_s (pc1 := 29) (st1 := [.int 6, .int 6, .int 6]) rfl rfl (fun _ => rfl) ?_
                    refine pt_s (pc1 := 30) (st1 := [.int 0, .int 6]) rfl rfl (fun _ => rfl) ?_
                    refine pt_bt (t := 2777) (off := 2747) (bb := decide ((0 : Int32) < (6 : Int32))) (st1 := []) rfl rfl rfl rfl rfl (by decide) ?_
                    refine pt_s (pc1 := 2778) (st1 := [.int 1]) rfl rfl (fun _ => rfl) ?_
                    exact pt_e rfl ⟨rfl, (rfl : px_ins pm_law 2778 = some (.ireturn, 1))⟩
                  · obtain rfl : a1 = 5 := Int32.toInt_inj.mp (hc.trans rfl)
                    refine pt_s (pc1 := 868) (st1 := []) rfl rfl (fun _ => rfl) ?_
                    refine pt_s (pc1 := 869) (st1 := [.ref 0]) rfl rfl (fun _ => rfl) ?_
                    refine pt_s (pc1 := 870) (st1 := [.retAddr 0, .ref 0]) rfl rfl (fun _ => rfl) ?_
                    refine pt_s (pc1 := 872) (st1 := [.int 0, .retAddr 0, .ref 0]) rfl rfl (fun _ => rfl) ?_
                    refine pt_s (pc1 := 873) (st1 := [.int 1, .int 0, .retAddr 0, .ref 0]) rfl rfl (fun _ => rfl) ?_
                    refine pt_s (pc1 := 874) (st1 := [.int 1, .retAddr 0, .ref 0]) rfl rfl (fun _ => rfl) ?_
                    refine pt_s (pc1 := 875) (st1 := [.int 5, .ref 0]) rfl rfl (fun _ => rfl) ?_
                    refine pt_s (pc1 := 876) (st1 := [.retAddr 0, .int 5, .ref 0]) rfl rfl (fun _ => rfl) ?_
                    refine pt_s (pc1 := 878) (st1 := [.int 0, .retAddr 0, .int 5, .ref 0]) rfl rfl (fun _ => rfl) ?_
                    refine pt_s (pc1 := 879) (st1 := [.int 2, .int 0, .retAddr 0, .int 5, .ref 0]) rfl rfl (fun _ => rfl) ?_
                    refine pt_s (pc1 := 880) (st1 := [.int 2, .retAddr 0, .int 5, .ref 0]) rfl rfl (fun _ => rfl) ?_
                    refine pt_s (pc1 := 881) (st1 := [.int a2, .int 5, .ref 0]) rfl rfl (fun _ => rfl) ?_
                    refine pt_s (pc1 := 882) (st1 := [.retAddr 0, .int a2, .int 5, .ref 0]) rfl rfl (fun _ => rfl) ?_
                    refine pt_s (pc1 := 884) (st1 := [.int 0, .retAddr 0, .int a2, .int 5, .ref 0]) rfl rfl (fun _ => rfl) ?_
                    refine pt_s (pc1 := 885) (st1 := [.int 3, .int 0, .retAddr 0, .int a2, .int 5, .ref 0]) rfl rfl (fun _ => rfl) ?_
                    refine pt_s (pc1 := 886) (st1 := [.int 3, .retAddr 0, .int a2, .int 5, .ref 0]) rfl rfl (fun _ => rfl) ?_
                    refine pt_s (pc1 := 887) (st1 := [.int a3, .int a2, .int 5, .ref 0]) rfl rfl (fun _ => rfl) ?_
                    refine pt_s (pc1 := 888) (st1 := [.retAddr 0, .int a3, .int a2, .int 5, .ref 0]) rfl rfl (fun _ => rfl) ?_
                    refine pt_s (pc1 := 890) (st1 := [.int 0, .retAddr 0, .int a3, .int a2, .int 5, .ref 0]) rfl rfl (fun _ => rfl) ?_
                    refine pt_s (pc1 := 891) (st1 := [.int 4, .int 0, .retAddr 0, .int a3, .int a2, .int 5, .ref 0]) rfl rfl (fun _ => rfl) ?_
                    refine pt_s (pc1 := 892) (st1 := [.int 4, .retAddr 0, .int a3, .int a2, .int 5, .ref 0]) rfl rfl (fun _ => rfl) ?_
                    refine pt_s (pc1 := 893) (st1 := [.int a4, .int a3, .int a2, .int 5, .ref 0]) rfl rfl (fun _ => rfl) ?_
                    refine pt_s (pc1 := 894) (st1 := [.ref 164, .int a4, .int a3, .int a2, .int 5, .ref 0]) rfl rfl (fun _ => rfl) ?_
                    refine pt_callv (N := pm_L_state) (as := [.ref 0, .int 5, .int a2, .int a3, .int a4, .ref 164]) (rest := []) (f := 2047) (l := 83974) (c1 := 0) (k1 := 0) (c2 := 599837) (k2 := 7274195) (v := some (.int 0)) (h1 := ph_136 a2 a3 a4) rfl rfl (fun _ => rfl) ?_ (Nat.le_of_ble_eq_true rfl) (Nat.le_of_ble_eq_true rfl) ?_
                    · refine px_C_of rfl ?_
                      refine pr_s (pc1 := 2) (st1 := [.ref 164]) rfl (fun _ => rfl) ?_
                      refine pr_s (pc1 := 3) (st1 := [.int 0, .ref 164]) rfl (fun _ => rfl) ?_
                      refine pr_s (pc1 := 4) (st1 := [.ref 0, .int 0, .ref 164]) rfl (fun _ => rfl) ?_
                      refine pr_s (pc1 := 5) (st1 := [.int 5, .ref 0, .int 0, .ref 164]) rfl (fun _ => rfl) ?_
                      refine pr_s (pc1 := 6) (st1 := [.int a2, .int 5, .ref 0, .int 0, .ref 164]) rfl (fun _ => rfl) ?_
                      refine pr_s (pc1 := 7) (st1 := [.int a3, .int a2, .int 5, .ref 0, .int 0, .ref 164]) rfl (fun _ => rfl) ?_
                      refine pr_s (pc1 := 9) (st1 := [.int a4, .int a3, .int a2, .int 5, .ref 0, .int 0, .ref 164]) rfl (fun _ => rfl) ?_
                      refine pr_callv (N := pm_X6_state) (as := [.ref 0, .int 5, .int a2, .int a3, .int a4]) (rest := [.int 0, .ref 164]) (f := 2046) (l := 83949) (c1 := 0) (k1 := 0) (c2 := 0) (k2 := 0) (v := some (.int 0)) (h1 := ph_135 a2 a3 a4) rfl (fun ex => px_inv_hs ex rfl rfl rfl pg_0 rfl rfl rfl rfl) ?_ (Nat.le_of_ble_eq_true rfl) (Nat.le_of_ble_eq_true rfl) ?_
                      · exact pq_54 a2 a3 a4 ha2 ha3 ha4
                      show px_R _ _ _ _ (12, [(0, .ref 0), (1, .int 5), (2, .int a2), (3, .int a3), (4, .int a4), (5, .ref 164)], [.int 0, .int 0, .ref 164], _) _ _ _
                      refine pr_s (pc1 := 13) (st1 := [.long 0, .int 0, .ref 164]) rfl (fun _ => rfl) ?_
                      refine pr_last (pc1 := 14) (h1 := ph_136 a2 a3 a4) rfl (pg_362 a2 a3 a4) rfl rfl rfl ?_
                      refine pr_s (pc1 := 25) (st1 := []) rfl (fun _ => rfl) ?_
                      refine pr_s (pc1 := 26) (st1 := [.int 0]) rfl (fun _ => rfl) ?_
                      exact pr_e rfl (fun _ => rfl) ⟨rfl, rfl⟩
                    show px_T _ _ _ _ (897, [(4, .int 0), (3, .ref 164), (2, .ref 136), (1, .ref 0), (0, .retAddr 0)], [.int 0], _) _ _ _
                    refine pt_s (pc1 := 899) (lv1 := [(5, .int 0), (4, .int 0), (3, .ref 164), (2, .ref 136), (1, .ref 0), (0, .retAddr 0)]) (st1 := []) rfl rfl (fun _ => rfl) ?_
                    refine pt_s (pc1 := 900) (st1 := [.ref 136]) rfl rfl (fun _ => rfl) ?_
                    refine pt_s (pc1 := 901) (st1 := [.retAddr 0, .ref 136]) rfl rfl (fun _ => rfl) ?_
                    refine pt_s (pc1 := 903) (st1 := [.int 0, .retAddr 0, .ref 136]) rfl rfl (fun _ => rfl) ?_
                    refine pt_s (pc1 := 904) (st1 := [.int 1, .int 0, .retAddr 0, .ref 136]) rfl rfl (fun _ => rfl) ?_
                    refine pt_s (pc1 := 905) (st1 := [.int 1, .retAddr 0, .ref 136]) rfl rfl (fun _ => rfl) ?_
                    refine pt_s (pc1 := 906) (st1 := [.int 5, .ref 136]) rfl rfl (fun _ => rfl) ?_
                    refine pt_s (pc1 := 907) (st1 := [.retAddr 0, .int 5, .ref 136]) rfl rfl (fun _ => rfl) ?_
                    refine pt_s (pc1 := 909) (st1 := [.int 0, .retAddr 0, .int 5, .ref 136]) rfl rfl (fun _ => rfl) ?_
                    refine pt_s (pc1 := 910) (st1 := [.int 2, .int 0, .retAddr 0, .int 5, .ref 136]) rfl rfl (fun _ => rfl) ?_
                    refine pt_s (pc1 := 911) (st1 := [.int 2, .retAddr 0, .int 5, .ref 136]) rfl rfl (fun _ => rfl) ?_
                    refine pt_s (pc1 := 912) (st1 := [.int a2, .int 5, .ref 136]) rfl rfl (fun _ => rfl) ?_
                    refine pt_s (pc1 := 913) (st1 := [.retAddr 0, .int a2, .int 5, .ref 136]) rfl rfl (fun _ => rfl) ?_
                    refine pt_s (pc1 := 915) (st1 := [.int 0, .retAddr 0, .int a2, .int 5, .ref 136]) rfl rfl (fun _ => rfl) ?_
                    refine pt_s (pc1 := 916) (st1 := [.int 3, .int 0, .retAddr 0, .int a2, .int 5, .ref 136]) rfl rfl (fun _ => rfl) ?_
                    refine pt_s (pc1 := 917) (st1 := [.int 3, .retAddr 0, .int a2, .int 5, .ref 136]) rfl rfl (fun _ => rfl) ?_
                    refine pt_s (pc1 := 918) (st1 := [.int a3, .int a2, .int 5, .ref 136]) rfl rfl (fun _ => rfl) ?_
                    refine pt_s (pc1 := 919) (st1 := [.retAddr 0, .int a3, .int a2, .int 5, .ref 136]) rfl rfl (fun _ => rfl) ?_
                    refine pt_s (pc1 := 921) (st1 := [.int 0, .retAddr 0, .int a3, .int a2, .int 5, .ref 136]) rfl rfl (fun _ => rfl) ?_
                    refine pt_s (pc1 := 922) (st1 := [.int 4, .int 0, .retAddr 0, .int a3, .int a2, .int 5, .ref 136]) rfl rfl (fun _ => rfl) ?_
                    refine pt_s (pc1 := 923) (st1 := [.int 4, .retAddr 0, .int a3, .int a2, .int 5, .ref 136]) rfl rfl (fun _ => rfl) ?_
                    refine pt_s (pc1 := 924) (st1 := [.int a4, .int a3, .int a2, .int 5, .ref 136]) rfl rfl (fun _ => rfl) ?_
                    refine pt_callv (N := pm_X10_state) (as := [.ref 136, .int 5, .int a2, .int a3, .int a4]) (rest := []) (f := 2047) (l := 83974) (c1 := 1) (k1 := 6) (c2 := 599836) (k2 := 7274189) (v := some (.int 0)) (h1 := ph_147 a2 a3 a4) rfl rfl (fun ex => px_inv_hs ex rfl rfl rfl (pg_363 a2 a3 a4) rfl rfl rfl rfl) ?_ (Nat.le_of_ble_eq_true rfl) (Nat.le_of_ble_eq_true rfl) ?_
                    · exact pq_57 a2 a3 a4 ha2 ha3 ha4
                    show px_T _ _ _ _ (927, [(5, .int 0), (4, .int 0), (3, .ref 164), (2, .ref 136), (1, .ref 0), (0, .retAddr 0)], [.int 0], _) _ _ _
                    refine pt_s (pc1 := 929) (lv1 := [(6, .int 0), (5, .int 0), (4, .int 0), (3, .ref 164), (2, .ref 136), (1, .ref 0), (0, .retAddr 0)]) (st1 := []) rfl rfl (fun _ => rfl) ?_
                    refine pt_s (pc1 := 930) (st1 := [.ref 136]) rfl rfl (fun _ => rfl) ?_
                    refine pt_callv (N := pm_X10_thrown) (as := [.ref 136]) (rest := []) (f := 2047) (l := 83980) (c1 := 0) (k1 := 0) (c2 := 599836) (k2 := 7274189) (v := some (.int 0)) (h1 := ph_147 a2 a3 a4) rfl rfl (fun ex => px_inv_hs ex rfl rfl rfl (pg_388 a2 a3 a4) rfl rfl rfl rfl) ?_ (Nat.le_of_ble_eq_true rfl) (Nat.le_of_ble_eq_true rfl) ?_
                    · refine px_C_of rfl ?_
                      refine pr_s (pc1 := 1) (st1 := [.ref 136]) rfl (fun _ => rfl) ?_
                      refine pr_getf (pc1 := 4) (v := .int 0) rfl rfl (pg_388 a2 a3 a4) rfl rfl ?_
                      exact pr_e rfl (fun _ => rfl) ⟨rfl, rfl⟩
                    show px_T _ _ _ _ (933, [(6, .int 0), (5, .int 0), (4, .int 0), (3, .ref 164), (2, .ref 136), (1, .ref 0), (0, .retAddr 0)], [.int 0], _) _ _ _
                    refine pt_s (pc1 := 935) (st1 := [.int 0, .int 0]) rfl rfl (fun _ => rfl) ?_
                    refine pt_bt (t := 940) (off := 5) (bb := decide ((0 : Int32) = 0)) (st1 := []) rfl rfl rfl rfl rfl (by decide) ?_
                    refine pt_s (pc1 := 942) (st1 := [.int 0]) rfl rfl (fun _ => rfl) ?_
                    refine pt_bf (t := 957) (off := 15) (bb := !decide ((0 : Int32) = 0)) (st1 := []) rfl rfl rfl rfl rfl (px_not_f (by decide)) ?_
                    refine pt_s (pc1 := 946) (st1 := [.ref 164]) rfl rfl (fun _ => rfl) ?_
                    refine pt_s (pc1 := 947) (st1 := [.int 0, .ref 164]) rfl rfl (fun _ => rfl) ?_
                    refine pt_lald (pc1 := 948) (x := 0) rfl (pg_389 a2 a3 a4) rfl rfl rfl ?_
                    refine pt_s (pc1 := 950) (st1 := [.int 0, .long 0]) rfl rfl (fun _ => rfl) ?_
                    refine pt_s (pc1 := 951) (st1 := [.long 0, .long 0]) rfl rfl (fun _ => rfl) ?_
                    refine pt_s (pc1 := 952) (st1 := [.int 0]) rfl rfl (fun _ => rfl) ?_
                    refine pt_bt (t := 957) (off := 5) (bb := decide ((0 : Int32) = 0)) (st1 := []) rfl rfl rfl rfl rfl (by decide) ?_
                    refine pt_s (pc1 := 2771) (st1 := []) rfl rfl (fun _ => rfl) ?_
                    refine pt_s (pc1 := 2774) (lv1 := [(4, .int 6), (6, .int 0), (5, .int 0), (3, .ref 164), (2, .ref 136), (1, .ref 0), (0, .retAddr 0)]) (st1 := []) rfl rfl (fun _ => rfl) ?_
                    refine pt_s (pc1 := 23) (st1 := []) rfl rfl (fun _ => rfl) ?_
                    refine pt_s (pc1 := 25) (st1 := [.int 6]) rfl rfl (fun _ => rfl) ?_
                    refine pt_s (pc1 := 26) (st1 := [.retAddr 0, .int 6]) rfl rfl (fun _ => rfl) ?_
                    refine pt_s (pc1 := 27) (st1 := [.int 6, .int 6]) rfl rfl (fun _ => rfl) ?_
                    refine pt_s (pc1 := 29) (st1 := [.int 6, .int 6, .int 6]) rfl rfl (fun _ => rfl) ?_
                    refine pt_s (pc1 := 30) (st1 := [.int 0, .int 6]) rfl rfl (fun _ => rfl) ?_
                    refine pt_bt (t := 2777) (off := 2747) (bb := decide ((0 : Int32) < (6 : Int32))) (st1 := []) rfl rfl rfl rfl rfl (by decide) ?_
                    refine pt_s (pc1 := 2778) (st1 := [.int 1]) rfl rfl (fun _ => rfl) ?_
                    exact pt_e rfl ⟨rfl, (rfl : px_ins pm_law 2778 = some (.ireturn, 1))⟩
                  · obtain rfl : a1 = 6 := Int32.toInt_inj.mp (hc.trans rfl)
                    refine pt_s (pc1 := 868) (st1 := []) rfl rfl (fun _ => rfl) ?_
                    refine pt_s (pc1 := 869) (st1 := [.ref 0]) rfl rfl (fun _ => rfl) ?_
                    refine pt_s (pc1 := 870) (st1 := [.retAddr 0, .ref 0]) rfl rfl (fun _ => rfl) ?_
                    refine pt_s (pc1 := 872) (st1 := [.int 0, .retAddr 0, .ref 0]) rfl rfl (fun _ => rfl) ?_
                    refine pt_s (pc1 := 873) (st1 := [.int 1, .int 0, .retAddr 0, .ref 0]) rfl rfl (fun _ => rfl) ?_
                    refine pt_s (pc1 := 874) (st1 := [.int 1, .retAddr 0, .ref 0]) rfl rfl (fun _ => rfl) ?_
                    refine pt_s (pc1 := 875) (st1 := [.int 6, .ref 0]) rfl rfl (fun _ => rfl) ?_
                    refine pt_s (pc1 := 876) (st1 := [.retAddr 0, .int 6, .ref 0]) rfl rfl (fun _ => rfl) ?_
                    refine pt_s (pc1 := 878) (st1 := [.int 0, .retAddr 0, .int 6, .ref 0]) rfl rfl (fun _ => rfl) ?_
                    refine pt_s (pc1 := 879) (st1 := [.int 2, .int 0, .retAddr 0, .int 6, .ref 0]) rfl rfl (fun _ => rfl) ?_
                    refine pt_s (pc1 := 880) (st1 := [.int 2, .retAddr 0, .int 6, .ref 0]) rfl rfl (fun _ => rfl) ?_
                    refine pt_s (pc1 := 881) (st1 := [.int a2, .int 6, .ref 0]) rfl rfl (fun _ => rfl) ?_
                    refine pt_s (pc1 := 882) (st1 := [.retAddr 0, .int a2, .int 6, .ref 0]) rfl rfl (fun _ => rfl) ?_
                    refine pt_s (pc1 := 884) (st1 := [.int 0, .retAddr 0, .int a2, .int 6, .ref 0]) rfl rfl (fun _ => rfl) ?_
                    refine pt_s (pc1 := 885) (st1 := [.int 3, .int 0, .retAddr 0, .int a2, .int 6, .ref 0]) rfl rfl (fun _ => rfl) ?_
                    refine pt_s (pc1 := 886) (st1 := [.int 3, .retAddr 0, .int a2, .int 6, .ref 0]) rfl rfl (fun _ => rfl) ?_
                    refine pt_s (pc1 := 887) (st1 := [.int a3, .int a2, .int 6, .ref 0]) rfl rfl (fun _ => rfl) ?_
                    refine pt_s (pc1 := 888) (st1 := [.retAddr 0, .int a3, .int a2, .int 6, .ref 0]) rfl rfl (fun _ => rfl) ?_
                    refine pt_s (pc1 := 890) (st1 := [.int 0, .retAddr 0, .int a3, .int a2, .int 6, .ref 0]) rfl rfl (fun _ => rfl) ?_
                    refine pt_s (pc1 := 891) (st1 := [.int 4, .int 0, .retAddr 0, .int a3, .int a2, .int 6, .ref 0]) rfl rfl (fun _ => rfl) ?_
                    refine pt_s (pc1 := 892) (st1 := [.int 4, .retAddr 0, .int a3, .int a2, .int 6, .ref 0]) rfl rfl (fun _ => rfl) ?_
                    refine pt_s (pc1 := 893) (st1 := [.int a4, .int a3, .int a2, .int 6, .ref 0]) rfl rfl (fun _ => rfl) ?_
                    refine pt_s (pc1 := 894) (st1 := [.ref 164, .int a4, .int a3, .int a2, .int 6, .ref 0]) rfl rfl (fun _ => rfl) ?_
                    refine pt_callv (N := pm_L_state) (as := [.ref 0, .int 6, .int a2, .int a3, .int a4, .ref 164]) (rest := []) (f := 2047) (l := 83974) (c1 := 0) (k1 := 0) (c2 := 599837) (k2 := 7274195) (v := some (.int 0)) (h1 := ph_158 a2 a3 a4) rfl rfl (fun _ => rfl) ?_ (Nat.le_of_ble_eq_true rfl) (Nat.le_of_ble_eq_true rfl) ?_
                    · refine px_C_of rfl ?_
                      refine pr_s (pc1 := 2) (st1 := [.ref 164]) rfl (fun _ => rfl) ?_
                      refine pr_s (pc1 := 3) (st1 := [.int 0, .ref 164]) rfl (fun _ => rfl) ?_
                      refine pr_s (pc1 := 4) (st1 := [.ref 0, .int 0, .ref 164]) rfl (fun _ => rfl) ?_
                      refine pr_s (pc1 := 5) (st1 := [.int 6, .ref 0, .int 0, .ref 164]) rfl (fun _ => rfl) ?_
                      refine pr_s (pc1 := 6) (st1 := [.int a2, .int 6, .ref 0, .int 0, .ref 164]) rfl (fun _ => rfl) ?_
                      refine pr_s (pc1 := 7) (st1 := [.int a3, .int a2, .int 6, .ref 0, .int 0, .ref 164]) rfl (fun _ => rfl) ?_
                      refine pr_s (pc1 := 9) (st1 := [.int a4, .int a3, .int a2, .int 6, .ref 0, .int 0, .ref 164]) rfl (fun _ => rfl) ?_
                      refine pr_callv (N := pm_X6_state) (as := [.ref 0, .int 6, .int a2, .int a3, .int a4]) (rest := [.int 0, .ref 164]) (f := 2046) (l := 83949) (c1 := 0) (k1 := 0) (c2 := 0) (k2 := 0) (v := some (.int 0)) (h1 := ph_157 a2 a3 a4) rfl (fun ex => px_inv_hs ex rfl rfl rfl pg_0 rfl rfl rfl rfl) ?_ (Nat.le_of_ble_eq_true rfl) (Nat.le_of_ble_eq_true rfl) ?_
                      · exact pq_63 a2 a3 a4 ha2 ha3 ha4
                      show px_R _ _ _ _ (12, [(0, .ref 0), (1, .int 6), (2, .int a2), (3, .int a3), (4, .int a4), (5, .ref 164)], [.int 0, .int 0, .ref 164], _) _ _ _
                      refine pr_s (pc1 := 13) (st1 := [.long 0, .int 0, .ref 164]) rfl (fun _ => rfl) ?_
                      refine pr_last (pc1 := 14) (h1 := ph_158 a2 a3 a4) rfl (pg_420 a2 a3 a4) rfl rfl rfl ?_
                      refine pr_s (pc1 := 25) (st1 := []) rfl (fun _ => rfl) ?_
                      refine pr_s (pc1 := 26) (st1 := [.int 0]) rfl (fun _ => rfl) ?_
                      exact pr_e rfl (fun _ => rfl) ⟨rfl, rfl⟩
                    show px_T _ _ _ _ (897, [(4, .int 0), (3, .ref 164), (2, .ref 136), (1, .ref 0), (0, .retAddr 0)], [.int 0], _) _ _ _
                    refine pt_s (pc1 := 899) (lv1 := [(5, .int 0), (4, .int 0), (3, .ref 164), (2, .ref 136), (1, .ref 0), (0, .retAddr 0)]) (st1 := []) rfl rfl (fun _ => rfl) ?_
                    refine pt_s (pc1 := 900) (st1 := [.ref 136]) rfl rfl (fun _ => rfl) ?_
                    refine pt_s (pc1 := 901) (st1 := [.retAddr 0, .ref 136]) rfl rfl (fun _ => rfl) ?_
                    refine pt_s (pc1 := 903) (st1 := [.int 0, .retAddr 0, .ref 136]) rfl rfl (fun _ => rfl) ?_
                    refine pt_s (pc1 := 904) (st1 := [.int 1, .int 0, .retAddr 0, .ref 136]) rfl rfl (fun _ => rfl) ?_
                    refine pt_s (pc1 := 905) (st1 := [.int 1, .retAddr 0, .ref 136]) rfl rfl (fun _ => rfl) ?_
                    refine pt_s (pc1 := 906) (st1 := [.int 6, .ref 136]) rfl rfl (fun _ => rfl) ?_
                    refine pt_s (pc1 := 907) (st1 := [.retAddr 0, .int 6, .ref 136]) rfl rfl (fun _ => rfl) ?_
                    refine pt_s (pc1 := 909) (st1 := [.int 0, .retAddr 0, .int 6, .ref 136]) rfl rfl (fun _ => rfl) ?_
                    refine pt_s (pc1 := 910) (st1 := [.int 2, .int 0, .retAddr 0, .int 6, .ref 136]) rfl rfl (fun _ => rfl) ?_
                    refine pt_s (pc1 := 911) (st1 := [.int 2, .retAddr 0, .int 6, .ref 136]) rfl rfl (fun _ => rfl) ?_
                    refine pt_s (pc1 := 912) (st1 := [.int a2, .int 6, .ref 136]) rfl rfl (fun _ => rfl) ?_
                    refine pt_s (pc1 := 913) (st1 := [.retAddr 0, .int a2, .int 6, .ref 136]) rfl rfl (fun _ => rfl) ?_
                    refine pt_s (pc1 := 915) (st1 := [.int 0, .retAddr 0, .int a2, .int 6, .ref 136]) rfl rfl (fun _ => rfl) ?_
                    refine pt_s (pc1 := 916) (st1 := [.int 3, .int 0, .retAddr 0, .int a2, .int 6, .ref 136]) rfl rfl (fun _ => rfl) ?_
                    refine pt_s (pc1 := 917) (st1 := [.int 3, .retAddr 0, .int a2, .int 6, .ref 136]) rfl rfl (fun _ => rfl) ?_
                    refine pt_s (pc1 := 918) (st1 := [.int a3, .int a2, .int 6, .ref 136]) rfl rfl (fun _ => rfl) ?_
                    refine pt_s (pc1 := 919) (st1 := [.retAddr 0, .int a3, .int a2, .int 6, .ref 136]) rfl rfl (fun _ => rfl) ?_
                    refine pt_s (pc1 := 921) (st1 := [.int 0, .retAddr 0, .int a3, .int a2, .int 6, .ref 136]) rfl rfl (fun _ => rfl) ?_
                    refine pt_s (pc1 := 922) (st1 := [.int 4, .int 0, .retAddr 0, .int a3, .int a2, .int 6, .ref 136]) rfl rfl (fun _ => rfl) ?_
                    refine pt_s (pc1 := 923) (st1 := [.int 4, .retAddr 0, .int a3, .int a2, .int 6, .ref 136]) rfl rfl (fun _ => rfl) ?_
                    refine pt_s (pc1 := 924) (st1 := [.int a4, .int a3, .int a2, .int 6, .ref 136]) rfl rfl (fun _ => rfl) ?_
                    refine pt_callv (N := pm_X10_state) (as := [.ref 136, .int 6, .int a2, .int a3, .int a4]) (rest := []) (f := 2047) (l := 83974) (c1 := 1) (k1 := 6) (c2 := 599836) (k2 := 7274189) (v := some (.int 0)) (h1 := ph_169 a2 a3 a4) rfl rfl (fun ex => px_inv_hs ex rfl rfl rfl (pg_421 a2 a3 a4) rfl rfl rfl rfl) ?_ (Nat.le_of_ble_eq_true rfl) (Nat.le_of_ble_eq_true rfl) ?_
                    · exact pq_66 a2 a3 a4 ha2 ha3 ha4
                    show px_T _ _ _ _ (927, [(5, .int 0), (4, .int 0), (3, .ref 164), (2, .ref 136), (1, .ref 0), (0, .retAddr 0)], [.int 0], _) _ _ _
                    refine pt_s (pc1 := 929) (lv1 := [(6, .int 0), (5, .int 0), (4, .int 0), (3, .ref 164), (2, .ref 136), (1, .ref 0), (0, .retAddr 0)]) (st1 := []) rfl rfl (fun _ => rfl) ?_
                    refine pt_s (pc1 := 930) (st1 := [.ref 136]) rfl rfl (fun _ => rfl) ?_
                    refine pt_callv (N := pm_X10_thrown) (as := [.ref 136]) (rest := []) (f := 2047) (l := 83980) (c1 := 0) (k1 := 0) (c2 := 599836) (k2 := 7274189) (v := some (.int 0)) (h1 := ph_169 a2 a3 a4) rfl rfl (fun ex => px_inv_hs ex rfl rfl rfl (pg_446 a2 a3 a4) rfl rfl rfl rfl) ?_ (Nat.le_of_ble_eq_true rfl) (Nat.le_of_ble_eq_true rfl) ?_
                    · refine px_C_of rfl ?_
                      refine pr_s (pc1 := 1) (st1 := [.ref 136]) rfl (fun _ => rfl) ?_
                      refine pr_getf (pc1 := 4) (v := .int 0) rfl rfl (pg_446 a2 a3 a4) rfl rfl ?_
                      exact pr_e rfl (fun _ => rfl) ⟨rfl, rfl⟩
                    show px_T _ _ _ _ (933, [(6, .int 0), (5, .int 0), (4, .int 0), (3, .ref 164), (2, .ref 136), (1, .ref 0), (0, .retAddr 0)], [.int 0], _) _ _ _
                    refine pt_s (pc1 := 935) (st1 := [.int 0, .int 0]) rfl rfl (fun _ => rfl) ?_
                    refine pt_bt (t := 940) (off := 5) (bb := decide ((0 : Int32) = 0)) (st1 := []) rfl rfl rfl rfl rfl (by decide) ?_
                    refine pt_s (pc1 := 942) (st1 := [.int 0]) rfl rfl (fun _ => rfl) ?_
                    refine pt_bf (t := 957) (off := 15) (bb := !decide ((0 : Int32) = 0)) (st1 := []) rfl rfl rfl rfl rfl (px_not_f (by decide)) ?_
                    refine pt_s (pc1 := 946) (st1 := [.ref 164]) rfl rfl (fun _ => rfl) ?_
                    refine pt_s (pc1 := 947) (st1 := [.int 0, .ref 164]) rfl rfl (fun _ => rfl) ?_
                    refine pt_lald (pc1 := 948) (x := 0) rfl (pg_447 a2 a3 a4) rfl rfl rfl ?_
                    refine pt_s (pc1 := 950) (st1 := [.int 0, .long 0]) rfl rfl (fun _ => rfl) ?_
                    refine pt_s (pc1 := 951) (st1 := [.long 0, .long 0]) rfl rfl (fun _ => rfl) ?_
                    refine pt_s (pc1 := 952) (st1 := [.int 0]) rfl rfl (fun _ => rfl) ?_
                    refine pt_bt (t := 957) (off := 5) (bb := decide ((0 : Int32) = 0)) (st1 := []) rfl rfl rfl rfl rfl (by decide) ?_
                    refine pt_s (pc1 := 2771) (st1 := []) rfl rfl (fun _ => rfl) ?_
                    refine pt_s (pc1 := 2774) (lv1 := [(4, .int 6), (6, .int 0), (5, .int 0), (3, .ref 164), (2, .ref 136), (1, .ref 0), (0, .retAddr 0)]) (st1 := []) rfl rfl (fun _ => rfl) ?_
                    refine pt_s (pc1 := 23) (st1 := []) rfl rfl (fun _ => rfl) ?_
                    refine pt_s (pc1 := 25) (st1 := [.int 6]) rfl rfl (fun _ => rfl) ?_
                    refine pt_s (pc1 := 26) (st1 := [.retAddr 0, .int 6]) rfl rfl (fun _ => rfl) ?_
                    refine pt_s (pc1 := 27) (st1 := [.int 6, .int 6]) rfl rfl (fun _ => rfl) ?_
                    refine pt_s (pc1 := 29) (st1 := [.int 6, .int 6, .int 6]) rfl rfl (fun _ => rfl) ?_
                    refine pt_s (pc1 := 30) (st1 := [.int 0, .int 6]) rfl rfl (fun _ => rfl) ?_
                    refine pt_bt (t := 2777) (off := 2747) (bb := decide ((0 : Int32) < (6 : Int32))) (st1 := []) rfl rfl rfl rfl rfl (by decide) ?_
                    refine pt_s (pc1 := 2778) (st1 := [.int 1]) rfl rfl (fun _ => rfl) ?_
                    exact pt_e rfl ⟨rfl, (rfl : px_ins pm_law 2778 = some (.ireturn, 1))⟩
                  · obtain rfl : a1 = 7 := Int32.toInt_inj.mp (hc.trans rfl)
                    refine pt_s (pc1 := 868) (st1 := []) rfl rfl (fun _ => rfl) ?_
                    refine pt_s (pc1 := 869) (st1 := [.ref 0]) rfl rfl (fun _ => rfl) ?_
                    refine pt_s (pc1 := 870) (st1 := [.retAddr 0, .ref 0]) rfl rfl (fun _ => rfl) ?_
                    refine pt_s (pc1 := 872) (st1 := [.int 0, .retAddr 0, .ref 0]) rfl rfl (fun _ => rfl) ?_
                    refine pt_s (pc1 := 873) (st1 := [.int 1, .int 0, .retAddr 0, .ref 0]) rfl rfl (fun _ => rfl) ?_
                    refine pt_s (pc1 := 874) (st1 := [.int 1, .retAddr 0, .ref 0]) rfl rfl (fun _ => rfl) ?_
                    refine pt_s (pc1 := 875) (st1 := [.int 7, .ref 0]) rfl rfl (fun _ => rfl) ?_
                    refine pt_s (pc1 := 876) (st1 := [.retAddr 0, .int 7, .ref 0]) rfl rfl (fun _ => rfl) ?_
                    refine pt_s (pc1 := 878) (st1 := [.int 0, .retAddr 0, .int 7, .ref 0]) rfl rfl (fun _ => rfl) ?_
                    refine pt_s (pc1 := 879) (st1 := [.int 2, .int 0, .retAddr 0, .int 7, .ref 0]) rfl rfl (fun _ => rfl) ?_
                    refine pt_s (pc1 := 880) (st1 := [.int 2, .retAddr 0, .int 7, .ref 0]) rfl rfl (fun _ => rfl) ?_
                    refine pt_s (pc1 := 881) (st1 := [.int a2, .int 7, .ref 0]) rfl rfl (fun _ => rfl) ?_
                    refine pt_s (pc1 := 882) (st1 := [.retAddr 0, .int a2, .int 7, .ref 0]) rfl rfl (fun _ => rfl) ?_
                    refine pt_s (pc1 := 884) (st1 := [.int 0, .retAddr 0, .int a2, .int 7, .ref 0]) rfl rfl (fun _ => rfl) ?_
                    refine pt_s (pc1 := 885) (st1 := [.int 3, .int 0, .retAddr 0, .int a2, .int 7, .ref 0]) rfl rfl (fun _ => rfl) ?_
                    refine pt_s (pc1 := 886) (st1 := [.int 3, .retAddr 0, .int a2, .int 7, .ref 0]) rfl rfl (fun _ => rfl) ?_
                    refine pt_s (pc1 := 887) (st1 := [.int a3, .int a2, .int 7, .ref 0]) rfl rfl (fun _ => rfl) ?_
                    refine pt_s (pc1 := 888) (st1 := [.retAddr 0, .int a3, .int a2, .int 7, .ref 0]) rfl rfl (fun _ => rfl) ?_
                    refine pt_s (pc1 := 890) (st1 := [.int 0, .retAddr 0, .int a3, .int a2, .int 7, .ref 0]) rfl rfl (fun _ => rfl) ?_
                    refine pt_s (pc1 := 891) (st1 := [.int 4, .int 0, .retAddr 0, .int a3, .int a2, .int 7, .ref 0]) rfl rfl (fun _ => rfl) ?_
                    refine pt_s (pc1 := 892) (st1 := [.int 4, .retAddr 0, .int a3, .int a2, .int 7, .ref 0]) rfl rfl (fun _ => rfl) ?_
                    refine pt_s (pc1 := 893) (st1 := [.int a4, .int a3, .int a2, .int 7, .ref 0]) rfl rfl (fun _ => rfl) ?_
                    refine pt_s (pc1 := 894) (st1 := [.ref 164, .int a4, .int a3, .int a2, .int 7, .ref 0]) rfl rfl (fun _ => rfl) ?_
                    refine pt_callv (N := pm_L_state) (as := [.ref 0, .int 7, .int a2, .int a3, .int a4, .ref 164]) (rest := []) (f := 2047) (l := 83974) (c1 := 0) (k1 := 0) (c2 := 599837) (k2 := 7274195) (v := some (.int 0)) (h1 := ph_180 a2 a3 a4) rfl rfl (fun _ => rfl) ?_ (Nat.le_of_ble_eq_true rfl) (Nat.le_of_ble_eq_true rfl) ?_
                    · refine px_C_of rfl ?_
                      refine pr_s (pc1 := 2) (st1 := [.ref 164]) rfl (fun _ => rfl) ?_
                      refine pr_s (pc1 := 3) (st1 := [.int 0, .ref 164]) rfl (fun _ => rfl) ?_
                      refine pr_s (pc1 := 4) (st1 := [.ref 0, .int 0, .ref 164]) rfl (fun _ => rfl) ?_
                      refine pr_s (pc1 := 5) (st1 := [.int 7, .ref 0, .int 0, .ref 164]) rfl (fun _ => rfl) ?_
                      refine pr_s (pc1 := 6) (st1 := [.int a2, .int 7, .ref 0, .int 0, .ref 164]) rfl (fun _ => rfl) ?_
                      refine pr_s (pc1 := 7) (st1 := [.int a3, .int a2, .int 7, .ref 0, .int 0, .ref 164]) rfl (fun _ => rfl) ?_
                      refine pr_s (pc1 := 9) (st1 := [.int a4, .int a3, .int a2, .int 7, .ref 0, .int 0, .ref 164]) rfl (fun _ => rfl) ?_
                      refine pr_callv (N := pm_X6_state) (as := [.ref 0, .int 7, .int a2, .int a3, .int a4]) (rest := [.int 0, .ref 164]) (f := 2046) (l := 83949) (c1 := 0) (k1 := 0) (c2 := 0) (k2 := 0) (v := some (.int 0)) (h1 := ph_179 a2 a3 a4) rfl (fun ex => px_inv_hs ex rfl rfl rfl pg_0 rfl rfl rfl rfl) ?_ (Nat.le_of_ble_eq_true rfl) (Nat.le_of_ble_eq_true rfl) ?_
                      · exact pq_72 a2 a3 a4 ha2 ha3 ha4
                      show px_R _ _ _ _ (12, [(0, .ref 0), (1, .int 7), (2, .int a2), (3, .int a3), (4, .int a4), (5, .ref 164)], [.int 0, .int 0, .ref 164], _) _ _ _
                      refine pr_s (pc1 := 13) (st1 := [.long 0, .int 0, .ref 164]) rfl (fun _ => rfl) ?_
                      refine pr_last (pc1 := 14) (h1 := ph_180 a2 a3 a4) rfl (pg_478 a2 a3 a4) rfl rfl rfl ?_
                      refine pr_s (pc1 := 25) (st1 := []) rfl (fun _ => rfl) ?_
                      refine pr_s (pc1 := 26) (st1 := [.int 0]) rfl (fun _ => rfl) ?_
                      exact pr_e rfl (fun _ => rfl) ⟨rfl, rfl⟩
                    show px_T _ _ _ _ (897, [(4, .int 0), (3, .ref 164), (2, .ref 136), (1, .ref 0), (0, .retAddr 0)], [.int 0], _) _ _ _
                    refine pt_s (pc1 := 899) (lv1 := [(5, .int 0), (4, .int 0), (3, .ref 164), (2, .ref 136), (1, .ref 0), (0, .retAddr 0)]) (st1 := []) rfl rfl (fun _ => rfl) ?_
                    refine pt_s (pc1 := 900) (st1 := [.ref 136]) rfl rfl (fun _ => rfl) ?_
                    refine pt_s (pc1 := 901) (st1 := [.retAddr 0, .ref 136]) rfl rfl (fun _ => rfl) ?_
                    refine pt_s (pc1 := 903) (st1 := [.int 0, .retAddr 0, .ref 136]) rfl rfl (fun _ => rfl) ?_
                    refine pt_s (pc1 := 904) (st1 := [.int 1, .int 0, .retAddr 0, .ref 136]) rfl rfl (fun _ => rfl) ?_
                    refine pt_s (pc1 := 905) (st1 := [.int 1, .retAddr 0, .ref 136]) rfl rfl (fun _ => rfl) ?_
                    refine pt_s (pc1 := 906) (st1 := [.int 7, .ref 136]) rfl rfl (fun _ => rfl) ?_
                    refine pt_s (pc1 := 907) (st1 := [.retAddr 0, .int 7, .ref 136]) rfl rfl (fun _ => rfl) ?_
                    refine pt_s (pc1 := 909) (st1 := [.int 0, .retAddr 0, .int 7, .ref 136]) rfl rfl (fun _ => rfl) ?_
                    refine pt_s (pc1 := 910) (st1 := [.int 2, .int 0, .retAddr 0, .int 7, .ref 136]) rfl rfl (fun _ => rfl) ?_
                    refine pt_s (pc1 := 911) (st1 := [.int 2, .retAddr 0, .int 7, .ref 136]) rfl rfl (fun _ => rfl) ?_
                    refine pt_s (pc1 := 912) (st1 := [.int a2, .int 7, .ref 136]) rfl rfl (fun _ => rfl) ?_
                    refine pt_s (pc1 := 913) (st1 := [.retAddr 0, .int a2, .int 7, .ref 136]) rfl rfl (fun _ => rfl) ?_
                    refine pt_s (pc1 := 915) (st1 := [.int 0, .retAddr 0, .int a2, .int 7, .ref 136]) rfl rfl (fun _ => rfl) ?_
                    refine pt_s (pc1 := 916) (st1 := [.int 3, .int 0, .retAddr 0, .int a2, .int 7, .ref 136]) rfl rfl (fun _ => rfl) ?_
                    refine pt_s (pc1 := 917) (st1 := [.int 3, .retAddr 0, .int a2, .int 7, .ref 136]) rfl rfl (fun _ => rfl) ?_
                    refine pt_s (pc1 := 918) (st1 := [.int a3, .int a2, .int 7, .ref 136]) rfl rfl (fun _ => rfl) ?_
                    refine pt_s (pc1 := 919) (st1 := [.retAddr 0, .int a3, .int a2, .int 7, .ref 136]) rfl rfl (fun _ => rfl) ?_
                    refine pt_s (pc1 := 921) (st1 := [.int 0, .retAddr 0, .int a3, .int a2, .int 7, .ref 136]) rfl rfl (fun _ => rfl) ?_
                    refine pt_s (pc1 := 922) (st1 := [.int 4, .int 0, .retAddr 0, .int a3, .int a2, .int 7, .ref 136]) rfl rfl (fun _ => rfl) ?_
                    refine pt_s (pc1 := 923) (st1 := [.int 4, .retAddr 0, .int a3, .int a2, .int 7, .ref 136]) rfl rfl (fun _ => rfl) ?_
                    refine pt_s (pc1 := 924) (st1 := [.int a4, .int a3, .int a2, .int 7, .ref 136]) rfl rfl (fun _ => rfl) ?_
                    refine pt_callv (N := pm_X10_state) (as := [.ref 136, .int 7, .int a2, .int a3, .int a4]) (rest := []) (f := 2047) (l := 83974) (c1 := 1) (k1 := 6) (c2 := 599836) (k2 := 7274189) (v := some (.int 0)) (h1 := ph_191 a2 a3 a4) rfl rfl (fun ex => px_inv_hs ex rfl rfl rfl (pg_479 a2 a3 a4) rfl rfl rfl rfl) ?_ (Nat.le_of_ble_eq_true rfl) (Nat.le_of_ble_eq_true rfl) ?_
                    · exact pq_75 a2 a3 a4 ha2 ha3 ha4
                    show px_T _ _ _ _ (927, [(5, .int 0), (4, .int 0), (3, .ref 164), (2, .ref 136), (1, .ref 0), (0, .retAddr 0)], [.int 0], _) _ _ _
                    refine pt_s (pc1 := 929) (lv1 := [(6, .int 0), (5, .int 0), (4, .int 0), (3, .ref 164), (2, .ref 136), (1, .ref 0), (0, .retAddr 0)]) (st1 := []) rfl rfl (fun _ => rfl) ?_
                    refine pt_s (pc1 := 930) (st1 := [.ref 136]) rfl rfl (fun _ => rfl) ?_
                    refine pt_callv (N := pm_X10_thrown) (as := [.ref 136]) (rest := []) (f := 2047) (l := 83980) (c1 := 0) (k1 := 0) (c2 := 599836) (k2 := 7274189) (v := some (.int 0)) (h1 := ph_191 a2 a3 a4) rfl rfl (fun ex => px_inv_hs ex rfl rfl rfl (pg_504 a2 a3 a4) rfl rfl rfl rfl) ?_ (Nat.le_of_ble_eq_true rfl) (Nat.le_of_ble_eq_true rfl) ?_
                    · refine px_C_of rfl ?_
                      refine pr_s (pc1 := 1) (st1 := [.ref 136]) rfl (fun _ => rfl) ?_
                      refine pr_getf (pc1 := 4) (v := .int 0) rfl rfl (pg_504 a2 a3 a4) rfl rfl ?_
                      exact pr_e rfl (fun _ => rfl) ⟨rfl, rfl⟩
                    show px_T _ _ _ _ (933, [(6, .int 0), (5, .int 0), (4, .int 0), (3, .ref 164), (2, .ref 136), (1, .ref 0), (0, .retAddr 0)], [.int 0], _) _ _ _
                    refine pt_s (pc1 := 935) (st1 := [.int 0, .int 0]) rfl rfl (fun _ => rfl) ?_
                    refine pt_bt (t := 940) (off := 5) (bb := decide ((0 : Int32) = 0)) (st1 := []) rfl rfl rfl rfl rfl (by decide) ?_
                    refine pt_s (pc1 := 942) (st1 := [.int 0]) rfl rfl (fun _ => rfl) ?_
                    refine pt_bf (t := 957) (off := 15) (bb := !decide ((0 : Int32) = 0)) (st1 := []) rfl rfl rfl rfl rfl (px_not_f (by decide)) ?_
                    refine pt_s (pc1 := 946) (st1 := [.ref 164]) rfl rfl (fun _ => rfl) ?_
                    refine pt_s (pc1 := 947) (st1 := [.int 0, .ref 164]) rfl rfl (fun _ => rfl) ?_
                    refine pt_lald (pc1 := 948) (x := 0) rfl (pg_505 a2 a3 a4) rfl rfl rfl ?_
                    refine pt_s (pc1 := 950) (st1 := [.int 0, .long 0]) rfl rfl (fun _ => rfl) ?_
                    refine pt_s (pc1 := 951) (st1 := [.long 0, .long 0]) rfl rfl (fun _ => rfl) ?_
                    refine pt_s (pc1 := 952) (st1 := [.int 0]) rfl rfl (fun _ => rfl) ?_
                    refine pt_bt (t := 957) (off := 5) (bb := decide ((0 : Int32) = 0)) (st1 := []) rfl rfl rfl rfl rfl (by decide) ?_
                    refine pt_s (pc1 := 2771) (st1 := []) rfl rfl (fun _ => rfl) ?_
                    refine pt_s (pc1 := 2774) (lv1 := [(4, .int 6), (6, .int 0), (5, .int 0), (3, .ref 164), (2, .ref 136), (1, .ref 0), (0, .retAddr 0)]) (st1 := []) rfl rfl (fun _ => rfl) ?_
                    refine pt_s (pc1 := 23) (st1 := []) rfl rfl (fun _ => rfl) ?_
                    refine pt_s (pc1 := 25) (st1 := [.int 6]) rfl rfl (fun _ => rfl) ?_
                    refine pt_s (pc1 := 26) (st1 := [.retAddr 0, .int 6]) rfl rfl (fun _ => rfl) ?_
                    refine pt_s (pc1 := 27) (st1 := [.int 6, .int 6]) rfl rfl (fun _ => rfl) ?_
                    refine pt_s (pc1 := 29) (st1 := [.int 6, .int 6, .int 6]) rfl rfl (fun _ => rfl) ?_
                    refine pt_s (pc1 := 30) (st1 := [.int 0, .int 6]) rfl rfl (fun _ => rfl) ?_
                    refine pt_bt (t := 2777) (off := 2747) (bb := decide ((0 : Int32) < (6 : Int32))) (st1 := []) rfl rfl rfl rfl rfl (by decide) ?_
                    refine pt_s (pc1 := 2778) (st1 := [.int 1]) rfl rfl (fun _ => rfl) ?_
                    exact pt_e rfl ⟨rfl, (rfl : px_ins pm_law 2778 = some (.ireturn, 1))⟩
                · have ha4 : 1000 ≤ a4.toInt ∧ a4.toInt ≤ 2147483647 := ⟨by omega, ha4.2⟩
                  refine pt_s (pc1 := 868) (st1 := []) rfl rfl (fun _ => rfl) ?_
                  refine pt_s (pc1 := 869) (st1 := [.ref 0]) rfl rfl (fun _ => rfl) ?_
                  refine pt_s (pc1 := 870) (st1 := [.retAddr 0, .ref 0]) rfl rfl (fun _ => rfl) ?_
                  refine pt_s (pc1 := 872) (st1 := [.int 0, .retAddr 0, .ref 0]) rfl rfl (fun _ => rfl) ?_
                  refine pt_s (pc1 := 873) (st1 := [.int 1, .int 0, .retAddr 0, .ref 0]) rfl rfl (fun _ => rfl) ?_
                  refine pt_s (pc1 := 874) (st1 := [.int 1, .retAddr 0, .ref 0]) rfl rfl (fun _ => rfl) ?_
                  refine pt_s (pc1 := 875) (st1 := [.int a1, .ref 0]) rfl rfl (fun _ => rfl) ?_
                  refine pt_s (pc1 := 876) (st1 := [.retAddr 0, .int a1, .ref 0]) rfl rfl (fun _ => rfl) ?_
                  refine pt_s (pc1 := 878) (st1 := [.int 0, .retAddr 0, .int a1, .ref 0]) rfl rfl (fun _ => rfl) ?_
                  refine pt_s (pc1 := 879) (st1 := [.int 2, .int 0, .retAddr 0, .int a1, .ref 0]) rfl rfl (fun _ => rfl) ?_
                  refine pt_s (pc1 := 880) (st1 := [.int 2, .retAddr 0, .int a1, .ref 0]) rfl rfl (fun _ => rfl) ?_
                  refine pt_s (pc1 := 881) (st1 := [.int a2, .int a1, .ref 0]) rfl rfl (fun _ => rfl) ?_
                  refine pt_s (pc1 := 882) (st1 := [.retAddr 0, .int a2, .int a1, .ref 0]) rfl rfl (fun _ => rfl) ?_
                  refine pt_s (pc1 := 884) (st1 := [.int 0, .retAddr 0, .int a2, .int a1, .ref 0]) rfl rfl (fun _ => rfl) ?_
                  refine pt_s (pc1 := 885) (st1 := [.int 3, .int 0, .retAddr 0, .int a2, .int a1, .ref 0]) rfl rfl (fun _ => rfl) ?_
                  refine pt_s (pc1 := 886) (st1 := [.int 3, .retAddr 0, .int a2, .int a1, .ref 0]) rfl rfl (fun _ => rfl) ?_
                  refine pt_s (pc1 := 887) (st1 := [.int a3, .int a2, .int a1, .ref 0]) rfl rfl (fun _ => rfl) ?_
                  refine pt_s (pc1 := 888) (st1 := [.retAddr 0, .int a3, .int a2, .int a1, .ref 0]) rfl rfl (fun _ => rfl) ?_
                  refine pt_s (pc1 := 890) (st1 := [.int 0, .retAddr 0, .int a3, .int a2, .int a1, .ref 0]) rfl rfl (fun _ => rfl) ?_
                  refine pt_s (pc1 := 891) (st1 := [.int 4, .int 0, .retAddr 0, .int a3, .int a2, .int a1, .ref 0]) rfl rfl (fun _ => rfl) ?_
                  refine pt_s (pc1 := 892) (st1 := [.int 4, .retAddr 0, .int a3, .int a2, .int a1, .ref 0]) rfl rfl (fun _ => rfl) ?_
                  refine pt_s (pc1 := 893) (st1 := [.int a4, .int a3, .int a2, .int a1, .ref 0]) rfl rfl (fun _ => rfl) ?_
                  refine pt_s (pc1 := 894) (st1 := [.ref 164, .int a4, .int a3, .int a2, .int a1, .ref 0]) rfl rfl (fun _ => rfl) ?_
                  refine pt_callv (N := pm_L_state) (as := [.ref 0, .int a1, .int a2, .int a3, .int a4, .ref 164]) (rest := []) (f := 2047) (l := 83974) (c1 := 1) (k1 := 6) (c2 := 599836) (k2 := 7274189) (v := some (.int 1)) (h1 := ph_1) rfl rfl (fun _ => rfl) ?_ (Nat.le_of_ble_eq_true rfl) (Nat.le_of_ble_eq_true rfl) ?_
                  · exact pq_76 a1 a2 a3 a4 ha1 ha2 ha3 ha4
                  show px_T _ _ _ _ (897, [(4, .int 0), (3, .ref 164), (2, .ref 136), (1, .ref 0), (0, .retAddr 0)], [.int 1], _) _ _ _
                  refine pt_s (pc1 := 899) (lv1 := [(5, .int 1), (4, .int 0), (3, .ref 164), (2, .ref 136), (1, .ref 0), (0, .retAddr 0)]) (st1 := []) rfl rfl (fun _ => rfl) ?_
                  refine pt_s (pc1 := 900) (st1 := [.ref 136]) rfl rfl (fun _ => rfl) ?_
                  refine pt_s (pc1 := 901) (st1 := [.retAddr 0, .ref 136]) rfl rfl (fun _ => rfl) ?_
                  refine pt_s (pc1 := 903) (st1 := [.int 0, .retAddr 0, .ref 136]) rfl rfl (fun _ => rfl) ?_
                  refine pt_s (pc1 := 904) (st1 := [.int 1, .int 0, .retAddr 0, .ref 136]) rfl rfl (fun _ => rfl) ?_
                  refine pt_s (pc1 := 905) (st1 := [.int 1, .retAddr 0, .ref 136]) rfl rfl (fun _ => rfl) ?_
                  refine pt_s (pc1 := 906) (st1 := [.int a1, .ref 136]) rfl rfl (fun _ => rfl) ?_
                  refine pt_s (pc1 := 907) (st1 := [.retAddr 0, .int a1, .ref 136]) rfl rfl (fun _ => rfl) ?_
                  refine pt_s (pc1 := 909) (st1 := [.int 0, .retAddr 0, .int a1, .ref 136]) rfl rfl (fun _ => rfl) ?_
                  refine pt_s (pc1 := 910) (st1 := [.int 2, .int 0, .retAddr 0, .int a1, .ref 136]) rfl rfl (fun _ => rfl) ?_
                  refine pt_s (pc1 := 911) (st1 := [.int 2, .retAddr 0, .int a1, .ref 136]) rfl rfl (fun _ => rfl) ?_
                  refine pt_s (pc1 := 912) (st1 := [.int a2, .int a1, .ref 136]) rfl rfl (fun _ => rfl) ?_
                  refine pt_s (pc1 := 913) (st1 := [.retAddr 0, .int a2, .int a1, .ref 136]) rfl rfl (fun _ => rfl) ?_
                  refine pt_s (pc1 := 915) (st1 := [.int 0, .retAddr 0, .int a2, .int a1, .ref 136]) rfl rfl (fun _ => rfl) ?_
                  refine pt_s (pc1 := 916) (st1 := [.int 3, .int 0, .retAddr 0, .int a2, .int a1, .ref 136]) rfl rfl (fun _ => rfl) ?_
                  refine pt_s (pc1 := 917) (st1 := [.int 3, .retAddr 0, .int a2, .int a1, .ref 136]) rfl rfl (fun _ => rfl) ?_
                  refine pt_s (pc1 := 918) (st1 := [.int a3, .int a2, .int a1, .ref 136]) rfl rfl (fun _ => rfl) ?_
                  refine pt_s (pc1 := 919) (st1 := [.retAddr 0, .int a3, .int a2, .int a1, .ref 136]) rfl rfl (fun _ => rfl) ?_
                  refine pt_s (pc1 := 921) (st1 := [.int 0, .retAddr 0, .int a3, .int a2, .int a1, .ref 136]) rfl rfl (fun _ => rfl) ?_
                  refine pt_s (pc1 := 922) (st1 := [.int 4, .int 0, .retAddr 0, .int a3, .int a2, .int a1, .ref 136]) rfl rfl (fun _ => rfl) ?_
                  refine pt_s (pc1 := 923) (st1 := [.int 4, .retAddr 0, .int a3, .int a2, .int a1, .ref 136]) rfl rfl (fun _ => rfl) ?_
                  refine pt_s (pc1 := 924) (st1 := [.int a4, .int a3, .int a2, .int a1, .ref 136]) rfl rfl (fun _ => rfl) ?_
                  refine pt_callv (N := pm_X10_state) (as := [.ref 136, .int a1, .int a2, .int a3, .int a4]) (rest := []) (f := 2047) (l := 83974) (c1 := 0) (k1 := 0) (c2 := 599836) (k2 := 7274189) (v := some (.int 0)) (h1 := ph_2) rfl rfl (fun ex => px_inv_hs ex rfl rfl rfl pg_2 rfl rfl rfl rfl) ?_ (Nat.le_of_ble_eq_true rfl) (Nat.le_of_ble_eq_true rfl) ?_
                  · exact pq_77 a1 a2 a3 a4 ha1 ha2 ha3 ha4
                  show px_T _ _ _ _ (927, [(5, .int 1), (4, .int 0), (3, .ref 164), (2, .ref 136), (1, .ref 0), (0, .retAddr 0)], [.int 0], _) _ _ _
                  refine pt_s (pc1 := 929) (lv1 := [(6, .int 0), (5, .int 1), (4, .int 0), (3, .ref 164), (2, .ref 136), (1, .ref 0), (0, .retAddr 0)]) (st1 := []) rfl rfl (fun _ => rfl) ?_
                  refine pt_s (pc1 := 930) (st1 := [.ref 136]) rfl rfl (fun _ => rfl) ?_
                  refine pt_callv (N := pm_X10_thrown) (as := [.ref 136]) (rest := []) (f := 2047) (l := 83980) (c1 := 0) (k1 := 0) (c2 := 599836) (k2 := 7274189) (v := some (.int 1)) (h1 := ph_2) rfl rfl (fun ex => px_inv_hs ex rfl rfl rfl pg_3 rfl rfl rfl rfl) ?_ (Nat.le_of_ble_eq_true rfl) (Nat.le_of_ble_eq_true rfl) ?_
                  · refine px_C_of rfl ?_
                    refine pr_s (pc1 := 1) (st1 := [.ref 136]) rfl (fun _ => rfl) ?_
                    refine pr_getf (pc1 := 4) (v := .int 1) rfl rfl pg_3 rfl rfl ?_
                    exact pr_e rfl (fun _ => rfl) ⟨rfl, rfl⟩
                  show px_T _ _ _ _ (933, [(6, .int 0), (5, .int 1), (4, .int 0), (3, .ref 164), (2, .ref 136), (1, .ref 0), (0, .retAddr 0)], [.int 1], _) _ _ _
                  refine pt_s (pc1 := 935) (st1 := [.int 1, .int 1]) rfl rfl (fun _ => rfl) ?_
                  refine pt_bt (t := 940) (off := 5) (bb := decide ((1 : Int32) = 1)) (st1 := []) rfl rfl rfl rfl rfl (by decide) ?_
                  refine pt_s (pc1 := 942) (st1 := [.int 1]) rfl rfl (fun _ => rfl) ?_
                  refine pt_bt (t := 957) (off := 15) (bb := !decide ((1 : Int32) = 0)) (st1 := []) rfl rfl rfl rfl rfl (px_not_t (by decide)) ?_
                  refine pt_s (pc1 := 2771) (st1 := []) rfl rfl (fun _ => rfl) ?_
                  refine pt_s (pc1 := 2774) (lv1 := [(4, .int 6), (6, .int 0), (5, .int 1), (3, .ref 164), (2, .ref 136), (1, .ref 0), (0, .retAddr 0)]) (st1 := []) rfl rfl (fun _ => rfl) ?_
                  refine pt_s (pc1 := 23) (st1 := []) rfl rfl (fun _ => rfl) ?_
                  refine pt_s (pc1 := 25) (st1 := [.int 6]) rfl rfl (fun _ => rfl) ?_
                  refine pt_s (pc1 := 26) (st1 := [.retAddr 0, .int 6]) rfl rfl (fun _ => rfl) ?_
                  refine pt_s (pc1 := 27) (st1 := [.int 6, .int 6]) rfl rfl (fun _ => rfl) ?_
                  refine pt_s (pc1 := 29) (st1 := [.int 6, .int 6, .int 6]) rfl rfl (fun _ => rfl) ?_
                  refine pt_s (pc1 := 30) (st1 := [.int 0, .int 6]) rfl rfl (fun _ => rfl) ?_
                  refine pt_bt (t := 2777) (off := 2747) (bb := decide ((0 : Int32) < (6 : Int32))) (st1 := []) rfl rfl rfl rfl rfl (by decide) ?_
                  refine pt_s (pc1 := 2778) (st1 := [.int 1]) rfl rfl (fun _ => rfl) ?_
                  exact pt_e rfl ⟨rfl, (rfl : px_ins pm_law 2778 = some (.ireturn, 1))⟩
            · have ha3 : 1000 ≤ a3.toInt ∧ a3.toInt ≤ 2147483647 := ⟨by omega, ha3.2⟩
              refine pt_s (pc1 := 868) (st1 := []) rfl rfl (fun _ => rfl) ?_
              refine pt_s (pc1 := 869) (st1 := [.ref 0]) rfl rfl (fun _ => rfl) ?_
              refine pt_s (pc1 := 870) (st1 := [.retAddr 0, .ref 0]) rfl rfl (fun _ => rfl) ?_
              refine pt_s (pc1 := 872) (st1 := [.int 0, .retAddr 0, .ref 0]) rfl rfl (fun _ => rfl) ?_
              refine pt_s (pc1 := 873) (st1 := [.int 1, .int 0, .retAddr 0, .ref 0]) rfl rfl (fun _ => rfl) ?_
              refine pt_s (pc1 := 874) (st1 := [.int 1, .retAddr 0, .ref 0]) rfl rfl (fun _ => rfl) ?_
              refine pt_s (pc1 := 875) (st1 := [.int a1, .ref 0]) rfl rfl (fun _ => rfl) ?_
              refine pt_s (pc1 := 876) (st1 := [.retAddr 0, .int a1, .ref 0]) rfl rfl (fun _ => rfl) ?_
              refine pt_s (pc1 := 878) (st1 := [.int 0, .retAddr 0, .int a1, .ref 0]) rfl rfl (fun _ => rfl) ?_
              refine pt_s (pc1 := 879) (st1 := [.int 2, .int 0, .retAddr 0, .int a1, .ref 0]) rfl rfl (fun _ => rfl) ?_
              refine pt_s (pc1 := 880) (st1 := [.int 2, .retAddr 0, .int a1, .ref 0]) rfl rfl (fun _ => rfl) ?_
              refine pt_s (pc1 := 881) (st1 := [.int a2, .int a1, .ref 0]) rfl rfl (fun _ => rfl) ?_
              refine pt_s (pc1 := 882) (st1 := [.retAddr 0, .int a2, .int a1, .ref 0]) rfl rfl (fun _ => rfl) ?_
              refine pt_s (pc1 := 884) (st1 := [.int 0, .retAddr 0, .int a2, .int a1, .ref 0]) rfl rfl (fun _ => rfl) ?_
              refine pt_s (pc1 := 885) (st1 := [.int 3, .int 0, .retAddr 0, .int a2, .int a1, .ref 0]) rfl rfl (fun _ => rfl) ?_
              refine pt_s (pc1 := 886) (st1 := [.int 3, .retAddr 0, .int a2, .int a1, .ref 0]) rfl rfl (fun _ => rfl) ?_
              refine pt_s (pc1 := 887) (st1 := [.int a3, .int a2, .int a1, .ref 0]) rfl rfl (fun _ => rfl) ?_
              refine pt_s (pc1 := 888) (st1 := [.retAddr 0, .int a3, .int a2, .int a1, .ref 0]) rfl rfl (fun _ => rfl) ?_
              refine pt_s (pc1 := 890) (st1 := [.int 0, .retAddr 0, .int a3, .int a2, .int a1, .ref 0]) rfl rfl (fun _ => rfl) ?_
              refine pt_s (pc1 := 891) (st1 := [.int 4, .int 0, .retAddr 0, .int a3, .int a2, .int a1, .ref 0]) rfl rfl (fun _ => rfl) ?_
              refine pt_s (pc1 := 892) (st1 := [.int 4, .retAddr 0, .int a3, .int a2, .int a1, .ref 0]) rfl rfl (fun _ => rfl) ?_
              refine pt_s (pc1 := 893) (st1 := [.int a4, .int a3, .int a2, .int a1, .ref 0]) rfl rfl (fun _ => rfl) ?_
              refine pt_s (pc1 := 894) (st1 := [.ref 164, .int a4, .int a3, .int a2, .int a1, .ref 0]) rfl rfl (fun _ => rfl) ?_
              refine pt_callv (N := pm_L_state) (as := [.ref 0, .int a1, .int a2, .int a3, .int a4, .ref 164]) (rest := []) (f := 2047) (l := 83974) (c1 := 1) (k1 := 6) (c2 := 599836) (k2 := 7274189) (v := some (.int 1)) (h1 := ph_1) rfl rfl (fun _ => rfl) ?_ (Nat.le_of_ble_eq_true rfl) (Nat.le_of_ble_eq_true rfl) ?_
              · refine px_C_of rfl ?_
                refine pr_s (pc1 := 2) (st1 := [.ref 164]) rfl (fun _ => rfl) ?_
                refine pr_s (pc1 := 3) (st1 := [.int 0, .ref 164]) rfl (fun _ => rfl) ?_
                refine pr_s (pc1 := 4) (st1 := [.ref 0, .int 0, .ref 164]) rfl (fun _ => rfl) ?_
                refine pr_s (pc1 := 5) (st1 := [.int a1, .ref 0, .int 0, .ref 164]) rfl (fun _ => rfl) ?_
                refine pr_s (pc1 := 6) (st1 := [.int a2, .int a1, .ref 0, .int 0, .ref 164]) rfl (fun _ => rfl) ?_
                refine pr_s (pc1 := 7) (st1 := [.int a3, .int a2, .int a1, .ref 0, .int 0, .ref 164]) rfl (fun _ => rfl) ?_
                refine pr_s (pc1 := 9) (st1 := [.int a4, .int a3, .int a2, .int a1, .ref 0, .int 0, .ref 164]) rfl (fun _ => rfl) ?_
                refine pr_callx (N := pm_X6_state) (as := [.ref 0, .int a1, .int a2, .int a3, .int a4]) (rest := [.int 0, .ref 164]) (f := 2046) (l := 83949) (c1 := 1) (k1 := 6) (c2 := 0) (k2 := 0) (E := 12) (h1 := ph_1) (a := 17) (y1 := 6) (y2 := 2) rfl (fun ex => px_inv_hs ex rfl rfl rfl pg_0 rfl rfl rfl rfl) ?_ (Nat.le_of_ble_eq_true rfl) (Nat.le_of_ble_eq_true rfl) rfl rfl rfl rfl ?_
                · refine px_C_of rfl ?_
                  refine pr_s (pc1 := 1) (st1 := [.int a1]) rfl (fun _ => rfl) ?_
                  refine pr_callv (N := pm_X6_isKind) (as := [.int a1]) (rest := []) (f := 2045) (l := 83929) (c1 := 0) (k1 := 0) (c2 := 1) (k2 := 6) (v := some (.int 1)) (h1 := px_hs) rfl (fun _ => rfl) ?_ (Nat.le_of_ble_eq_true rfl) (Nat.le_of_ble_eq_true rfl) ?_
                  · refine px_C_of rfl ?_
                    refine pr_s (pc1 := 1) (st1 := [.int a1]) rfl (fun _ => rfl) ?_
                    refine pr_bf (t := 14) (off := 13) (bb := decide (a1 < 0)) (st1 := []) rfl rfl rfl rfl (pb_ltF ha1.1 (show (0 : Int32).toInt ≤ 0 by decide) (by decide)) ?_
                    refine pr_s (pc1 := 5) (st1 := [.int a1]) rfl (fun _ => rfl) ?_
                    refine pr_s (pc1 := 7) (st1 := [.int 8, .int a1]) rfl (fun _ => rfl) ?_
                    refine pr_bf (t := 14) (off := 7) (bb := decide ((8 : Int32) ≤ a1)) (st1 := []) rfl rfl rfl rfl (pb_leF (show 8 ≤ (8 : Int32).toInt by decide) ha1.2 (by decide)) ?_
                    refine pr_s (pc1 := 11) (st1 := [.int 1]) rfl (fun _ => rfl) ?_
                    refine pr_s (pc1 := 15) (st1 := [.int 1]) rfl (fun _ => rfl) ?_
                    exact pr_e rfl (fun _ => rfl) ⟨rfl, rfl⟩
                  show px_R _ _ _ _ (4, [(0, .ref 0), (1, .int a1), (2, .int a2), (3, .int a3), (4, .int a4)], [.int 1], _) _ _ _
                  refine pr_bf (t := 29) (off := 25) (bb := decide ((1 : Int32) = 0)) (st1 := []) rfl rfl rfl rfl (by decide) ?_
                  refine pr_s (pc1 := 8) (st1 := [.int a2]) rfl (fun _ => rfl) ?_
                  refine pr_callv (N := pm_X6_isValue) (as := [.int a2]) (rest := []) (f := 2045) (l := 83929) (c1 := 0) (k1 := 0) (c2 := 1) (k2 := 6) (v := some (.int 1)) (h1 := px_hs) rfl (fun _ => rfl) ?_ (Nat.le_of_ble_eq_true rfl) (Nat.le_of_ble_eq_true rfl) ?_
                  · refine px_C_of rfl ?_
                    refine pr_s (pc1 := 1) (st1 := [.int a2]) rfl (fun _ => rfl) ?_
                    refine pr_s (pc1 := 4) (st1 := [.int (-999), .int a2]) rfl (fun _ => rfl) ?_
                    refine pr_bf (t := 18) (off := 14) (bb := decide (a2 < (-999))) (st1 := []) rfl rfl rfl rfl (pb_ltF ha2.1 (show ((-999) : Int32).toInt ≤ (-999) by decide) (by decide)) ?_
                    refine pr_s (pc1 := 8) (st1 := [.int a2]) rfl (fun _ => rfl) ?_
                    refine pr_s (pc1 := 11) (st1 := [.int 999, .int a2]) rfl (fun _ => rfl) ?_
                    refine pr_bf (t := 18) (off := 7) (bb := decide ((999 : Int32) < a2)) (st1 := []) rfl rfl rfl rfl (pb_ltF (show 999 ≤ (999 : Int32).toInt by decide) ha2.2 (by decide)) ?_
                    refine pr_s (pc1 := 15) (st1 := [.int 1]) rfl (fun _ => rfl) ?_
                    refine pr_s (pc1 := 19) (st1 := [.int 1]) rfl (fun _ => rfl) ?_
                    exact pr_e rfl (fun _ => rfl) ⟨rfl, rfl⟩
                  show px_R _ _ _ _ (11, [(0, .ref 0), (1, .int a1), (2, .int a2), (3, .int a3), (4, .int a4)], [.int 1], _) _ _ _
                  refine pr_bf (t := 29) (off := 18) (bb := decide ((1 : Int32) = 0)) (st1 := []) rfl rfl rfl rfl (by decide) ?_
                  refine pr_s (pc1 := 15) (st1 := [.int a3]) rfl (fun _ => rfl) ?_
                  refine pr_callv (N := pm_X6_isValue) (as := [.int a3]) (rest := []) (f := 2045) (l := 83929) (c1 := 0) (k1 := 0) (c2 := 1) (k2 := 6) (v := some (.int 0)) (h1 := px_hs) rfl (fun _ => rfl) ?_ (Nat.le_of_ble_eq_true rfl) (Nat.le_of_ble_eq_true rfl) ?_
                  · refine px_C_of rfl ?_
                    refine pr_s (pc1 := 1) (st1 := [.int a3]) rfl (fun _ => rfl) ?_
                    refine pr_s (pc1 := 4) (st1 := [.int (-999), .int a3]) rfl (fun _ => rfl) ?_
                    refine pr_bf (t := 18) (off := 14) (bb := decide (a3 < (-999))) (st1 := []) rfl rfl rfl rfl (pb_ltF ha3.1 (show ((-999) : Int32).toInt ≤ (-999) by decide) (by decide)) ?_
                    refine pr_s (pc1 := 8) (st1 := [.int a3]) rfl (fun _ => rfl) ?_
                    refine pr_s (pc1 := 11) (st1 := [.int 999, .int a3]) rfl (fun _ => rfl) ?_
                    refine pr_bt (t := 18) (off := 7) (bb := decide ((999 : Int32) < a3)) (st1 := []) rfl rfl rfl rfl (pb_ltT (show (999 : Int32).toInt ≤ 999 by decide) ha3.1 (by decide)) ?_
                    refine pr_s (pc1 := 19) (st1 := [.int 0]) rfl (fun _ => rfl) ?_
                    exact pr_e rfl (fun _ => rfl) ⟨rfl, rfl⟩
                  show px_R _ _ _ _ (18, [(0, .ref 0), (1, .int a1), (2, .int a2), (3, .int a3), (4, .int a4)], [.int 0], _) _ _ _
                  refine pr_bt (t := 29) (off := 11) (bb := decide ((0 : Int32) = 0)) (st1 := []) rfl rfl rfl rfl (by decide) ?_
                  refine pr_mh (z1 := 1) (z2 := 6) (c1 := 0) (k1 := 0) (pc1 := 38) (n := 165) (r := []) (h1 := ph_1) (es := fun n => [.inr (12, [])]) rfl (fun _ => rfl) pl_0 rfl (Nat.le_of_ble_eq_true rfl) (Nat.le_of_ble_eq_true rfl) ?_
                  exact pr_e rfl (fun _ => rfl) ⟨rfl, rfl⟩
                show px_R _ _ _ _ (19, [(0, .ref 0), (1, .int a1), (2, .int a2), (3, .int a3), (4, .int a4), (5, .ref 164)], [], _) _ _ _
                refine pr_s (pc1 := 20) (st1 := [.int 1]) rfl (fun _ => rfl) ?_
                exact pr_e rfl (fun _ => rfl) ⟨rfl, rfl⟩
              show px_T _ _ _ _ (897, [(4, .int 0), (3, .ref 164), (2, .ref 136), (1, .ref 0), (0, .retAddr 0)], [.int 1], _) _ _ _
              refine pt_s (pc1 := 899) (lv1 := [(5, .int 1), (4, .int 0), (3, .ref 164), (2, .ref 136), (1, .ref 0), (0, .retAddr 0)]) (st1 := []) rfl rfl (fun _ => rfl) ?_
              refine pt_s (pc1 := 900) (st1 := [.ref 136]) rfl rfl (fun _ => rfl) ?_
              refine pt_s (pc1 := 901) (st1 := [.retAddr 0, .ref 136]) rfl rfl (fun _ => rfl) ?_
              refine pt_s (pc1 := 903) (st1 := [.int 0, .retAddr 0, .ref 136]) rfl rfl (fun _ => rfl) ?_
              refine pt_s (pc1 := 904) (st1 := [.int 1, .int 0, .retAddr 0, .ref 136]) rfl rfl (fun _ => rfl) ?_
              refine pt_s (pc1 := 905) (st1 := [.int 1, .retAddr 0, .ref 136]) rfl rfl (fun _ => rfl) ?_
              refine pt_s (pc1 := 906) (st1 := [.int a1, .ref 136]) rfl rfl (fun _ => rfl) ?_
              refine pt_s (pc1 := 907) (st1 := [.retAddr 0, .int a1, .ref 136]) rfl rfl (fun _ => rfl) ?_
              refine pt_s (pc1 := 909) (st1 := [.int 0, .retAddr 0, .int a1, .ref 136]) rfl rfl (fun _ => rfl) ?_
              refine pt_s (pc1 := 910) (st1 := [.int 2, .int 0, .retAddr 0, .int a1, .ref 136]) rfl rfl (fun _ => rfl) ?_
              refine pt_s (pc1 := 911) (st1 := [.int 2, .retAddr 0, .int a1, .ref 136]) rfl rfl (fun _ => rfl) ?_
              refine pt_s (pc1 := 912) (st1 := [.int a2, .int a1, .ref 136]) rfl rfl (fun _ => rfl) ?_
              refine pt_s (pc1 := 913) (st1 := [.retAddr 0, .int a2, .int a1, .ref 136]) rfl rfl (fun _ => rfl) ?_
              refine pt_s (pc1 := 915) (st1 := [.int 0, .retAddr 0, .int a2, .int a1, .ref 136]) rfl rfl (fun _ => rfl) ?_
              refine pt_s (pc1 := 916) (st1 := [.int 3, .int 0, .retAddr 0, .int a2, .int a1, .ref 136]) rfl rfl (fun _ => rfl) ?_
              refine pt_s (pc1 := 917) (st1 := [.int 3, .retAddr 0, .int a2, .int a1, .ref 136]) rfl rfl (fun _ => rfl) ?_
              refine pt_s (pc1 := 918) (st1 := [.int a3, .int a2, .int a1, .ref 136]) rfl rfl (fun _ => rfl) ?_
              refine pt_s (pc1 := 919) (st1 := [.retAddr 0, .int a3, .int a2, .int a1, .ref 136]) rfl rfl (fun _ => rfl) ?_
              refine pt_s (pc1 := 921) (st1 := [.int 0, .retAddr 0, .int a3, .int a2, .int a1, .ref 136]) rfl rfl (fun _ => rfl) ?_
              refine pt_s (pc1 := 922) (st1 := [.int 4, .int 0, .retAddr 0, .int a3, .int a2, .int a1, .ref 136]) rfl rfl (fun _ => rfl) ?_
              refine pt_s (pc1 := 923) (st1 := [.int 4, .retAddr 0, .int a3, .int a2, .int a1, .ref 136]) rfl rfl (fun _ => rfl) ?_
              refine pt_s (pc1 := 924) (st1 := [.int a4, .int a3, .int a2, .int a1, .ref 136]) rfl rfl (fun _ => rfl) ?_
              refine pt_callv (N := pm_X10_state) (as := [.ref 136, .int a1, .int a2, .int a3, .int a4]) (rest := []) (f := 2047) (l := 83974) (c1 := 0) (k1 := 0) (c2 := 599836) (k2 := 7274189) (v := some (.int 0)) (h1 := ph_2) rfl rfl (fun ex => px_inv_hs ex rfl rfl rfl pg_2 rfl rfl rfl rfl) ?_ (Nat.le_of_ble_eq_true rfl) (Nat.le_of_ble_eq_true rfl) ?_
              · exact pq_78 a1 a2 a3 a4 ha1 ha2 ha3
              show px_T _ _ _ _ (927, [(5, .int 1), (4, .int 0), (3, .ref 164), (2, .ref 136), (1, .ref 0), (0, .retAddr 0)], [.int 0], _) _ _ _
              refine pt_s (pc1 := 929) (lv1 := [(6, .int 0), (5, .int 1), (4, .int 0), (3, .ref 164), (2, .ref 136), (1, .ref 0), (0, .retAddr 0)]) (st1 := []) rfl rfl (fun _ => rfl) ?_
              refine pt_s (pc1 := 930) (st1 := [.ref 136]) rfl rfl (fun _ => rfl) ?_
              refine pt_callv (N := pm_X10_thrown) (as := [.ref 136]) (rest := []) (f := 2047) (l := 83980) (c1 := 0) (k1 := 0) (c2 := 599836) (k2 := 7274189) (v := some (.int 1)) (h1 := ph_2) rfl rfl (fun ex => px_inv_hs ex rfl rfl rfl pg_3 rfl rfl rfl rfl) ?_ (Nat.le_of_ble_eq_true rfl) (Nat.le_of_ble_eq_true rfl) ?_
              · refine px_C_of rfl ?_
                refine pr_s (pc1 := 1) (st1 := [.ref 136]) rfl (fun _ => rfl) ?_
                refine pr_getf (pc1 := 4) (v := .int 1) rfl rfl pg_3 rfl rfl ?_
                exact pr_e rfl (fun _ => rfl) ⟨rfl, rfl⟩
              show px_T _ _ _ _ (933, [(6, .int 0), (5, .int 1), (4, .int 0), (3, .ref 164), (2, .ref 136), (1, .ref 0), (0, .retAddr 0)], [.int 1], _) _ _ _
              refine pt_s (pc1 := 935) (st1 := [.int 1, .int 1]) rfl rfl (fun _ => rfl) ?_
              refine pt_bt (t := 940) (off := 5) (bb := decide ((1 : Int32) = 1)) (st1 := []) rfl rfl rfl rfl rfl (by decide) ?_
              refine pt_s (pc1 := 942) (st1 := [.int 1]) rfl rfl (fun _ => rfl) ?_
              refine pt_bt (t := 957) (off := 15) (bb := !decide ((1 : Int32) = 0)) (st1 := []) rfl rfl rfl rfl rfl (px_not_t (by decide)) ?_
              refine pt_s (pc1 := 2771) (st1 := []) rfl rfl (fun _ => rfl) ?_
              refine pt_s (pc1 := 2774) (lv1 := [(4, .int 6), (6, .int 0), (5, .int 1), (3, .ref 164), (2, .ref 136), (1, .ref 0), (0, .retAddr 0)]) (st1 := []) rfl rfl (fun _ => rfl) ?_
              refine pt_s (pc1 := 23) (st1 := []) rfl rfl (fun _ => rfl) ?_
              refine pt_s (pc1 := 25) (st1 := [.int 6]) rfl rfl (fun _ => rfl) ?_
              refine pt_s (pc1 := 26) (st1 := [.retAddr 0, .int 6]) rfl rfl (fun _ => rfl) ?_
              refine pt_s (pc1 := 27) (st1 := [.int 6, .int 6]) rfl rfl (fun _ => rfl) ?_
              refine pt_s (pc1 := 29) (st1 := [.int 6, .int 6, .int 6]) rfl rfl (fun _ => rfl) ?_
              refine pt_s (pc1 := 30) (st1 := [.int 0, .int 6]) rfl rfl (fun _ => rfl) ?_
              refine pt_bt (t := 2777) (off := 2747) (bb := decide ((0 : Int32) < (6 : Int32))) (st1 := []) rfl rfl rfl rfl rfl (by decide) ?_
              refine pt_s (pc1 := 2778) (st1 := [.int 1]) rfl rfl (fun _ => rfl) ?_
              exact pt_e rfl ⟨rfl, (rfl : px_ins pm_law 2778 = some (.ireturn, 1))⟩
        · have ha2 : 1000 ≤ a2.toInt ∧ a2.toInt ≤ 2147483647 := ⟨by omega, ha2.2⟩
          refine pt_s (pc1 := 868) (st1 := []) rfl rfl (fun _ => rfl) ?_
          refine pt_s (pc1 := 869) (st1 := [.ref 0]) rfl rfl (fun _ => rfl) ?_
          refine pt_s (pc1 := 870) (st1 := [.retAddr 0, .ref 0]) rfl rfl (fun _ => rfl) ?_
          refine pt_s (pc1 := 872) (st1 := [.int 0, .retAddr 0, .ref 0]) rfl rfl (fun _ => rfl) ?_
          refine pt_s (pc1 := 873) (st1 := [.int 1, .int 0, .retAddr 0, .ref 0]) rfl rfl (fun _ => rfl) ?_
          refine pt_s (pc1 := 874) (st1 := [.int 1, .retAddr 0, .ref 0]) rfl rfl (fun _ => rfl) ?_
          refine pt_s (pc1 := 875) (st1 := [.int a1, .ref 0]) rfl rfl (fun _ => rfl) ?_
          refine pt_s (pc1 := 876) (st1 := [.retAddr 0, .int a1, .ref 0]) rfl rfl (fun _ => rfl) ?_
          refine pt_s (pc1 := 878) (st1 := [.int 0, .retAddr 0, .int a1, .ref 0]) rfl rfl (fun _ => rfl) ?_
          refine pt_s (pc1 := 879) (st1 := [.int 2, .int 0, .retAddr 0, .int a1, .ref 0]) rfl rfl (fun _ => rfl) ?_
          refine pt_s (pc1 := 880) (st1 := [.int 2, .retAddr 0, .int a1, .ref 0]) rfl rfl (fun _ => rfl) ?_
          refine pt_s (pc1 := 881) (st1 := [.int a2, .int a1, .ref 0]) rfl rfl (fun _ => rfl) ?_
          refine pt_s (pc1 := 882) (st1 := [.retAddr 0, .int a2, .int a1, .ref 0]) rfl rfl (fun _ => rfl) ?_
          refine pt_s (pc1 := 884) (st1 := [.int 0, .retAddr 0, .int a2, .int a1, .ref 0]) rfl rfl (fun _ => rfl) ?_
          refine pt_s (pc1 := 885) (st1 := [.int 3, .int 0, .retAddr 0, .int a2, .int a1, .ref 0]) rfl rfl (fun _ => rfl) ?_
          refine pt_s (pc1 := 886) (st1 := [.int 3, .retAddr 0, .int a2, .int a1, .ref 0]) rfl rfl (fun _ => rfl) ?_
          refine pt_s (pc1 := 887) (st1 := [.int a3, .int a2, .int a1, .ref 0]) rfl rfl (fun _ => rfl) ?_
          refine pt_s (pc1 := 888) (st1 := [.retAddr 0, .int a3, .int a2, .int a1, .ref 0]) rfl rfl (fun _ => rfl) ?_
          refine pt_s (pc1 := 890) (st1 := [.int 0, .retAddr 0, .int a3, .int a2, .int a1, .ref 0]) rfl rfl (fun _ => rfl) ?_
          refine pt_s (pc1 := 891) (st1 := [.int 4, .int 0, .retAddr 0, .int a3, .int a2, .int a1, .ref 0]) rfl rfl (fun _ => rfl) ?_
          refine pt_s (pc1 := 892) (st1 := [.int 4, .retAddr 0, .int a3, .int a2, .int a1, .ref 0]) rfl rfl (fun _ => rfl) ?_
          refine pt_s (pc1 := 893) (st1 := [.int a4, .int a3, .int a2, .int a1, .ref 0]) rfl rfl (fun _ => rfl) ?_
          refine pt_s (pc1 := 894) (st1 := [.ref 164, .int a4, .int a3, .int a2, .int a1, .ref 0]) rfl rfl (fun _ => rfl) ?_
          refine pt_callv (N := pm_L_state) (as := [.ref 0, .int a1, .int a2, .int a3, .int a4, .ref 164]) (rest := []) (f := 2047) (l := 83974) (c1 := 1) (k1 := 6) (c2 := 599836) (k2 := 7274189) (v := some (.int 1)) (h1 := ph_1) rfl rfl (fun _ => rfl) ?_ (Nat.le_of_ble_eq_true rfl) (Nat.le_of_ble_eq_true rfl) ?_
          · refine px_C_of rfl ?_
            refine pr_s (pc1 := 2) (st1 := [.ref 164]) rfl (fun _ => rfl) ?_
            refine pr_s (pc1 := 3) (st1 := [.int 0, .ref 164]) rfl (fun _ => rfl) ?_
            refine pr_s (pc1 := 4) (st1 := [.ref 0, .int 0, .ref 164]) rfl (fun _ => rfl) ?_
            refine pr_s (pc1 := 5) (st1 := [.int a1, .ref 0, .int 0, .ref 164]) rfl (fun _ => rfl) ?_
            refine pr_s (pc1 := 6) (st1 := [.int a2, .int a1, .ref 0, .int 0, .ref 164]) rfl (fun _ => rfl) ?_
            refine pr_s (pc1 := 7) (st1 := [.int a3, .int a2, .int a1, .ref 0, .int 0, .ref 164]) rfl (fun _ => rfl) ?_
            refine pr_s (pc1 := 9) (st1 := [.int a4, .int a3, .int a2, .int a1, .ref 0, .int 0, .ref 164]) rfl (fun _ => rfl) ?_
            refine pr_callx (N := pm_X6_state) (as := [.ref 0, .int a1, .int a2, .int a3, .int a4]) (rest := [.int 0, .ref 164]) (f := 2046) (l := 83949) (c1 := 1) (k1 := 6) (c2 := 0) (k2 := 0) (E := 12) (h1 := ph_1) (a := 17) (y1 := 6) (y2 := 2) rfl (fun ex => px_inv_hs ex rfl rfl rfl pg_0 rfl rfl rfl rfl) ?_ (Nat.le_of_ble_eq_true rfl) (Nat.le_of_ble_eq_true rfl) rfl rfl rfl rfl ?_
            · refine px_C_of rfl ?_
              refine pr_s (pc1 := 1) (st1 := [.int a1]) rfl (fun _ => rfl) ?_
              refine pr_callv (N := pm_X6_isKind) (as := [.int a1]) (rest := []) (f := 2045) (l := 83929) (c1 := 0) (k1 := 0) (c2 := 1) (k2 := 6) (v := some (.int 1)) (h1 := px_hs) rfl (fun _ => rfl) ?_ (Nat.le_of_ble_eq_true rfl) (Nat.le_of_ble_eq_true rfl) ?_
              · refine px_C_of rfl ?_
                refine pr_s (pc1 := 1) (st1 := [.int a1]) rfl (fun _ => rfl) ?_
                refine pr_bf (t := 14) (off := 13) (bb := decide (a1 < 0)) (st1 := []) rfl rfl rfl rfl (pb_ltF ha1.1 (show (0 : Int32).toInt ≤ 0 by decide) (by decide)) ?_
                refine pr_s (pc1 := 5) (st1 := [.int a1]) rfl (fun _ => rfl) ?_
                refine pr_s (pc1 := 7) (st1 := [.int 8, .int a1]) rfl (fun _ => rfl) ?_
                refine pr_bf (t := 14) (off := 7) (bb := decide ((8 : Int32) ≤ a1)) (st1 := []) rfl rfl rfl rfl (pb_leF (show 8 ≤ (8 : Int32).toInt by decide) ha1.2 (by decide)) ?_
                refine pr_s (pc1 := 11) (st1 := [.int 1]) rfl (fun _ => rfl) ?_
                refine pr_s (pc1 := 15) (st1 := [.int 1]) rfl (fun _ => rfl) ?_
                exact pr_e rfl (fun _ => rfl) ⟨rfl, rfl⟩
              show px_R _ _ _ _ (4, [(0, .ref 0), (1, .int a1), (2, .int a2), (3, .int a3), (4, .int a4)], [.int 1], _) _ _ _
              refine pr_bf (t := 29) (off := 25) (bb := decide ((1 : Int32) = 0)) (st1 := []) rfl rfl rfl rfl (by decide) ?_
              refine pr_s (pc1 := 8) (st1 := [.int a2]) rfl (fun _ => rfl) ?_
              refine pr_callv (N := pm_X6_isValue) (as := [.int a2]) (rest := []) (f := 2045) (l := 83929) (c1 := 0) (k1 := 0) (c2 := 1) (k2 := 6) (v := some (.int 0)) (h1 := px_hs) rfl (fun _ => rfl) ?_ (Nat.le_of_ble_eq_true rfl) (Nat.le_of_ble_eq_true rfl) ?_
              · refine px_C_of rfl ?_
                refine pr_s (pc1 := 1) (st1 := [.int a2]) rfl (fun _ => rfl) ?_
                refine pr_s (pc1 := 4) (st1 := [.int (-999), .int a2]) rfl (fun _ => rfl) ?_
                refine pr_bf (t := 18) (off := 14) (bb := decide (a2 < (-999))) (st1 := []) rfl rfl rfl rfl (pb_ltF ha2.1 (show ((-999) : Int32).toInt ≤ (-999) by decide) (by decide)) ?_
                refine pr_s (pc1 := 8) (st1 := [.int a2]) rfl (fun _ => rfl) ?_
                refine pr_s (pc1 := 11) (st1 := [.int 999, .int a2]) rfl (fun _ => rfl) ?_
                refine pr_bt (t := 18) (off := 7) (bb := decide ((999 : Int32) < a2)) (st1 := []) rfl rfl rfl rfl (pb_ltT (show (999 : Int32).toInt ≤ 999 by decide) ha2.1 (by decide)) ?_
                refine pr_s (pc1 := 19) (st1 := [.int 0]) rfl (fun _ => rfl) ?_
                exact pr_e rfl (fun _ => rfl) ⟨rfl, rfl⟩
              show px_R _ _ _ _ (11, [(0, .ref 0), (1, .int a1), (2, .int a2), (3, .int a3), (4, .int a4)], [.int 0], _) _ _ _
              refine pr_bt (t := 29) (off := 18) (bb := decide ((0 : Int32) = 0)) (st1 := []) rfl rfl rfl rfl (by decide) ?_
              refine pr_mh (z1 := 1) (z2 := 6) (c1 := 0) (k1 := 0) (pc1 := 38) (n := 165) (r := []) (h1 := ph_1) (es := fun n => [.inr (12, [])]) rfl (fun _ => rfl) pl_0 rfl (Nat.le_of_ble_eq_true rfl) (Nat.le_of_ble_eq_true rfl) ?_
              exact pr_e rfl (fun _ => rfl) ⟨rfl, rfl⟩
            show px_R _ _ _ _ (19, [(0, .ref 0), (1, .int a1), (2, .int a2), (3, .int a3), (4, .int a4), (5, .ref 164)], [], _) _ _ _
            refine pr_s (pc1 := 20) (st1 := [.int 1]) rfl (fun _ => rfl) ?_
            exact pr_e rfl (fun _ => rfl) ⟨rfl, rfl⟩
          show px_T _ _ _ _ (897, [(4, .int 0), (3, .ref 164), (2, .ref 136), (1, .ref 0), (0, .retAddr 0)], [.int 1], _) _ _ _
          refine pt_s (pc1 := 899) (lv1 := [(5, .int 1), (4, .int 0), (3, .ref 164), (2, .ref 136), (1, .ref 0), (0, .retAddr 0)]) (st1 := []) rfl rfl (fun _ => rfl) ?_
          refine pt_s (pc1 := 900) (st1 := [.ref 136]) rfl rfl (fun _ => rfl) ?_
          refine pt_s (pc1 := 901) (st1 := [.retAddr 0, .ref 136]) rfl rfl (fun _ => rfl) ?_
          refine pt_s (pc1 := 903) (st1 := [.int 0, .retAddr 0, .ref 136]) rfl rfl (fun _ => rfl) ?_
          refine pt_s (pc1 := 904) (st1 := [.int 1, .int 0, .retAddr 0, .ref 136]) rfl rfl (fun _ => rfl) ?_
          refine pt_s (pc1 := 905) (st1 := [.int 1, .retAddr 0, .ref 136]) rfl rfl (fun _ => rfl) ?_
          refine pt_s (pc1 := 906) (st1 := [.int a1, .ref 136]) rfl rfl (fun _ => rfl) ?_
          refine pt_s (pc1 := 907) (st1 := [.retAddr 0, .int a1, .ref 136]) rfl rfl (fun _ => rfl) ?_
          refine pt_s (pc1 := 909) (st1 := [.int 0, .retAddr 0, .int a1, .ref 136]) rfl rfl (fun _ => rfl) ?_
          refine pt_s (pc1 := 910) (st1 := [.int 2, .int 0, .retAddr 0, .int a1, .ref 136]) rfl rfl (fun _ => rfl) ?_
          refine pt_s (pc1 := 911) (st1 := [.int 2, .retAddr 0, .int a1, .ref 136]) rfl rfl (fun _ => rfl) ?_
          refine pt_s (pc1 := 912) (st1 := [.int a2, .int a1, .ref 136]) rfl rfl (fun _ => rfl) ?_
          refine pt_s (pc1 := 913) (st1 := [.retAddr 0, .int a2, .int a1, .ref 136]) rfl rfl (fun _ => rfl) ?_
          refine pt_s (pc1 := 915) (st1 := [.int 0, .retAddr 0, .int a2, .int a1, .ref 136]) rfl rfl (fun _ => rfl) ?_
          refine pt_s (pc1 := 916) (st1 := [.int 3, .int 0, .retAddr 0, .int a2, .int a1, .ref 136]) rfl rfl (fun _ => rfl) ?_
          refine pt_s (pc1 := 917) (st1 := [.int 3, .retAddr 0, .int a2, .int a1, .ref 136]) rfl rfl (fun _ => rfl) ?_
          refine pt_s (pc1 := 918) (st1 := [.int a3, .int a2, .int a1, .ref 136]) rfl rfl (fun _ => rfl) ?_
          refine pt_s (pc1 := 919) (st1 := [.retAddr 0, .int a3, .int a2, .int a1, .ref 136]) rfl rfl (fun _ => rfl) ?_
          refine pt_s (pc1 := 921) (st1 := [.int 0, .retAddr 0, .int a3, .int a2, .int a1, .ref 136]) rfl rfl (fun _ => rfl) ?_
          refine pt_s (pc1 := 922) (st1 := [.int 4, .int 0, .retAddr 0, .int a3, .int a2, .int a1, .ref 136]) rfl rfl (fun _ => rfl) ?_
          refine pt_s (pc1 := 923) (st1 := [.int 4, .retAddr 0, .int a3, .int a2, .int a1, .ref 136]) rfl rfl (fun _ => rfl) ?_
          refine pt_s (pc1 := 924) (st1 := [.int a4, .int a3, .int a2, .int a1, .ref 136]) rfl rfl (fun _ => rfl) ?_
          refine pt_callv (N := pm_X10_state) (as := [.ref 136, .int a1, .int a2, .int a3, .int a4]) (rest := []) (f := 2047) (l := 83974) (c1 := 0) (k1 := 0) (c2 := 599836) (k2 := 7274189) (v := some (.int 0)) (h1 := ph_2) rfl rfl (fun ex => px_inv_hs ex rfl rfl rfl pg_2 rfl rfl rfl rfl) ?_ (Nat.le_of_ble_eq_true rfl) (Nat.le_of_ble_eq_true rfl) ?_
          · refine px_C_of rfl ?_
            refine pr_s (pc1 := 1) (st1 := [.ref 136]) rfl (fun _ => rfl) ?_
            refine pr_s (pc1 := 2) (st1 := [.int 0, .ref 136]) rfl (fun _ => rfl) ?_
            refine pr_putf (pc1 := 5) (h1 := ph_1) rfl rfl pg_2 rfl rfl rfl rfl rfl (px_set_same pg_2 rfl) rfl ?_
            refine pr_s (pc1 := 6) (st1 := [.int a1]) rfl (fun _ => rfl) ?_
            refine pr_s (pc1 := 7) (st1 := [.int 0, .int a1]) rfl (fun _ => rfl) ?_
            refine pr_s (pc1 := 9) (st1 := [.int 7, .int 0, .int a1]) rfl (fun _ => rfl) ?_
            refine pr_callv (N := pm_X10_is) (as := [.int a1, .int 0, .int 7]) (rest := []) (f := 2046) (l := 83952) (c1 := 0) (k1 := 0) (c2 := 0) (k2 := 0) (v := some (.int 1)) (h1 := ph_1) rfl (fun _ => rfl) ?_ (Nat.le_of_ble_eq_true rfl) (Nat.le_of_ble_eq_true rfl) ?_
            · refine px_C_of rfl ?_
              refine pr_s (pc1 := 1) (st1 := [.int a1]) rfl (fun _ => rfl) ?_
              refine pr_s (pc1 := 2) (st1 := [.int 0, .int a1]) rfl (fun _ => rfl) ?_
              refine pr_bf (t := 14) (off := 12) (bb := decide (a1 < 0)) (st1 := []) rfl rfl rfl rfl (pb_ltF ha1.1 (show (0 : Int32).toInt ≤ 0 by decide) (by decide)) ?_
              refine pr_s (pc1 := 6) (st1 := [.int a1]) rfl (fun _ => rfl) ?_
              refine pr_s (pc1 := 7) (st1 := [.int 7, .int a1]) rfl (fun _ => rfl) ?_
              refine pr_bf (t := 14) (off := 7) (bb := decide ((7 : Int32) < a1)) (st1 := []) rfl rfl rfl rfl (pb_ltF (show 7 ≤ (7 : Int32).toInt by decide) ha1.2 (by decide)) ?_
              refine pr_s (pc1 := 11) (st1 := [.int 1]) rfl (fun _ => rfl) ?_
              refine pr_s (pc1 := 15) (st1 := [.int 1]) rfl (fun _ => rfl) ?_
              exact pr_e rfl (fun _ => rfl) ⟨rfl, rfl⟩
            show px_R _ _ _ _ (12, [(0, .ref 136), (1, .int a1), (2, .int a2), (3, .int a3), (4, .int a4)], [.int 1], _) _ _ _
            refine pr_bf (t := 37) (off := 25) (bb := decide ((1 : Int32) = 0)) (st1 := []) rfl rfl rfl rfl (by decide) ?_
            refine pr_s (pc1 := 16) (st1 := [.int a2]) rfl (fun _ => rfl) ?_
            refine pr_callv (N := pm_X10_isValue) (as := [.int a2]) (rest := []) (f := 2046) (l := 83954) (c1 := 0) (k1 := 0) (c2 := 0) (k2 := 0) (v := some (.int 0)) (h1 := ph_1) rfl (fun _ => rfl) ?_ (Nat.le_of_ble_eq_true rfl) (Nat.le_of_ble_eq_true rfl) ?_
            · refine px_C_of rfl ?_
              refine pr_s (pc1 := 1) (st1 := [.int a2]) rfl (fun _ => rfl) ?_
              refine pr_s (pc1 := 4) (st1 := [.int (-999), .int a2]) rfl (fun _ => rfl) ?_
              refine pr_s (pc1 := 7) (st1 := [.int 999, .int (-999), .int a2]) rfl (fun _ => rfl) ?_
              refine pr_callv (N := pm_X10_is) (as := [.int a2, .int (-999), .int 999]) (rest := []) (f := 2045) (l := 83932) (c1 := 0) (k1 := 0) (c2 := 0) (k2 := 0) (v := some (.int 0)) (h1 := ph_1) rfl (fun _ => rfl) ?_ (Nat.le_of_ble_eq_true rfl) (Nat.le_of_ble_eq_true rfl) ?_
              · refine px_C_of rfl ?_
                refine pr_s (pc1 := 1) (st1 := [.int a2]) rfl (fun _ => rfl) ?_
                refine pr_s (pc1 := 2) (st1 := [.int (-999), .int a2]) rfl (fun _ => rfl) ?_
                refine pr_bf (t := 14) (off := 12) (bb := decide (a2 < (-999))) (st1 := []) rfl rfl rfl rfl (pb_ltF ha2.1 (show ((-999) : Int32).toInt ≤ (-999) by decide) (by decide)) ?_
                refine pr_s (pc1 := 6) (st1 := [.int a2]) rfl (fun _ => rfl) ?_
                refine pr_s (pc1 := 7) (st1 := [.int 999, .int a2]) rfl (fun _ => rfl) ?_
                refine pr_bt (t := 14) (off := 7) (bb := decide ((999 : Int32) < a2)) (st1 := []) rfl rfl rfl rfl (pb_ltT (show (999 : Int32).toInt ≤ 999 by decide) ha2.1 (by decide)) ?_
                refine pr_s (pc1 := 15) (st1 := [.int 0]) rfl (fun _ => rfl) ?_
                exact pr_e rfl (fun _ => rfl) ⟨rfl, rfl⟩
              show px_R _ _ _ _ (10, [(0, .int a2)], [.int 0], _) _ _ _
              exact pr_e rfl (fun _ => rfl) ⟨rfl, rfl⟩
            show px_R _ _ _ _ (19, [(0, .ref 136), (1, .int a1), (2, .int a2), (3, .int a3), (4, .int a4)], [.int 0], _) _ _ _
            refine pr_bt (t := 37) (off := 18) (bb := decide ((0 : Int32) = 0)) (st1 := []) rfl rfl rfl rfl (by decide) ?_
            refine pr_s (pc1 := 38) (st1 := [.ref 136]) rfl (fun _ => rfl) ?_
            refine pr_s (pc1 := 39) (st1 := [.int 1, .ref 136]) rfl (fun _ => rfl) ?_
            refine pr_callv (N := pm_X10_refuse) (as := [.ref 136, .int 1]) (rest := []) (f := 2046) (l := 83953) (c1 := 0) (k1 := 0) (c2 := 0) (k2 := 0) (v := some (.int 0)) (h1 := ph_2) rfl (fun ex => px_inv_hs ex rfl rfl rfl pg_2 rfl rfl rfl rfl) ?_ (Nat.le_of_ble_eq_true rfl) (Nat.le_of_ble_eq_true rfl) ?_
            · refine px_C_of rfl ?_
              refine pr_s (pc1 := 1) (st1 := [.ref 136]) rfl (fun _ => rfl) ?_
              refine pr_s (pc1 := 2) (st1 := [.int 1, .ref 136]) rfl (fun _ => rfl) ?_
              refine pr_putf (pc1 := 5) (h1 := ph_2) rfl rfl pg_2 rfl rfl rfl rfl rfl rfl rfl ?_
              refine pr_s (pc1 := 6) (st1 := [.int 0]) rfl (fun _ => rfl) ?_
              exact pr_e rfl (fun _ => rfl) ⟨rfl, rfl⟩
            show px_R _ _ _ _ (42, [(0, .ref 136), (1, .int a1), (2, .int a2), (3, .int a3), (4, .int a4)], [.int 0], _) _ _ _
            exact pr_e rfl (fun _ => rfl) ⟨rfl, rfl⟩
          show px_T _ _ _ _ (927, [(5, .int 1), (4, .int 0), (3, .ref 164), (2, .ref 136), (1, .ref 0), (0, .retAddr 0)], [.int 0], _) _ _ _
          refine pt_s (pc1 := 929) (lv1 := [(6, .int 0), (5, .int 1), (4, .int 0), (3, .ref 164), (2, .ref 136), (1, .ref 0), (0, .retAddr 0)]) (st1 := []) rfl rfl (fun _ => rfl) ?_
          refine pt_s (pc1 := 930) (st1 := [.ref 136]) rfl rfl (fun _ => rfl) ?_
          refine pt_callv (N := pm_X10_thrown) (as := [.ref 136]) (rest := []) (f := 2047) (l := 83980) (c1 := 0) (k1 := 0) (c2 := 599836) (k2 := 7274189) (v := some (.int 1)) (h1 := ph_2) rfl rfl (fun ex => px_inv_hs ex rfl rfl rfl pg_3 rfl rfl rfl rfl) ?_ (Nat.le_of_ble_eq_true rfl) (Nat.le_of_ble_eq_true rfl) ?_
          · refine px_C_of rfl ?_
            refine pr_s (pc1 := 1) (st1 := [.ref 136]) rfl (fun _ => rfl) ?_
            refine pr_getf (pc1 := 4) (v := .int 1) rfl rfl pg_3 rfl rfl ?_
            exact pr_e rfl (fun _ => rfl) ⟨rfl, rfl⟩
          show px_T _ _ _ _ (933, [(6, .int 0), (5, .int 1), (4, .int 0), (3, .ref 164), (2, .ref 136), (1, .ref 0), (0, .retAddr 0)], [.int 1], _) _ _ _
          refine pt_s (pc1 := 935) (st1 := [.int 1, .int 1]) rfl rfl (fun _ => rfl) ?_
          refine pt_bt (t := 940) (off := 5) (bb := decide ((1 : Int32) = 1)) (st1 := []) rfl rfl rfl rfl rfl (by decide) ?_
          refine pt_s (pc1 := 942) (st1 := [.int 1]) rfl rfl (fun _ => rfl) ?_
          refine pt_bt (t := 957) (off := 15) (bb := !decide ((1 : Int32) = 0)) (st1 := []) rfl rfl rfl rfl rfl (px_not_t (by decide)) ?_
          refine pt_s (pc1 := 2771) (st1 := []) rfl rfl (fun _ => rfl) ?_
          refine pt_s (pc1 := 2774) (lv1 := [(4, .int 6), (6, .int 0), (5, .int 1), (3, .ref 164), (2, .ref 136), (1, .ref 0), (0, .retAddr 0)]) (st1 := []) rfl rfl (fun _ => rfl) ?_
          refine pt_s (pc1 := 23) (st1 := []) rfl rfl (fun _ => rfl) ?_
          refine pt_s (pc1 := 25) (st1 := [.int 6]) rfl rfl (fun _ => rfl) ?_
          refine pt_s (pc1 := 26) (st1 := [.retAddr 0, .int 6]) rfl rfl (fun _ => rfl) ?_
          refine pt_s (pc1 := 27) (st1 := [.int 6, .int 6]) rfl rfl (fun _ => rfl) ?_
          refine pt_s (pc1 := 29) (st1 := [.int 6, .int 6, .int 6]) rfl rfl (fun _ => rfl) ?_
          refine pt_s (pc1 := 30) (st1 := [.int 0, .int 6]) rfl rfl (fun _ => rfl) ?_
          refine pt_bt (t := 2777) (off := 2747) (bb := decide ((0 : Int32) < (6 : Int32))) (st1 := []) rfl rfl rfl rfl rfl (by decide) ?_
          refine pt_s (pc1 := 2778) (st1 := [.int 1]) rfl rfl (fun _ => rfl) ?_
          exact pt_e rfl ⟨rfl, (rfl : px_ins pm_law 2778 = some (.ireturn, 1))⟩
    · have ha1 : 8 ≤ a1.toInt ∧ a1.toInt ≤ 2147483647 := ⟨by omega, ha1.2⟩
      refine pt_s (pc1 := 868) (st1 := []) rfl rfl (fun _ => rfl) ?_
      refine pt_s (pc1 := 869) (st1 := [.ref 0]) rfl rfl (fun _ => rfl) ?_
      refine pt_s (pc1 := 870) (st1 := [.retAddr 0, .ref 0]) rfl rfl (fun _ => rfl) ?_
      refine pt_s (pc1 := 872) (st1 := [.int 0, .retAddr 0, .ref 0]) rfl rfl (fun _ => rfl) ?_
      refine pt_s (pc1 := 873) (st1 := [.int 1, .int 0, .retAddr 0, .ref 0]) rfl rfl (fun _ => rfl) ?_
      refine pt_s (pc1 := 874) (st1 := [.int 1, .retAddr 0, .ref 0]) rfl rfl (fun _ => rfl) ?_
      refine pt_s (pc1 := 875) (st1 := [.int a1, .ref 0]) rfl rfl (fun _ => rfl) ?_
      refine pt_s (pc1 := 876) (st1 := [.retAddr 0, .int a1, .ref 0]) rfl rfl (fun _ => rfl) ?_
      refine pt_s (pc1 := 878) (st1 := [.int 0, .retAddr 0, .int a1, .ref 0]) rfl rfl (fun _ => rfl) ?_
      refine pt_s (pc1 := 879) (st1 := [.int 2, .int 0, .retAddr 0, .int a1, .ref 0]) rfl rfl (fun _ => rfl) ?_
      refine pt_s (pc1 := 880) (st1 := [.int 2, .retAddr 0, .int a1, .ref 0]) rfl rfl (fun _ => rfl) ?_
      refine pt_s (pc1 := 881) (st1 := [.int a2, .int a1, .ref 0]) rfl rfl (fun _ => rfl) ?_
      refine pt_s (pc1 := 882) (st1 := [.retAddr 0, .int a2, .int a1, .ref 0]) rfl rfl (fun _ => rfl) ?_
      refine pt_s (pc1 := 884) (st1 := [.int 0, .retAddr 0, .int a2, .int a1, .ref 0]) rfl rfl (fun _ => rfl) ?_
      refine pt_s (pc1 := 885) (st1 := [.int 3, .int 0, .retAddr 0, .int a2, .int a1, .ref 0]) rfl rfl (fun _ => rfl) ?_
      refine pt_s (pc1 := 886) (st1 := [.int 3, .retAddr 0, .int a2, .int a1, .ref 0]) rfl rfl (fun _ => rfl) ?_
      refine pt_s (pc1 := 887) (st1 := [.int a3, .int a2, .int a1, .ref 0]) rfl rfl (fun _ => rfl) ?_
      refine pt_s (pc1 := 888) (st1 := [.retAddr 0, .int a3, .int a2, .int a1, .ref 0]) rfl rfl (fun _ => rfl) ?_
      refine pt_s (pc1 := 890) (st1 := [.int 0, .retAddr 0, .int a3, .int a2, .int a1, .ref 0]) rfl rfl (fun _ => rfl) ?_
      refine pt_s (pc1 := 891) (st1 := [.int 4, .int 0, .retAddr 0, .int a3, .int a2, .int a1, .ref 0]) rfl rfl (fun _ => rfl) ?_
      refine pt_s (pc1 := 892) (st1 := [.int 4, .retAddr 0, .int a3, .int a2, .int a1, .ref 0]) rfl rfl (fun _ => rfl) ?_
      refine pt_s (pc1 := 893) (st1 := [.int a4, .int a3, .int a2, .int a1, .ref 0]) rfl rfl (fun _ => rfl) ?_
      refine pt_s (pc1 := 894) (st1 := [.ref 164, .int a4, .int a3, .int a2, .int a1, .ref 0]) rfl rfl (fun _ => rfl) ?_
      refine pt_callv (N := pm_L_state) (as := [.ref 0, .int a1, .int a2, .int a3, .int a4, .ref 164]) (rest := []) (f := 2047) (l := 83974) (c1 := 1) (k1 := 6) (c2 := 599836) (k2 := 7274189) (v := some (.int 1)) (h1 := ph_1) rfl rfl (fun _ => rfl) ?_ (Nat.le_of_ble_eq_true rfl) (Nat.le_of_ble_eq_true rfl) ?_
      · refine px_C_of rfl ?_
        refine pr_s (pc1 := 2) (st1 := [.ref 164]) rfl (fun _ => rfl) ?_
        refine pr_s (pc1 := 3) (st1 := [.int 0, .ref 164]) rfl (fun _ => rfl) ?_
        refine pr_s (pc1 := 4) (st1 := [.ref 0, .int 0, .ref 164]) rfl (fun _ => rfl) ?_
        refine pr_s (pc1 := 5) (st1 := [.int a1, .ref 0, .int 0, .ref 164]) rfl (fun _ => rfl) ?_
        refine pr_s (pc1 := 6) (st1 := [.int a2, .int a1, .ref 0, .int 0, .ref 164]) rfl (fun _ => rfl) ?_
        refine pr_s (pc1 := 7) (st1 := [.int a3, .int a2, .int a1, .ref 0, .int 0, .ref 164]) rfl (fun _ => rfl) ?_
        refine pr_s (pc1 := 9) (st1 := [.int a4, .int a3, .int a2, .int a1, .ref 0, .int 0, .ref 164]) rfl (fun _ => rfl) ?_
        refine pr_callx (N := pm_X6_state) (as := [.ref 0, .int a1, .int a2, .int a3, .int a4]) (rest := [.int 0, .ref 164]) (f := 2046) (l := 83949) (c1 := 1) (k1 := 6) (c2 := 0) (k2 := 0) (E := 12) (h1 := ph_1) (a := 17) (y1 := 6) (y2 := 2) rfl (fun ex => px_inv_hs ex rfl rfl rfl pg_0 rfl rfl rfl rfl) ?_ (Nat.le_of_ble_eq_true rfl) (Nat.le_of_ble_eq_true rfl) rfl rfl rfl rfl ?_
        · refine px_C_of rfl ?_
          refine pr_s (pc1 := 1) (st1 := [.int a1]) rfl (fun _ => rfl) ?_
          refine pr_callv (N := pm_X6_isKind) (as := [.int a1]) (rest := []) (f := 2045) (l := 83929) (c1 := 0) (k1 := 0) (c2 := 1) (k2 := 6) (v := some (.int 0)) (h1 := px_hs) rfl (fun _ => rfl) ?_ (Nat.le_of_ble_eq_true rfl) (Nat.le_of_ble_eq_true rfl) ?_
          · refine px_C_of rfl ?_
            refine pr_s (pc1 := 1) (st1 := [.int a1]) rfl (fun _ => rfl) ?_
            refine pr_bf (t := 14) (off := 13) (bb := decide (a1 < 0)) (st1 := []) rfl rfl rfl rfl (pb_ltF ha1.1 (show (0 : Int32).toInt ≤ 0 by decide) (by decide)) ?_
            refine pr_s (pc1 := 5) (st1 := [.int a1]) rfl (fun _ => rfl) ?_
            refine pr_s (pc1 := 7) (st1 := [.int 8, .int a1]) rfl (fun _ => rfl) ?_
            refine pr_bt (t := 14) (off := 7) (bb := decide ((8 : Int32) ≤ a1)) (st1 := []) rfl rfl rfl rfl (pb_leT (show (8 : Int32).toInt ≤ 8 by decide) ha1.1 (by decide)) ?_
            refine pr_s (pc1 := 15) (st1 := [.int 0]) rfl (fun _ => rfl) ?_
            exact pr_e rfl (fun _ => rfl) ⟨rfl, rfl⟩
          show px_R _ _ _ _ (4, [(0, .ref 0), (1, .int a1), (2, .int a2), (3, .int a3), (4, .int a4)], [.int 0], _) _ _ _
          refine pr_bt (t := 29) (off := 25) (bb := decide ((0 : Int32) = 0)) (st1 := []) rfl rfl rfl rfl (by decide) ?_
          refine pr_mh (z1 := 1) (z2 := 6) (c1 := 0) (k1 := 0) (pc1 := 38) (n := 165) (r := []) (h1 := ph_1) (es := fun n => [.inr (12, [])]) rfl (fun _ => rfl) pl_0 rfl (Nat.le_of_ble_eq_true rfl) (Nat.le_of_ble_eq_true rfl) ?_
          exact pr_e rfl (fun _ => rfl) ⟨rfl, rfl⟩
        show px_R _ _ _ _ (19, [(0, .ref 0), (1, .int a1), (2, .int a2), (3, .int a3), (4, .int a4), (5, .ref 164)], [], _) _ _ _
        refine pr_s (pc1 := 20) (st1 := [.int 1]) rfl (fun _ => rfl) ?_
        exact pr_e rfl (fun _ => rfl) ⟨rfl, rfl⟩
      show px_T _ _ _ _ (897, [(4, .int 0), (3, .ref 164), (2, .ref 136), (1, .ref 0), (0, .retAddr 0)], [.int 1], _) _ _ _
      refine pt_s (pc1 := 899) (lv1 := [(5, .int 1), (4, .int 0), (3, .ref 164), (2, .ref 136), (1, .ref 0), (0, .retAddr 0)]) (st1 := []) rfl rfl (fun _ => rfl) ?_
      refine pt_s (pc1 := 900) (st1 := [.ref 136]) rfl rfl (fun _ => rfl) ?_
      refine pt_s (pc1 := 901) (st1 := [.retAddr 0, .ref 136]) rfl rfl (fun _ => rfl) ?_
      refine pt_s (pc1 := 903) (st1 := [.int 0, .retAddr 0, .ref 136]) rfl rfl (fun _ => rfl) ?_
      refine pt_s (pc1 := 904) (st1 := [.int 1, .int 0, .retAddr 0, .ref 136]) rfl rfl (fun _ => rfl) ?_
      refine pt_s (pc1 := 905) (st1 := [.int 1, .retAddr 0, .ref 136]) rfl rfl (fun _ => rfl) ?_
      refine pt_s (pc1 := 906) (st1 := [.int a1, .ref 136]) rfl rfl (fun _ => rfl) ?_
      refine pt_s (pc1 := 907) (st1 := [.retAddr 0, .int a1, .ref 136]) rfl rfl (fun _ => rfl) ?_
      refine pt_s (pc1 := 909) (st1 := [.int 0, .retAddr 0, .int a1, .ref 136]) rfl rfl (fun _ => rfl) ?_
      refine pt_s (pc1 := 910) (st1 := [.int 2, .int 0, .retAddr 0, .int a1, .ref 136]) rfl rfl (fun _ => rfl) ?_
      refine pt_s (pc1 := 911) (st1 := [.int 2, .retAddr 0, .int a1, .ref 136]) rfl rfl (fun _ => rfl) ?_
      refine pt_s (pc1 := 912) (st1 := [.int a2, .int a1, .ref 136]) rfl rfl (fun _ => rfl) ?_
      refine pt_s (pc1 := 913) (st1 := [.retAddr 0, .int a2, .int a1, .ref 136]) rfl rfl (fun _ => rfl) ?_
      refine pt_s (pc1 := 915) (st1 := [.int 0, .retAddr 0, .int a2, .int a1, .ref 136]) rfl rfl (fun _ => rfl) ?_
      refine pt_s (pc1 := 916) (st1 := [.int 3, .int 0, .retAddr 0, .int a2, .int a1, .ref 136]) rfl rfl (fun _ => rfl) ?_
      refine pt_s (pc1 := 917) (st1 := [.int 3, .retAddr 0, .int a2, .int a1, .ref 136]) rfl rfl (fun _ => rfl) ?_
      refine pt_s (pc1 := 918) (st1 := [.int a3, .int a2, .int a1, .ref 136]) rfl rfl (fun _ => rfl) ?_
      refine pt_s (pc1 := 919) (st1 := [.retAddr 0, .int a3, .int a2, .int a1, .ref 136]) rfl rfl (fun _ => rfl) ?_
      refine pt_s (pc1 := 921) (st1 := [.int 0, .retAddr 0, .int a3, .int a2, .int a1, .ref 136]) rfl rfl (fun _ => rfl) ?_
      refine pt_s (pc1 := 922) (st1 := [.int 4, .int 0, .retAddr 0, .int a3, .int a2, .int a1, .ref 136]) rfl rfl (fun _ => rfl) ?_
      refine pt_s (pc1 := 923) (st1 := [.int 4, .retAddr 0, .int a3, .int a2, .int a1, .ref 136]) rfl rfl (fun _ => rfl) ?_
      refine pt_s (pc1 := 924) (st1 := [.int a4, .int a3, .int a2, .int a1, .ref 136]) rfl rfl (fun _ => rfl) ?_
      refine pt_callv (N := pm_X10_state) (as := [.ref 136, .int a1, .int a2, .int a3, .int a4]) (rest := []) (f := 2047) (l := 83974) (c1 := 0) (k1 := 0) (c2 := 599836) (k2 := 7274189) (v := some (.int 0)) (h1 := ph_2) rfl rfl (fun ex => px_inv_hs ex rfl rfl rfl pg_2 rfl rfl rfl rfl) ?_ (Nat.le_of_ble_eq_true rfl) (Nat.le_of_ble_eq_true rfl) ?_
      · refine px_C_of rfl ?_
        refine pr_s (pc1 := 1) (st1 := [.ref 136]) rfl (fun _ => rfl) ?_
        refine pr_s (pc1 := 2) (st1 := [.int 0, .ref 136]) rfl (fun _ => rfl) ?_
        refine pr_putf (pc1 := 5) (h1 := ph_1) rfl rfl pg_2 rfl rfl rfl rfl rfl (px_set_same pg_2 rfl) rfl ?_
        refine pr_s (pc1 := 6) (st1 := [.int a1]) rfl (fun _ => rfl) ?_
        refine pr_s (pc1 := 7) (st1 := [.int 0, .int a1]) rfl (fun _ => rfl) ?_
        refine pr_s (pc1 := 9) (st1 := [.int 7, .int 0, .int a1]) rfl (fun _ => rfl) ?_
        refine pr_callv (N := pm_X10_is) (as := [.int a1, .int 0, .int 7]) (rest := []) (f := 2046) (l := 83952) (c1 := 0) (k1 := 0) (c2 := 0) (k2 := 0) (v := some (.int 0)) (h1 := ph_1) rfl (fun _ => rfl) ?_ (Nat.le_of_ble_eq_true rfl) (Nat.le_of_ble_eq_true rfl) ?_
        · refine px_C_of rfl ?_
          refine pr_s (pc1 := 1) (st1 := [.int a1]) rfl (fun _ => rfl) ?_
          refine pr_s (pc1 := 2) (st1 := [.int 0, .int a1]) rfl (fun _ => rfl) ?_
          refine pr_bf (t := 14) (off := 12) (bb := decide (a1 < 0)) (st1 := []) rfl rfl rfl rfl (pb_ltF ha1.1 (show (0 : Int32).toInt ≤ 0 by decide) (by decide)) ?_
          refine pr_s (pc1 := 6) (st1 := [.int a1]) rfl (fun _ => rfl) ?_
          refine pr_s (pc1 := 7) (st1 := [.int 7, .int a1]) rfl (fun _ => rfl) ?_
          refine pr_bt (t := 14) (off := 7) (bb := decide ((7 : Int32) < a1)) (st1 := []) rfl rfl rfl rfl (pb_ltT (show (7 : Int32).toInt ≤ 7 by decide) ha1.1 (by decide)) ?_
          refine pr_s (pc1 := 15) (st1 := [.int 0]) rfl (fun _ => rfl) ?_
          exact pr_e rfl (fun _ => rfl) ⟨rfl, rfl⟩
        show px_R _ _ _ _ (12, [(0, .ref 136), (1, .int a1), (2, .int a2), (3, .int a3), (4, .int a4)], [.int 0], _) _ _ _
        refine pr_bt (t := 37) (off := 25) (bb := decide ((0 : Int32) = 0)) (st1 := []) rfl rfl rfl rfl (by decide) ?_
        refine pr_s (pc1 := 38) (st1 := [.ref 136]) rfl (fun _ => rfl) ?_
        refine pr_s (pc1 := 39) (st1 := [.int 1, .ref 136]) rfl (fun _ => rfl) ?_
        refine pr_callv (N := pm_X10_refuse) (as := [.ref 136, .int 1]) (rest := []) (f := 2046) (l := 83953) (c1 := 0) (k1 := 0) (c2 := 0) (k2 := 0) (v := some (.int 0)) (h1 := ph_2) rfl (fun ex => px_inv_hs ex rfl rfl rfl pg_2 rfl rfl rfl rfl) ?_ (Nat.le_of_ble_eq_true rfl) (Nat.le_of_ble_eq_true rfl) ?_
        · refine px_C_of rfl ?_
          refine pr_s (pc1 := 1) (st1 := [.ref 136]) rfl (fun _ => rfl) ?_
          refine pr_s (pc1 := 2) (st1 := [.int 1, .ref 136]) rfl (fun _ => rfl) ?_
          refine pr_putf (pc1 := 5) (h1 := ph_2) rfl rfl pg_2 rfl rfl rfl rfl rfl rfl rfl ?_
          refine pr_s (pc1 := 6) (st1 := [.int 0]) rfl (fun _ => rfl) ?_
          exact pr_e rfl (fun _ => rfl) ⟨rfl, rfl⟩
        show px_R _ _ _ _ (42, [(0, .ref 136), (1, .int a1), (2, .int a2), (3, .int a3), (4, .int a4)], [.int 0], _) _ _ _
        exact pr_e rfl (fun _ => rfl) ⟨rfl, rfl⟩
      show px_T _ _ _ _ (927, [(5, .int 1), (4, .int 0), (3, .ref 164), (2, .ref 136), (1, .ref 0), (0, .retAddr 0)], [.int 0], _) _ _ _
      refine pt_s (pc1 := 929) (lv1 := [(6, .int 0), (5, .int 1), (4, .int 0), (3, .ref 164), (2, .ref 136), (1, .ref 0), (0, .retAddr 0)]) (st1 := []) rfl rfl (fun _ => rfl) ?_
      refine pt_s (pc1 := 930) (st1 := [.ref 136]) rfl rfl (fun _ => rfl) ?_
      refine pt_callv (N := pm_X10_thrown) (as := [.ref 136]) (rest := []) (f := 2047) (l := 83980) (c1 := 0) (k1 := 0) (c2 := 599836) (k2 := 7274189) (v := some (.int 1)) (h1 := ph_2) rfl rfl (fun ex => px_inv_hs ex rfl rfl rfl pg_3 rfl rfl rfl rfl) ?_ (Nat.le_of_ble_eq_true rfl) (Nat.le_of_ble_eq_true rfl) ?_
      · refine px_C_of rfl ?_
        refine pr_s (pc1 := 1) (st1 := [.ref 136]) rfl (fun _ => rfl) ?_
        refine pr_getf (pc1 := 4) (v := .int 1) rfl rfl pg_3 rfl rfl ?_
        exact pr_e rfl (fun _ => rfl) ⟨rfl, rfl⟩
      show px_T _ _ _ _ (933, [(6, .int 0), (5, .int 1), (4, .int 0), (3, .ref 164), (2, .ref 136), (1, .ref 0), (0, .retAddr 0)], [.int 1], _) _ _ _
      refine pt_s (pc1 := 935) (st1 := [.int 1, .int 1]) rfl rfl (fun _ => rfl) ?_
      refine pt_bt (t := 940) (off := 5) (bb := decide ((1 : Int32) = 1)) (st1 := []) rfl rfl rfl rfl rfl (by decide) ?_
      refine pt_s (pc1 := 942) (st1 := [.int 1]) rfl rfl (fun _ => rfl) ?_
      refine pt_bt (t := 957) (off := 15) (bb := !decide ((1 : Int32) = 0)) (st1 := []) rfl rfl rfl rfl rfl (px_not_t (by decide)) ?_
      refine pt_s (pc1 := 2771) (st1 := []) rfl rfl (fun _ => rfl) ?_
      refine pt_s (pc1 := 2774) (lv1 := [(4, .int 6), (6, .int 0), (5, .int 1), (3, .ref 164), (2, .ref 136), (1, .ref 0), (0, .retAddr 0)]) (st1 := []) rfl rfl (fun _ => rfl) ?_
      refine pt_s (pc1 := 23) (st1 := []) rfl rfl (fun _ => rfl) ?_
      refine pt_s (pc1 := 25) (st1 := [.int 6]) rfl rfl (fun _ => rfl) ?_
      refine pt_s (pc1 := 26) (st1 := [.retAddr 0, .int 6]) rfl rfl (fun _ => rfl) ?_
      refine pt_s (pc1 := 27) (st1 := [.int 6, .int 6]) rfl rfl (fun _ => rfl) ?_
      refine pt_s (pc1 := 29) (st1 := [.int 6, .int 6, .int 6]) rfl rfl (fun _ => rfl) ?_
      refine pt_s (pc1 := 30) (st1 := [.int 0, .int 6]) rfl rfl (fun _ => rfl) ?_
      refine pt_bt (t := 2777) (off := 2747) (bb := decide ((0 : Int32) < (6 : Int32))) (st1 := []) rfl rfl rfl rfl rfl (by decide) ?_
      refine pt_s (pc1 := 2778) (st1 := [.int 1]) rfl rfl (fun _ => rfl) ?_
      exact pt_e rfl ⟨rfl, (rfl : px_ins pm_law 2778 = some (.ireturn, 1))⟩
set_option maxRecDepth 100000 in
set_option maxHeartbeats 40000000 in
theorem px_op_9 (a0 a1 a2 a3 a4 a5 : Int32) : px_T (some [a0, a1, a2, a3, a4, a5]) pm_law 2048 84000 (40, [(4, .int 0), (3, .ref 164), (2, .ref 136), (1, .ref 0), (0, .retAddr 0)], [.int 9], px_hs) 599837 7274195 (fun s1 => s1.2.2.1 = [.int 1] ∧ px_ins pm_law s1.1 = some (.ireturn, 1)) := by
  have ha1 : (-2147483648) ≤ a1.toInt ∧ a1.toInt ≤ 2147483647 := ⟨Int32.le_toInt a1, Int32.toInt_le a1⟩
  by_cases hs : a1.toInt < 0
  · have ha1 : (-2147483648) ≤ a1.toInt ∧ a1.toInt ≤ (-1) := ⟨ha1.1, by omega⟩
    refine pt_s (pc1 := 960) (st1 := []) rfl rfl (fun _ => rfl) ?_
    refine pt_s (pc1 := 961) (st1 := [.ref 0]) rfl rfl (fun _ => rfl) ?_
    refine pt_s (pc1 := 962) (st1 := [.retAddr 0, .ref 0]) rfl rfl (fun _ => rfl) ?_
    refine pt_s (pc1 := 964) (st1 := [.int 0, .retAddr 0, .ref 0]) rfl rfl (fun _ => rfl) ?_
    refine pt_s (pc1 := 965) (st1 := [.int 1, .int 0, .retAddr 0, .ref 0]) rfl rfl (fun _ => rfl) ?_
    refine pt_s (pc1 := 966) (st1 := [.int 1, .retAddr 0, .ref 0]) rfl rfl (fun _ => rfl) ?_
    refine pt_s (pc1 := 967) (st1 := [.int a1, .ref 0]) rfl rfl (fun _ => rfl) ?_
    refine pt_s (pc1 := 968) (st1 := [.ref 164, .int a1, .ref 0]) rfl rfl (fun _ => rfl) ?_
    refine pt_callv (N := pm_L_takeBack) (as := [.ref 0, .int a1, .ref 164]) (rest := []) (f := 2047) (l := 83977) (c1 := 1) (k1 := 6) (c2 := 599836) (k2 := 7274189) (v := some (.int 1)) (h1 := ph_14) rfl rfl (fun _ => rfl) ?_ (Nat.le_of_ble_eq_true rfl) (Nat.le_of_ble_eq_true rfl) ?_
    · refine px_C_of rfl ?_
      refine pr_s (pc1 := 1) (st1 := [.ref 164]) rfl (fun _ => rfl) ?_
      refine pr_s (pc1 := 2) (st1 := [.int 0, .ref 164]) rfl (fun _ => rfl) ?_
      refine pr_s (pc1 := 3) (st1 := [.ref 0, .int 0, .ref 164]) rfl (fun _ => rfl) ?_
      refine pr_s (pc1 := 4) (st1 := [.int a1, .ref 0, .int 0, .ref 164]) rfl (fun _ => rfl) ?_
      refine pr_callx (N := pm_X6_takeBack) (as := [.ref 0, .int a1]) (rest := [.int 0, .ref 164]) (f := 2046) (l := 83954) (c1 := 1) (k1 := 6) (c2 := 0) (k2 := 0) (E := 11) (h1 := ph_14) (a := 12) (y1 := 3) (y2 := 1) rfl (fun ex => px_inv_hs ex rfl rfl rfl pg_0 rfl rfl rfl rfl) ?_ (Nat.le_of_ble_eq_true rfl) (Nat.le_of_ble_eq_true rfl) rfl rfl rfl rfl ?_
      · refine px_C_of rfl ?_
        refine pr_s (pc1 := 1) (st1 := [.ref 0]) rfl (fun _ => rfl) ?_
        refine pr_s (pc1 := 2) (st1 := [.int a1, .ref 0]) rfl (fun _ => rfl) ?_
        refine pr_callo (N := pm_X6_needFact) (as := [.ref 0, .int a1]) (rest := []) (f := 2045) (l := 83932) (E := 11) (h1 := ph_14) rfl (fun ex => px_inv_hs ex rfl rfl rfl pg_0 rfl rfl rfl rfl) ?_ rfl ⟨rfl, rfl⟩
        · refine px_C_of rfl ?_
          refine pr_s (pc1 := 1) (st1 := [.ref 0]) rfl (fun _ => rfl) ?_
          refine pr_getf (pc1 := 4) (v := .ref 92) rfl rfl pg_0 rfl rfl ?_
          refine pr_getf (pc1 := 7) (v := .ref 93) rfl rfl pg_22 rfl rfl ?_
          refine pr_s (pc1 := 8) (st1 := [.int a1, .ref 93]) rfl (fun _ => rfl) ?_
          refine pr_callv (N := pm_X2_placeOf) (as := [.ref 93, .int a1]) (rest := []) (f := 2044) (l := 83910) (c1 := 0) (k1 := 0) (c2 := 1) (k2 := 6) (v := some (.int (-1))) (h1 := px_hs) rfl (fun ex => px_inv_hs ex rfl rfl rfl pg_23 rfl rfl rfl rfl) ?_ (Nat.le_of_ble_eq_true rfl) (Nat.le_of_ble_eq_true rfl) ?_
          · refine px_C_of rfl ?_
            refine pr_s (pc1 := 1) (st1 := [.int a1]) rfl (fun _ => rfl) ?_
            refine pr_bt (t := 12) (off := 11) (bb := decide (a1 < 0)) (st1 := []) rfl rfl rfl rfl (pb_ltT ha1.2 (show 0 ≤ (0 : Int32).toInt by decide) (by decide)) ?_
            refine pr_s (pc1 := 13) (st1 := [.int (-1)]) rfl (fun _ => rfl) ?_
            exact pr_e rfl (fun _ => rfl) ⟨rfl, rfl⟩
          show px_R _ _ _ _ (11, [(0, .ref 0), (1, .int a1)], [.int (-1)], _) _ _ _
          refine pr_s (pc1 := 12) (lv1 := [(2, .int (-1)), (0, .ref 0), (1, .int a1)]) (st1 := []) rfl (fun _ => rfl) ?_
          refine pr_s (pc1 := 13) (st1 := [.int (-1)]) rfl (fun _ => rfl) ?_
          refine pr_bf (t := 27) (off := 14) (bb := decide ((0 : Int32) ≤ ((-1) : Int32))) (st1 := []) rfl rfl rfl rfl (by decide) ?_
          refine pr_mh (z1 := 1) (z2 := 6) (c1 := 0) (k1 := 0) (pc1 := 26) (n := 165) (r := []) (h1 := ph_14) (es := fun n => [.inr (11, [])]) rfl (fun _ => rfl) pl_0 rfl (Nat.le_of_ble_eq_true rfl) (Nat.le_of_ble_eq_true rfl) ?_
          exact pr_e rfl (fun _ => rfl) ⟨rfl, rfl⟩
      show px_R _ _ _ _ (13, [(0, .ref 0), (1, .int a1), (2, .ref 164)], [], _) _ _ _
      refine pr_s (pc1 := 14) (st1 := [.int 1]) rfl (fun _ => rfl) ?_
      exact pr_e rfl (fun _ => rfl) ⟨rfl, rfl⟩
    show px_T _ _ _ _ (971, [(4, .int 0), (3, .ref 164), (2, .ref 136), (1, .ref 0), (0, .retAddr 0)], [.int 1], _) _ _ _
    refine pt_s (pc1 := 973) (lv1 := [(5, .int 1), (4, .int 0), (3, .ref 164), (2, .ref 136), (1, .ref 0), (0, .retAddr 0)]) (st1 := []) rfl rfl (fun _ => rfl) ?_
    refine pt_s (pc1 := 974) (st1 := [.ref 136]) rfl rfl (fun _ => rfl) ?_
    refine pt_s (pc1 := 975) (st1 := [.retAddr 0, .ref 136]) rfl rfl (fun _ => rfl) ?_
    refine pt_s (pc1 := 977) (st1 := [.int 0, .retAddr 0, .ref 136]) rfl rfl (fun _ => rfl) ?_
    refine pt_s (pc1 := 978) (st1 := [.int 1, .int 0, .retAddr 0, .ref 136]) rfl rfl (fun _ => rfl) ?_
    refine pt_s (pc1 := 979) (st1 := [.int 1, .retAddr 0, .ref 136]) rfl rfl (fun _ => rfl) ?_
    refine pt_s (pc1 := 980) (st1 := [.int a1, .ref 136]) rfl rfl (fun _ => rfl) ?_
    refine pt_callv (N := pm_X10_takeBack) (as := [.ref 136, .int a1]) (rest := []) (f := 2047) (l := 83978) (c1 := 0) (k1 := 0) (c2 := 599836) (k2 := 7274189) (v := some (.int 0)) (h1 := ph_15) rfl rfl (fun ex => px_inv_hs ex rfl rfl rfl pg_20 rfl rfl rfl rfl) ?_ (Nat.le_of_ble_eq_true rfl) (Nat.le_of_ble_eq_true rfl) ?_
    · refine px_C_of rfl ?_
      refine pr_s (pc1 := 1) (st1 := [.ref 136]) rfl (fun _ => rfl) ?_
      refine pr_s (pc1 := 2) (st1 := [.int a1, .ref 136]) rfl (fun _ => rfl) ?_
      refine pr_callv (N := pm_X10_isFact) (as := [.ref 136, .int a1]) (rest := []) (f := 2046) (l := 83957) (c1 := 0) (k1 := 0) (c2 := 0) (k2 := 0) (v := some (.int 0)) (h1 := ph_15) rfl (fun ex => px_inv_hs ex rfl rfl rfl pg_20 rfl rfl rfl rfl) ?_ (Nat.le_of_ble_eq_true rfl) (Nat.le_of_ble_eq_true rfl) ?_
      · refine px_C_of rfl ?_
        refine pr_s (pc1 := 1) (st1 := [.ref 136]) rfl (fun _ => rfl) ?_
        refine pr_s (pc1 := 2) (st1 := [.ref 136, .ref 136]) rfl (fun _ => rfl) ?_
        refine pr_getf (pc1 := 5) (v := .ref 138) rfl rfl pg_20 rfl rfl ?_
        refine pr_s (pc1 := 6) (st1 := [.int a1, .ref 138, .ref 136]) rfl (fun _ => rfl) ?_
        refine pr_callv (N := pm_X9_place) (as := [.ref 138, .int a1]) (rest := [.ref 136]) (f := 2045) (l := 83935) (c1 := 0) (k1 := 0) (c2 := 0) (k2 := 0) (v := some (.int (-1))) (h1 := ph_14) rfl (fun ex => px_inv_hs ex rfl rfl rfl pg_506 rfl rfl rfl rfl) ?_ (Nat.le_of_ble_eq_true rfl) (Nat.le_of_ble_eq_true rfl) ?_
        · refine px_C_of rfl ?_
          refine pr_s (pc1 := 1) (st1 := [.ref 138]) rfl (fun _ => rfl) ?_
          refine pr_getf (pc1 := 4) (v := .ref 141) rfl rfl pg_506 rfl rfl ?_
          refine pr_getf (pc1 := 7) (v := .int 0) rfl rfl pg_507 rfl rfl ?_
          refine pr_s (pc1 := 8) (st1 := [.int 1, .int 0]) rfl (fun _ => rfl) ?_
          refine pr_s (pc1 := 9) (st1 := [.int (-1)]) rfl (fun _ => rfl) ?_
          refine pr_s (pc1 := 10) (lv1 := [(2, .int (-1)), (0, .ref 138), (1, .int a1)]) (st1 := []) rfl (fun _ => rfl) ?_
          refine pr_s (pc1 := 11) (st1 := [.int (-1)]) rfl (fun _ => rfl) ?_
          refine pr_bt (t := 33) (off := 22) (bb := decide (((-1) : Int32) < 0)) (st1 := []) rfl rfl rfl rfl (by decide) ?_
          refine pr_s (pc1 := 34) (st1 := [.int (-1)]) rfl (fun _ => rfl) ?_
          exact pr_e rfl (fun _ => rfl) ⟨rfl, rfl⟩
        show px_R _ _ _ _ (9, [(0, .ref 136), (1, .int a1)], [.int (-1), .ref 136], _) _ _ _
        refine pr_s (pc1 := 10) (st1 := [.int (-1), .int (-1), .ref 136]) rfl (fun _ => rfl) ?_
        refine pr_bt (t := 17) (off := 7) (bb := decide (((-1) : Int32) = (-1))) (st1 := [.ref 136]) rfl rfl rfl rfl (by decide) ?_
        refine pr_s (pc1 := 18) (st1 := [.int 1, .ref 136]) rfl (fun _ => rfl) ?_
        refine pr_putf (pc1 := 21) (h1 := ph_15) rfl rfl pg_20 rfl rfl rfl rfl rfl rfl rfl ?_
        refine pr_s (pc1 := 22) (st1 := [.ref 136]) rfl (fun _ => rfl) ?_
        refine pr_getf (pc1 := 25) (v := .int 1) rfl rfl pg_21 rfl rfl ?_
        refine pr_bt (t := 32) (off := 7) (bb := !decide ((1 : Int32) = 0)) (st1 := []) rfl rfl rfl rfl (px_not_t (by decide)) ?_
        refine pr_s (pc1 := 33) (st1 := [.int 0]) rfl (fun _ => rfl) ?_
        exact pr_e rfl (fun _ => rfl) ⟨rfl, rfl⟩
      show px_R _ _ _ _ (5, [(0, .ref 136), (1, .int a1)], [.int 0], _) _ _ _
      refine pr_bf (t := 10) (off := 5) (bb := !decide ((0 : Int32) = 0)) (st1 := []) rfl rfl rfl rfl (px_not_f (by decide)) ?_
      refine pr_s (pc1 := 9) (st1 := [.int 0]) rfl (fun _ => rfl) ?_
      exact pr_e rfl (fun _ => rfl) ⟨rfl, rfl⟩
    show px_T _ _ _ _ (983, [(5, .int 1), (4, .int 0), (3, .ref 164), (2, .ref 136), (1, .ref 0), (0, .retAddr 0)], [.int 0], _) _ _ _
    refine pt_s (pc1 := 985) (lv1 := [(6, .int 0), (5, .int 1), (4, .int 0), (3, .ref 164), (2, .ref 136), (1, .ref 0), (0, .retAddr 0)]) (st1 := []) rfl rfl (fun _ => rfl) ?_
    refine pt_s (pc1 := 986) (st1 := [.ref 136]) rfl rfl (fun _ => rfl) ?_
    refine pt_callv (N := pm_X10_thrown) (as := [.ref 136]) (rest := []) (f := 2047) (l := 83980) (c1 := 0) (k1 := 0) (c2 := 599836) (k2 := 7274189) (v := some (.int 1)) (h1 := ph_15) rfl rfl (fun ex => px_inv_hs ex rfl rfl rfl pg_21 rfl rfl rfl rfl) ?_ (Nat.le_of_ble_eq_true rfl) (Nat.le_of_ble_eq_true rfl) ?_
    · refine px_C_of rfl ?_
      refine pr_s (pc1 := 1) (st1 := [.ref 136]) rfl (fun _ => rfl) ?_
      refine pr_getf (pc1 := 4) (v := .int 1) rfl rfl pg_21 rfl rfl ?_
      exact pr_e rfl (fun _ => rfl) ⟨rfl, rfl⟩
    show px_T _ _ _ _ (989, [(6, .int 0), (5, .int 1), (4, .int 0), (3, .ref 164), (2, .ref 136), (1, .ref 0), (0, .retAddr 0)], [.int 1], _) _ _ _
    refine pt_s (pc1 := 991) (st1 := [.int 1, .int 1]) rfl rfl (fun _ => rfl) ?_
    refine pt_bt (t := 996) (off := 5) (bb := decide ((1 : Int32) = 1)) (st1 := []) rfl rfl rfl rfl rfl (by decide) ?_
    refine pt_s (pc1 := 998) (st1 := [.int 1]) rfl rfl (fun _ => rfl) ?_
    refine pt_bt (t := 1013) (off := 15) (bb := !decide ((1 : Int32) = 0)) (st1 := []) rfl rfl rfl rfl rfl (px_not_t (by decide)) ?_
    refine pt_s (pc1 := 2771) (st1 := []) rfl rfl (fun _ => rfl) ?_
    refine pt_s (pc1 := 2774) (lv1 := [(4, .int 6), (6, .int 0), (5, .int 1), (3, .ref 164), (2, .ref 136), (1, .ref 0), (0, .retAddr 0)]) (st1 := []) rfl rfl (fun _ => rfl) ?_
    refine pt_s (pc1 := 23) (st1 := []) rfl rfl (fun _ => rfl) ?_
    refine pt_s (pc1 := 25) (st1 := [.int 6]) rfl rfl (fun _ => rfl) ?_
    refine pt_s (pc1 := 26) (st1 := [.retAddr 0, .int 6]) rfl rfl (fun _ => rfl) ?_
    refine pt_s (pc1 := 27) (st1 := [.int 6, .int 6]) rfl rfl (fun _ => rfl) ?_
    refine pt_s (pc1 := 29) (st1 := [.int 6, .int 6, .int 6]) rfl rfl (fun _ => rfl) ?_
    refine pt_s (pc1 := 30) (st1 := [.int 0, .int 6]) rfl rfl (fun _ => rfl) ?_
    refine pt_bt (t := 2777) (off := 2747) (bb := decide ((0 : Int32) < (6 : Int32))) (st1 := []) rfl rfl rfl rfl rfl (by decide) ?_
    refine pt_s (pc1 := 2778) (st1 := [.int 1]) rfl rfl (fun _ => rfl) ?_
    exact pt_e rfl ⟨rfl, (rfl : px_ins pm_law 2778 = some (.ireturn, 1))⟩
  · have ha1 : 0 ≤ a1.toInt ∧ a1.toInt ≤ 2147483647 := ⟨by omega, ha1.2⟩
    refine pt_s (pc1 := 960) (st1 := []) rfl rfl (fun _ => rfl) ?_
    refine pt_s (pc1 := 961) (st1 := [.ref 0]) rfl rfl (fun _ => rfl) ?_
    refine pt_s (pc1 := 962) (st1 := [.retAddr 0, .ref 0]) rfl rfl (fun _ => rfl) ?_
    refine pt_s (pc1 := 964) (st1 := [.int 0, .retAddr 0, .ref 0]) rfl rfl (fun _ => rfl) ?_
    refine pt_s (pc1 := 965) (st1 := [.int 1, .int 0, .retAddr 0, .ref 0]) rfl rfl (fun _ => rfl) ?_
    refine pt_s (pc1 := 966) (st1 := [.int 1, .retAddr 0, .ref 0]) rfl rfl (fun _ => rfl) ?_
    refine pt_s (pc1 := 967) (st1 := [.int a1, .ref 0]) rfl rfl (fun _ => rfl) ?_
    refine pt_s (pc1 := 968) (st1 := [.ref 164, .int a1, .ref 0]) rfl rfl (fun _ => rfl) ?_
    refine pt_callv (N := pm_L_takeBack) (as := [.ref 0, .int a1, .ref 164]) (rest := []) (f := 2047) (l := 83977) (c1 := 1) (k1 := 6) (c2 := 599836) (k2 := 7274189) (v := some (.int 1)) (h1 := ph_14) rfl rfl (fun _ => rfl) ?_ (Nat.le_of_ble_eq_true rfl) (Nat.le_of_ble_eq_true rfl) ?_
    · refine px_C_of rfl ?_
      refine pr_s (pc1 := 1) (st1 := [.ref 164]) rfl (fun _ => rfl) ?_
      refine pr_s (pc1 := 2) (st1 := [.int 0, .ref 164]) rfl (fun _ => rfl) ?_
      refine pr_s (pc1 := 3) (st1 := [.ref 0, .int 0, .ref 164]) rfl (fun _ => rfl) ?_
      refine pr_s (pc1 := 4) (st1 := [.int a1, .ref 0, .int 0, .ref 164]) rfl (fun _ => rfl) ?_
      refine pr_callx (N := pm_X6_takeBack) (as := [.ref 0, .int a1]) (rest := [.int 0, .ref 164]) (f := 2046) (l := 83954) (c1 := 1) (k1 := 6) (c2 := 0) (k2 := 0) (E := 11) (h1 := ph_14) (a := 12) (y1 := 3) (y2 := 1) rfl (fun ex => px_inv_hs ex rfl rfl rfl pg_0 rfl rfl rfl rfl) ?_ (Nat.le_of_ble_eq_true rfl) (Nat.le_of_ble_eq_true rfl) rfl rfl rfl rfl ?_
      · refine px_C_of rfl ?_
        refine pr_s (pc1 := 1) (st1 := [.ref 0]) rfl (fun _ => rfl) ?_
        refine pr_s (pc1 := 2) (st1 := [.int a1, .ref 0]) rfl (fun _ => rfl) ?_
        refine pr_callo (N := pm_X6_needFact) (as := [.ref 0, .int a1]) (rest := []) (f := 2045) (l := 83932) (E := 11) (h1 := ph_14) rfl (fun ex => px_inv_hs ex rfl rfl rfl pg_0 rfl rfl rfl rfl) ?_ rfl ⟨rfl, rfl⟩
        · refine px_C_of rfl ?_
          refine pr_s (pc1 := 1) (st1 := [.ref 0]) rfl (fun _ => rfl) ?_
          refine pr_getf (pc1 := 4) (v := .ref 92) rfl rfl pg_0 rfl rfl ?_
          refine pr_getf (pc1 := 7) (v := .ref 93) rfl rfl pg_22 rfl rfl ?_
          refine pr_s (pc1 := 8) (st1 := [.int a1, .ref 93]) rfl (fun _ => rfl) ?_
          refine pr_callv (N := pm_X2_placeOf) (as := [.ref 93, .int a1]) (rest := []) (f := 2044) (l := 83910) (c1 := 0) (k1 := 0) (c2 := 1) (k2 := 6) (v := some (.int (-1))) (h1 := px_hs) rfl (fun ex => px_inv_hs ex rfl rfl rfl pg_23 rfl rfl rfl rfl) ?_ (Nat.le_of_ble_eq_true rfl) (Nat.le_of_ble_eq_true rfl) ?_
          · refine px_C_of rfl ?_
            refine pr_s (pc1 := 1) (st1 := [.int a1]) rfl (fun _ => rfl) ?_
            refine pr_bf (t := 12) (off := 11) (bb := decide (a1 < 0)) (st1 := []) rfl rfl rfl rfl (pb_ltF ha1.1 (show (0 : Int32).toInt ≤ 0 by decide) (by decide)) ?_
            refine pr_s (pc1 := 5) (st1 := [.int a1]) rfl (fun _ => rfl) ?_
            refine pr_s (pc1 := 6) (st1 := [.ref 93, .int a1]) rfl (fun _ => rfl) ?_
            refine pr_getf (pc1 := 9) (v := .int 0) rfl rfl pg_23 rfl rfl ?_
            refine pr_bf (t := 14) (off := 5) (bb := decide (a1 < 0)) (st1 := []) rfl rfl rfl rfl (pb_ltF ha1.1 (show (0 : Int32).toInt ≤ 0 by decide) (by decide)) ?_
            refine pr_s (pc1 := 13) (st1 := [.int (-1)]) rfl (fun _ => rfl) ?_
            exact pr_e rfl (fun _ => rfl) ⟨rfl, rfl⟩
          show px_R _ _ _ _ (11, [(0, .ref 0), (1, .int a1)], [.int (-1)], _) _ _ _
          refine pr_s (pc1 := 12) (lv1 := [(2, .int (-1)), (0, .ref 0), (1, .int a1)]) (st1 := []) rfl (fun _ => rfl) ?_
          refine pr_s (pc1 := 13) (st1 := [.int (-1)]) rfl (fun _ => rfl) ?_
          refine pr_bf (t := 27) (off := 14) (bb := decide ((0 : Int32) ≤ ((-1) : Int32))) (st1 := []) rfl rfl rfl rfl (by decide) ?_
          refine pr_mh (z1 := 1) (z2 := 6) (c1 := 0) (k1 := 0) (pc1 := 26) (n := 165) (r := []) (h1 := ph_14) (es := fun n => [.inr (11, [])]) rfl (fun _ => rfl) pl_0 rfl (Nat.le_of_ble_eq_true rfl) (Nat.le_of_ble_eq_true rfl) ?_
          exact pr_e rfl (fun _ => rfl) ⟨rfl, rfl⟩
      show px_R _ _ _ _ (13, [(0, .ref 0), (1, .int a1), (2, .ref 164)], [], _) _ _ _
      refine pr_s (pc1 := 14) (st1 := [.int 1]) rfl (fun _ => rfl) ?_
      exact pr_e rfl (fun _ => rfl) ⟨rfl, rfl⟩
    show px_T _ _ _ _ (971, [(4, .int 0), (3, .ref 164), (2, .ref 136), (1, .ref 0), (0, .retAddr 0)], [.int 1], _) _ _ _
    refine pt_s (pc1 := 973) (lv1 := [(5, .int 1), (4, .int 0), (3, .ref 164), (2, .ref 136), (1, .ref 0), (0, .retAddr 0)]) (st1 := []) rfl rfl (fun _ => rfl) ?_
    refine pt_s (pc1 := 974) (st1 := [.ref 136]) rfl rfl (fun _ => rfl) ?_
    refine pt_s (pc1 := 975) (st1 := [.retAddr 0, .ref 136]) rfl rfl (fun _ => rfl) ?_
    refine pt_s (pc1 := 977) (st1 := [.int 0, .retAddr 0, .ref 136]) rfl rfl (fun _ => rfl) ?_
    refine pt_s (pc1 := 978) (st1 := [.int 1, .int 0, .retAddr 0, .ref 136]) rfl rfl (fun _ => rfl) ?_
    refine pt_s (pc1 := 979) (st1 := [.int 1, .retAddr 0, .ref 136]) rfl rfl (fun _ => rfl) ?_
    refine pt_s (pc1 := 980) (st1 := [.int a1, .ref 136]) rfl rfl (fun _ => rfl) ?_
    refine pt_callv (N := pm_X10_takeBack) (as := [.ref 136, .int a1]) (rest := []) (f := 2047) (l := 83978) (c1 := 0) (k1 := 0) (c2 := 599836) (k2 := 7274189) (v := some (.int 0)) (h1 := ph_15) rfl rfl (fun ex => px_inv_hs ex rfl rfl rfl pg_20 rfl rfl rfl rfl) ?_ (Nat.le_of_ble_eq_true rfl) (Nat.le_of_ble_eq_true rfl) ?_
    · refine px_C_of rfl ?_
      refine pr_s (pc1 := 1) (st1 := [.ref 136]) rfl (fun _ => rfl) ?_
      refine pr_s (pc1 := 2) (st1 := [.int a1, .ref 136]) rfl (fun _ => rfl) ?_
      refine pr_callv (N := pm_X10_isFact) (as := [.ref 136, .int a1]) (rest := []) (f := 2046) (l := 83957) (c1 := 0) (k1 := 0) (c2 := 0) (k2 := 0) (v := some (.int 0)) (h1 := ph_15) rfl (fun ex => px_inv_hs ex rfl rfl rfl pg_20 rfl rfl rfl rfl) ?_ (Nat.le_of_ble_eq_true rfl) (Nat.le_of_ble_eq_true rfl) ?_
      · refine px_C_of rfl ?_
        refine pr_s (pc1 := 1) (st1 := [.ref 136]) rfl (fun _ => rfl) ?_
        refine pr_s (pc1 := 2) (st1 := [.ref 136, .ref 136]) rfl (fun _ => rfl) ?_
        refine pr_getf (pc1 := 5) (v := .ref 138) rfl rfl pg_20 rfl rfl ?_
        refine pr_s (pc1 := 6) (st1 := [.int a1, .ref 138, .ref 136]) rfl (fun _ => rfl) ?_
        refine pr_callv (N := pm_X9_place) (as := [.ref 138, .int a1]) (rest := [.ref 136]) (f := 2045) (l := 83935) (c1 := 0) (k1 := 0) (c2 := 0) (k2 := 0) (v := some (.int (-1))) (h1 := ph_14) rfl (fun ex => px_inv_hs ex rfl rfl rfl pg_506 rfl rfl rfl rfl) ?_ (Nat.le_of_ble_eq_true rfl) (Nat.le_of_ble_eq_true rfl) ?_
        · refine px_C_of rfl ?_
          refine pr_s (pc1 := 1) (st1 := [.ref 138]) rfl (fun _ => rfl) ?_
          refine pr_getf (pc1 := 4) (v := .ref 141) rfl rfl pg_506 rfl rfl ?_
          refine pr_getf (pc1 := 7) (v := .int 0) rfl rfl pg_507 rfl rfl ?_
          refine pr_s (pc1 := 8) (st1 := [.int 1, .int 0]) rfl (fun _ => rfl) ?_
          refine pr_s (pc1 := 9) (st1 := [.int (-1)]) rfl (fun _ => rfl) ?_
          refine pr_s (pc1 := 10) (lv1 := [(2, .int (-1)), (0, .ref 138), (1, .int a1)]) (st1 := []) rfl (fun _ => rfl) ?_
          refine pr_s (pc1 := 11) (st1 := [.int (-1)]) rfl (fun _ => rfl) ?_
          refine pr_bt (t := 33) (off := 22) (bb := decide (((-1) : Int32) < 0)) (st1 := []) rfl rfl rfl rfl (by decide) ?_
          refine pr_s (pc1 := 34) (st1 := [.int (-1)]) rfl (fun _ => rfl) ?_
          exact pr_e rfl (fun _ => rfl) ⟨rfl, rfl⟩
        show px_R _ _ _ _ (9, [(0, .ref 136), (1, .int a1)], [.int (-1), .ref 136], _) _ _ _
        refine pr_s (pc1 := 10) (st1 := [.int (-1), .int (-1), .ref 136]) rfl (fun _ => rfl) ?_
        refine pr_bt (t := 17) (off := 7) (bb := decide (((-1) : Int32) = (-1))) (st1 := [.ref 136]) rfl rfl rfl rfl (by decide) ?_
        refine pr_s (pc1 := 18) (st1 := [.int 1, .ref 136]) rfl (fun _ => rfl) ?_
        refine pr_putf (pc1 := 21) (h1 := ph_15) rfl rfl pg_20 rfl rfl rfl rfl rfl rfl rfl ?_
        refine pr_s (pc1 := 22) (st1 := [.ref 136]) rfl (fun _ => rfl) ?_
        refine pr_getf (pc1 := 25) (v := .int 1) rfl rfl pg_21 rfl rfl ?_
        refine pr_bt (t := 32) (off := 7) (bb := !decide ((1 : Int32) = 0)) (st1 := []) rfl rfl rfl rfl (px_not_t (by decide)) ?_
        refine pr_s (pc1 := 33) (st1 := [.int 0]) rfl (fun _ => rfl) ?_
        exact pr_e rfl (fun _ => rfl) ⟨rfl, rfl⟩
      show px_R _ _ _ _ (5, [(0, .ref 136), (1, .int a1)], [.int 0], _) _ _ _
      refine pr_bf (t := 10) (off := 5) (bb := !decide ((0 : Int32) = 0)) (st1 := []) rfl rfl rfl rfl (px_not_f (by decide)) ?_
      refine pr_s (pc1 := 9) (st1 := [.int 0]) rfl (fun _ => rfl) ?_
      exact pr_e rfl (fun _ => rfl) ⟨rfl, rfl⟩
    show px_T _ _ _ _ (983, [(5, .int 1), (4, .int 0), (3, .ref 164), (2, .ref 136), (1, .ref 0), (0, .retAddr 0)], [.int 0], _) _ _ _
    refine pt_s (pc1 := 985) (lv1 := [(6, .int 0), (5, .int 1), (4, .int 0), (3, .ref 164), (2, .ref 136), (1, .ref 0), (0, .retAddr 0)]) (st1 := []) rfl rfl (fun _ => rfl) ?_
    refine pt_s (pc1 := 986) (st1 := [.ref 136]) rfl rfl (fun _ => rfl) ?_
    refine pt_callv (N := pm_X10_thrown) (as := [.ref 136]) (rest := []) (f := 2047) (l := 83980) (c1 := 0) (k1 := 0) (c2 := 599836) (k2 := 7274189) (v := some (.int 1)) (h1 := ph_15) rfl rfl (fun ex => px_inv_hs ex rfl rfl rfl pg_21 rfl rfl rfl rfl) ?_ (Nat.le_of_ble_eq_true rfl) (Nat.le_of_ble_eq_true rfl) ?_
    · refine px_C_of rfl ?_
      refine pr_s (pc1 := 1) (st1 := [.ref 136]) rfl (fun _ => rfl) ?_
      refine pr_getf (pc1 := 4) (v := .int 1) rfl rfl pg_21 rfl rfl ?_
      exact pr_e rfl (fun _ => rfl) ⟨rfl, rfl⟩
    show px_T _ _ _ _ (989, [(6, .int 0), (5, .int 1), (4, .int 0), (3, .ref 164), (2, .ref 136), (1, .ref 0), (0, .retAddr 0)], [.int 1], _) _ _ _
    refine pt_s (pc1 := 991) (st1 := [.int 1, .int 1]) rfl rfl (fun _ => rfl) ?_
    refine pt_bt (t := 996) (off := 5) (bb := decide ((1 : Int32) = 1)) (st1 := []) rfl rfl rfl rfl rfl (by decide) ?_
    refine pt_s (pc1 := 998) (st1 := [.int 1]) rfl rfl (fun _ => rfl) ?_
    refine pt_bt (t := 1013) (off := 15) (bb := !decide ((1 : Int32) = 0)) (st1 := []) rfl rfl rfl rfl rfl (px_not_t (by decide)) ?_
    refine pt_s (pc1 := 2771) (st1 := []) rfl rfl (fun _ => rfl) ?_
    refine pt_s (pc1 := 2774) (lv1 := [(4, .int 6), (6, .int 0), (5, .int 1), (3, .ref 164), (2, .ref 136), (1, .ref 0), (0, .retAddr 0)]) (st1 := []) rfl rfl (fun _ => rfl) ?_
    refine pt_s (pc1 := 23) (st1 := []) rfl rfl (fun _ => rfl) ?_
    refine pt_s (pc1 := 25) (st1 := [.int 6]) rfl rfl (fun _ => rfl) ?_
    refine pt_s (pc1 := 26) (st1 := [.retAddr 0, .int 6]) rfl rfl (fun _ => rfl) ?_
    refine pt_s (pc1 := 27) (st1 := [.int 6, .int 6]) rfl rfl (fun _ => rfl) ?_
    refine pt_s (pc1 := 29) (st1 := [.int 6, .int 6, .int 6]) rfl rfl (fun _ => rfl) ?_
    refine pt_s (pc1 := 30) (st1 := [.int 0, .int 6]) rfl rfl (fun _ => rfl) ?_
    refine pt_bt (t := 2777) (off := 2747) (bb := decide ((0 : Int32) < (6 : Int32))) (st1 := []) rfl rfl rfl rfl rfl (by decide) ?_
    refine pt_s (pc1 := 2778) (st1 := [.int 1]) rfl rfl (fun _ => rfl) ?_
    exact pt_e rfl ⟨rfl, (rfl : px_ins pm_law 2778 = some (.ireturn, 1))⟩
set_option maxRecDepth 100000 in
set_option maxHeartbeats 40000000 in
theorem px_op_10 (a0 a1 a2 a3 a4 a5 : Int32) : px_T (some [a0, a1, a2, a3, a4, a5]) pm_law 2048 84000 (40, [(4, .int 0), (3, .ref 164), (2, .ref 136), (1, .ref 0), (0, .retAddr 0)], [.int 10], px_hs) 599837 7274195 (fun s1 => s1.2.2.1 = [.int 1] ∧ px_ins pm_law s1.1 = some (.ireturn, 1)) := by
  have ha1 : (-2147483648) ≤ a1.toInt ∧ a1.toInt ≤ 2147483647 := ⟨Int32.le_toInt a1, Int32.toInt_le a1⟩
  by_cases hs : a1.toInt < 0
  · have ha1 : (-2147483648) ≤ a1.toInt ∧ a1.toInt ≤ (-1) := ⟨ha1.1, by omega⟩
    refine pt_s (pc1 := 1016) (st1 := []) rfl rfl (fun _ => rfl) ?_
    refine pt_s (pc1 := 1017) (st1 := [.ref 0]) rfl rfl (fun _ => rfl) ?_
    refine pt_s (pc1 := 1018) (st1 := [.retAddr 0, .ref 0]) rfl rfl (fun _ => rfl) ?_
    refine pt_s (pc1 := 1020) (st1 := [.int 0, .retAddr 0, .ref 0]) rfl rfl (fun _ => rfl) ?_
    refine pt_s (pc1 := 1021) (st1 := [.int 1, .int 0, .retAddr 0, .ref 0]) rfl rfl (fun _ => rfl) ?_
    refine pt_s (pc1 := 1022) (st1 := [.int 1, .retAddr 0, .ref 0]) rfl rfl (fun _ => rfl) ?_
    refine pt_s (pc1 := 1023) (st1 := [.int a1, .ref 0]) rfl rfl (fun _ => rfl) ?_
    refine pt_s (pc1 := 1024) (st1 := [.ref 164, .int a1, .ref 0]) rfl rfl (fun _ => rfl) ?_
    refine pt_callv (N := pm_L_retract) (as := [.ref 0, .int a1, .ref 164]) (rest := []) (f := 2047) (l := 83977) (c1 := 1) (k1 := 6) (c2 := 599836) (k2 := 7274189) (v := some (.int 1)) (h1 := ph_14) rfl rfl (fun _ => rfl) ?_ (Nat.le_of_ble_eq_true rfl) (Nat.le_of_ble_eq_true rfl) ?_
    · refine px_C_of rfl ?_
      refine pr_s (pc1 := 1) (st1 := [.ref 164]) rfl (fun _ => rfl) ?_
      refine pr_s (pc1 := 2) (st1 := [.int 0, .ref 164]) rfl (fun _ => rfl) ?_
      refine pr_s (pc1 := 3) (st1 := [.ref 0, .int 0, .ref 164]) rfl (fun _ => rfl) ?_
      refine pr_s (pc1 := 4) (st1 := [.int a1, .ref 0, .int 0, .ref 164]) rfl (fun _ => rfl) ?_
      refine pr_callx (N := pm_X6_retract) (as := [.ref 0, .int a1]) (rest := [.int 0, .ref 164]) (f := 2046) (l := 83956) (c1 := 1) (k1 := 6) (c2 := 0) (k2 := 0) (E := 11) (h1 := ph_14) (a := 12) (y1 := 3) (y2 := 1) rfl (fun ex => px_inv_hs ex rfl rfl rfl pg_0 rfl rfl rfl rfl) ?_ (Nat.le_of_ble_eq_true rfl) (Nat.le_of_ble_eq_true rfl) rfl rfl rfl rfl ?_
      · refine px_C_of rfl ?_
        refine pr_s (pc1 := 1) (st1 := [.ref 0]) rfl (fun _ => rfl) ?_
        refine pr_getf (pc1 := 4) (v := .ref 92) rfl rfl pg_0 rfl rfl ?_
        refine pr_s (pc1 := 5) (st1 := [.ref 0, .ref 92]) rfl (fun _ => rfl) ?_
        refine pr_s (pc1 := 6) (st1 := [.int a1, .ref 0, .ref 92]) rfl (fun _ => rfl) ?_
        refine pr_callo (N := pm_X6_needFact) (as := [.ref 0, .int a1]) (rest := [.ref 92]) (f := 2045) (l := 83934) (E := 11) (h1 := ph_14) rfl (fun ex => px_inv_hs ex rfl rfl rfl pg_0 rfl rfl rfl rfl) ?_ rfl ⟨rfl, rfl⟩
        · refine px_C_of rfl ?_
          refine pr_s (pc1 := 1) (st1 := [.ref 0]) rfl (fun _ => rfl) ?_
          refine pr_getf (pc1 := 4) (v := .ref 92) rfl rfl pg_0 rfl rfl ?_
          refine pr_getf (pc1 := 7) (v := .ref 93) rfl rfl pg_22 rfl rfl ?_
          refine pr_s (pc1 := 8) (st1 := [.int a1, .ref 93]) rfl (fun _ => rfl) ?_
          refine pr_callv (N := pm_X2_placeOf) (as := [.ref 93, .int a1]) (rest := []) (f := 2044) (l := 83912) (c1 := 0) (k1 := 0) (c2 := 1) (k2 := 6) (v := some (.int (-1))) (h1 := px_hs) rfl (fun ex => px_inv_hs ex rfl rfl rfl pg_23 rfl rfl rfl rfl) ?_ (Nat.le_of_ble_eq_true rfl) (Nat.le_of_ble_eq_true rfl) ?_
          · refine px_C_of rfl ?_
            refine pr_s (pc1 := 1) (st1 := [.int a1]) rfl (fun _ => rfl) ?_
            refine pr_bt (t := 12) (off := 11) (bb := decide (a1 < 0)) (st1 := []) rfl rfl rfl rfl (pb_ltT ha1.2 (show 0 ≤ (0 : Int32).toInt by decide) (by decide)) ?_
            refine pr_s (pc1 := 13) (st1 := [.int (-1)]) rfl (fun _ => rfl) ?_
            exact pr_e rfl (fun _ => rfl) ⟨rfl, rfl⟩
          show px_R _ _ _ _ (11, [(0, .ref 0), (1, .int a1)], [.int (-1)], _) _ _ _
          refine pr_s (pc1 := 12) (lv1 := [(2, .int (-1)), (0, .ref 0), (1, .int a1)]) (st1 := []) rfl (fun _ => rfl) ?_
          refine pr_s (pc1 := 13) (st1 := [.int (-1)]) rfl (fun _ => rfl) ?_
          refine pr_bf (t := 27) (off := 14) (bb := decide ((0 : Int32) ≤ ((-1) : Int32))) (st1 := []) rfl rfl rfl rfl (by decide) ?_
          refine pr_mh (z1 := 1) (z2 := 6) (c1 := 0) (k1 := 0) (pc1 := 26) (n := 165) (r := []) (h1 := ph_14) (es := fun n => [.inr (11, [])]) rfl (fun _ => rfl) pl_0 rfl (Nat.le_of_ble_eq_true rfl) (Nat.le_of_ble_eq_true rfl) ?_
          exact pr_e rfl (fun _ => rfl) ⟨rfl, rfl⟩
      show px_R _ _ _ _ (13, [(0, .ref 0), (1, .int a1), (2, .ref 164)], [], _) _ _ _
      refine pr_s (pc1 := 14) (st1 := [.int 1]) rfl (fun _ => rfl) ?_
      exact pr_e rfl (fun _ => rfl) ⟨rfl, rfl⟩
    show px_T _ _ _ _ (1027, [(4, .int 0), (3, .ref 164), (2, .ref 136), (1, .ref 0), (0, .retAddr 0)], [.int 1], _) _ _ _
    refine pt_s (pc1 := 1029) (lv1 := [(5, .int 1), (4, .int 0), (3, .ref 164), (2, .ref 136), (1, .ref 0), (0, .retAddr 0)]) (st1 := []) rfl rfl (fun _ => rfl) ?_
    refine pt_s (pc1 := 1030) (st1 := [.ref 136]) rfl rfl (fun _ => rfl) ?_
    refine pt_s (pc1 := 1031) (st1 := [.retAddr 0, .ref 136]) rfl rfl (fun _ => rfl) ?_
    refine pt_s (pc1 := 1033) (st1 := [.int 0, .retAddr 0, .ref 136]) rfl rfl (fun _ => rfl) ?_
    refine pt_s (pc1 := 1034) (st1 := [.int 1, .int 0, .retAddr 0, .ref 136]) rfl rfl (fun _ => rfl) ?_
    refine pt_s (pc1 := 1035) (st1 := [.int 1, .retAddr 0, .ref 136]) rfl rfl (fun _ => rfl) ?_
    refine pt_s (pc1 := 1036) (st1 := [.int a1, .ref 136]) rfl rfl (fun _ => rfl) ?_
    refine pt_callv (N := pm_X10_retract) (as := [.ref 136, .int a1]) (rest := []) (f := 2047) (l := 83979) (c1 := 0) (k1 := 0) (c2 := 599836) (k2 := 7274189) (v := some (.int 0)) (h1 := ph_15) rfl rfl (fun ex => px_inv_hs ex rfl rfl rfl pg_20 rfl rfl rfl rfl) ?_ (Nat.le_of_ble_eq_true rfl) (Nat.le_of_ble_eq_true rfl) ?_
    · refine px_C_of rfl ?_
      refine pr_s (pc1 := 1) (st1 := [.ref 136]) rfl (fun _ => rfl) ?_
      refine pr_s (pc1 := 2) (st1 := [.int a1, .ref 136]) rfl (fun _ => rfl) ?_
      refine pr_callv (N := pm_X10_isFact) (as := [.ref 136, .int a1]) (rest := []) (f := 2046) (l := 83958) (c1 := 0) (k1 := 0) (c2 := 0) (k2 := 0) (v := some (.int 0)) (h1 := ph_15) rfl (fun ex => px_inv_hs ex rfl rfl rfl pg_20 rfl rfl rfl rfl) ?_ (Nat.le_of_ble_eq_true rfl) (Nat.le_of_ble_eq_true rfl) ?_
      · refine px_C_of rfl ?_
        refine pr_s (pc1 := 1) (st1 := [.ref 136]) rfl (fun _ => rfl) ?_
        refine pr_s (pc1 := 2) (st1 := [.ref 136, .ref 136]) rfl (fun _ => rfl) ?_
        refine pr_getf (pc1 := 5) (v := .ref 138) rfl rfl pg_20 rfl rfl ?_
        refine pr_s (pc1 := 6) (st1 := [.int a1, .ref 138, .ref 136]) rfl (fun _ => rfl) ?_
        refine pr_callv (N := pm_X9_place) (as := [.ref 138, .int a1]) (rest := [.ref 136]) (f := 2045) (l := 83936) (c1 := 0) (k1 := 0) (c2 := 0) (k2 := 0) (v := some (.int (-1))) (h1 := ph_14) rfl (fun ex => px_inv_hs ex rfl rfl rfl pg_506 rfl rfl rfl rfl) ?_ (Nat.le_of_ble_eq_true rfl) (Nat.le_of_ble_eq_true rfl) ?_
        · refine px_C_of rfl ?_
          refine pr_s (pc1 := 1) (st1 := [.ref 138]) rfl (fun _ => rfl) ?_
          refine pr_getf (pc1 := 4) (v := .ref 141) rfl rfl pg_506 rfl rfl ?_
          refine pr_getf (pc1 := 7) (v := .int 0) rfl rfl pg_507 rfl rfl ?_
          refine pr_s (pc1 := 8) (st1 := [.int 1, .int 0]) rfl (fun _ => rfl) ?_
          refine pr_s (pc1 := 9) (st1 := [.int (-1)]) rfl (fun _ => rfl) ?_
          refine pr_s (pc1 := 10) (lv1 := [(2, .int (-1)), (0, .ref 138), (1, .int a1)]) (st1 := []) rfl (fun _ => rfl) ?_
          refine pr_s (pc1 := 11) (st1 := [.int (-1)]) rfl (fun _ => rfl) ?_
          refine pr_bt (t := 33) (off := 22) (bb := decide (((-1) : Int32) < 0)) (st1 := []) rfl rfl rfl rfl (by decide) ?_
          refine pr_s (pc1 := 34) (st1 := [.int (-1)]) rfl (fun _ => rfl) ?_
          exact pr_e rfl (fun _ => rfl) ⟨rfl, rfl⟩
        show px_R _ _ _ _ (9, [(0, .ref 136), (1, .int a1)], [.int (-1), .ref 136], _) _ _ _
        refine pr_s (pc1 := 10) (st1 := [.int (-1), .int (-1), .ref 136]) rfl (fun _ => rfl) ?_
        refine pr_bt (t := 17) (off := 7) (bb := decide (((-1) : Int32) = (-1))) (st1 := [.ref 136]) rfl rfl rfl rfl (by decide) ?_
        refine pr_s (pc1 := 18) (st1 := [.int 1, .ref 136]) rfl (fun _ => rfl) ?_
        refine pr_putf (pc1 := 21) (h1 := ph_15) rfl rfl pg_20 rfl rfl rfl rfl rfl rfl rfl ?_
        refine pr_s (pc1 := 22) (st1 := [.ref 136]) rfl (fun _ => rfl) ?_
        refine pr_getf (pc1 := 25) (v := .int 1) rfl rfl pg_21 rfl rfl ?_
        refine pr_bt (t := 32) (off := 7) (bb := !decide ((1 : Int32) = 0)) (st1 := []) rfl rfl rfl rfl (px_not_t (by decide)) ?_
        refine pr_s (pc1 := 33) (st1 := [.int 0]) rfl (fun _ => rfl) ?_
        exact pr_e rfl (fun _ => rfl) ⟨rfl, rfl⟩
      show px_R _ _ _ _ (5, [(0, .ref 136), (1, .int a1)], [.int 0], _) _ _ _
      refine pr_bt (t := 19) (off := 14) (bb := decide ((0 : Int32) = 0)) (st1 := []) rfl rfl rfl rfl (by decide) ?_
      refine pr_s (pc1 := 20) (st1 := [.int 0]) rfl (fun _ => rfl) ?_
      exact pr_e rfl (fun _ => rfl) ⟨rfl, rfl⟩
    show px_T _ _ _ _ (1039, [(5, .int 1), (4, .int 0), (3, .ref 164), (2, .ref 136), (1, .ref 0), (0, .retAddr 0)], [.int 0], _) _ _ _
    refine pt_s (pc1 := 1041) (lv1 := [(6, .int 0), (5, .int 1), (4, .int 0), (3, .ref 164), (2, .ref 136), (1, .ref 0), (0, .retAddr 0)]) (st1 := []) rfl rfl (fun _ => rfl) ?_
    refine pt_s (pc1 := 1042) (st1 := [.ref 136]) rfl rfl (fun _ => rfl) ?_
    refine pt_callv (N := pm_X10_thrown) (as := [.ref 136]) (rest := []) (f := 2047) (l := 83980) (c1 := 0) (k1 := 0) (c2 := 599836) (k2 := 7274189) (v := some (.int 1)) (h1 := ph_15) rfl rfl (fun ex => px_inv_hs ex rfl rfl rfl pg_21 rfl rfl rfl rfl) ?_ (Nat.le_of_ble_eq_true rfl) (Nat.le_of_ble_eq_true rfl) ?_
    · refine px_C_of rfl ?_
      refine pr_s (pc1 := 1) (st1 := [.ref 136]) rfl (fun _ => rfl) ?_
      refine pr_getf (pc1 := 4) (v := .int 1) rfl rfl pg_21 rfl rfl ?_
      exact pr_e rfl (fun _ => rfl) ⟨rfl, rfl⟩
    show px_T _ _ _ _ (1045, [(6, .int 0), (5, .int 1), (4, .int 0), (3, .ref 164), (2, .ref 136), (1, .ref 0), (0, .retAddr 0)], [.int 1], _) _ _ _
    refine pt_s (pc1 := 1047) (st1 := [.int 1, .int 1]) rfl rfl (fun _ => rfl) ?_
    refine pt_bt (t := 1052) (off := 5) (bb := decide ((1 : Int32) = 1)) (st1 := []) rfl rfl rfl rfl rfl (by decide) ?_
    refine pt_s (pc1 := 1054) (st1 := [.int 1]) rfl rfl (fun _ => rfl) ?_
    refine pt_bt (t := 1069) (off := 15) (bb := !decide ((1 : Int32) = 0)) (st1 := []) rfl rfl rfl rfl rfl (px_not_t (by decide)) ?_
    refine pt_s (pc1 := 2771) (st1 := []) rfl rfl (fun _ => rfl) ?_
    refine pt_s (pc1 := 2774) (lv1 := [(4, .int 6), (6, .int 0), (5, .int 1), (3, .ref 164), (2, .ref 136), (1, .ref 0), (0, .retAddr 0)]) (st1 := []) rfl rfl (fun _ => rfl) ?_
    refine pt_s (pc1 := 23) (st1 := []) rfl rfl (fun _ => rfl) ?_
    refine pt_s (pc1 := 25) (st1 := [.int 6]) rfl rfl (fun _ => rfl) ?_
    refine pt_s (pc1 := 26) (st1 := [.retAddr 0, .int 6]) rfl rfl (fun _ => rfl) ?_
    refine pt_s (pc1 := 27) (st1 := [.int 6, .int 6]) rfl rfl (fun _ => rfl) ?_
    refine pt_s (pc1 := 29) (st1 := [.int 6, .int 6, .int 6]) rfl rfl (fun _ => rfl) ?_
    refine pt_s (pc1 := 30) (st1 := [.int 0, .int 6]) rfl rfl (fun _ => rfl) ?_
    refine pt_bt (t := 2777) (off := 2747) (bb := decide ((0 : Int32) < (6 : Int32))) (st1 := []) rfl rfl rfl rfl rfl (by decide) ?_
    refine pt_s (pc1 := 2778) (st1 := [.int 1]) rfl rfl (fun _ => rfl) ?_
    exact pt_e rfl ⟨rfl, (rfl : px_ins pm_law 2778 = some (.ireturn, 1))⟩
  · have ha1 : 0 ≤ a1.toInt ∧ a1.toInt ≤ 2147483647 := ⟨by omega, ha1.2⟩
    refine pt_s (pc1 := 1016) (st1 := []) rfl rfl (fun _ => rfl) ?_
    refine pt_s (pc1 := 1017) (st1 := [.ref 0]) rfl rfl (fun _ => rfl) ?_
    refine pt_s (pc1 := 1018) (st1 := [.retAddr 0, .ref 0]) rfl rfl (fun _ => rfl) ?_
    refine pt_s (pc1 := 1020) (st1 := [.int 0, .retAddr 0, .ref 0]) rfl rfl (fun _ => rfl) ?_
    refine pt_s (pc1 := 1021) (st1 := [.int 1, .int 0, .retAddr 0, .ref 0]) rfl rfl (fun _ => rfl) ?_
    refine pt_s (pc1 := 1022) (st1 := [.int 1, .retAddr 0, .ref 0]) rfl rfl (fun _ => rfl) ?_
    refine pt_s (pc1 := 1023) (st1 := [.int a1, .ref 0]) rfl rfl (fun _ => rfl) ?_
    refine pt_s (pc1 := 1024) (st1 := [.ref 164, .int a1, .ref 0]) rfl rfl (fun _ => rfl) ?_
    refine pt_callv (N := pm_L_retract) (as := [.ref 0, .int a1, .ref 164]) (rest := []) (f := 2047) (l := 83977) (c1 := 1) (k1 := 6) (c2 := 599836) (k2 := 7274189) (v := some (.int 1)) (h1 := ph_14) rfl rfl (fun _ => rfl) ?_ (Nat.le_of_ble_eq_true rfl) (Nat.le_of_ble_eq_true rfl) ?_
    · refine px_C_of rfl ?_
      refine pr_s (pc1 := 1) (st1 := [.ref 164]) rfl (fun _ => rfl) ?_
      refine pr_s (pc1 := 2) (st1 := [.int 0, .ref 164]) rfl (fun _ => rfl) ?_
      refine pr_s (pc1 := 3) (st1 := [.ref 0, .int 0, .ref 164]) rfl (fun _ => rfl) ?_
      refine pr_s (pc1 := 4) (st1 := [.int a1, .ref 0, .int 0, .ref 164]) rfl (fun _ => rfl) ?_
      refine pr_callx (N := pm_X6_retract) (as := [.ref 0, .int a1]) (rest := [.int 0, .ref 164]) (f := 2046) (l := 83956) (c1 := 1) (k1 := 6) (c2 := 0) (k2 := 0) (E := 11) (h1 := ph_14) (a := 12) (y1 := 3) (y2 := 1) rfl (fun ex => px_inv_hs ex rfl rfl rfl pg_0 rfl rfl rfl rfl) ?_ (Nat.le_of_ble_eq_true rfl) (Nat.le_of_ble_eq_true rfl) rfl rfl rfl rfl ?_
      · refine px_C_of rfl ?_
        refine pr_s (pc1 := 1) (st1 := [.ref 0]) rfl (fun _ => rfl) ?_
        refine pr_getf (pc1 := 4) (v := .ref 92) rfl rfl pg_0 rfl rfl ?_
        refine pr_s (pc1 := 5) (st1 := [.ref 0, .ref 92]) rfl (fun _ => rfl) ?_
        refine pr_s (pc1 := 6) (st1 := [.int a1, .ref 0, .ref 92]) rfl (fun _ => rfl) ?_
        refine pr_callo (N := pm_X6_needFact) (as := [.ref 0, .int a1]) (rest := [.ref 92]) (f := 2045) (l := 83934) (E := 11) (h1 := ph_14) rfl (fun ex => px_inv_hs ex rfl rfl rfl pg_0 rfl rfl rfl rfl) ?_ rfl ⟨rfl, rfl⟩
        · refine px_C_of rfl ?_
          refine pr_s (pc1 := 1) (st1 := [.ref 0]) rfl (fun _ => rfl) ?_
          refine pr_getf (pc1 := 4) (v := .ref 92) rfl rfl pg_0 rfl rfl ?_
          refine pr_getf (pc1 := 7) (v := .ref 93) rfl rfl pg_22 rfl rfl ?_
          refine pr_s (pc1 := 8) (st1 := [.int a1, .ref 93]) rfl (fun _ => rfl) ?_
          refine pr_callv (N := pm_X2_placeOf) (as := [.ref 93, .int a1]) (rest := []) (f := 2044) (l := 83912) (c1 := 0) (k1 := 0) (c2 := 1) (k2 := 6) (v := some (.int (-1))) (h1 := px_hs) rfl (fun ex => px_inv_hs ex rfl rfl rfl pg_23 rfl rfl rfl rfl) ?_ (Nat.le_of_ble_eq_true rfl) (Nat.le_of_ble_eq_true rfl) ?_
          · refine px_C_of rfl ?_
            refine pr_s (pc1 := 1) (st1 := [.int a1]) rfl (fun _ => rfl) ?_
            refine pr_bf (t := 12) (off := 11) (bb := decide (a1 < 0)) (st1 := []) rfl rfl rfl rfl (pb_ltF ha1.1 (show (0 : Int32).toInt ≤ 0 by decide) (by decide)) ?_
            refine pr_s (pc1 := 5) (st1 := [.int a1]) rfl (fun _ => rfl) ?_
            refine pr_s (pc1 := 6) (st1 := [.ref 93, .int a1]) rfl (fun _ => rfl) ?_
            refine pr_getf (pc1 := 9) (v := .int 0) rfl rfl pg_23 rfl rfl ?_
            refine pr_bf (t := 14) (off := 5) (bb := decide (a1 < 0)) (st1 := []) rfl rfl rfl rfl (pb_ltF ha1.1 (show (0 : Int32).toInt ≤ 0 by decide) (by decide)) ?_
            refine pr_s (pc1 := 13) (st1 := [.int (-1)]) rfl (fun _ => rfl) ?_
            exact pr_e rfl (fun _ => rfl) ⟨rfl, rfl⟩
          show px_R _ _ _ _ (11, [(0, .ref 0), (1, .int a1)], [.int (-1)], _) _ _ _
          refine pr_s (pc1 := 12) (lv1 := [(2, .int (-1)), (0, .ref 0), (1, .int a1)]) (st1 := []) rfl (fun _ => rfl) ?_
          refine pr_s (pc1 := 13) (st1 := [.int (-1)]) rfl (fun _ => rfl) ?_
          refine pr_bf (t := 27) (off := 14) (bb := decide ((0 : Int32) ≤ ((-1) : Int32))) (st1 := []) rfl rfl rfl rfl (by decide) ?_
          refine pr_mh (z1 := 1) (z2 := 6) (c1 := 0) (k1 := 0) (pc1 := 26) (n := 165) (r := []) (h1 := ph_14) (es := fun n => [.inr (11, [])]) rfl (fun _ => rfl) pl_0 rfl (Nat.le_of_ble_eq_true rfl) (Nat.le_of_ble_eq_true rfl) ?_
          exact pr_e rfl (fun _ => rfl) ⟨rfl, rfl⟩
      show px_R _ _ _ _ (13, [(0, .ref 0), (1, .int a1), (2, .ref 164)], [], _) _ _ _
      refine pr_s (pc1 := 14) (st1 := [.int 1]) rfl (fun _ => rfl) ?_
      exact pr_e rfl (fun _ => rfl) ⟨rfl, rfl⟩
    show px_T _ _ _ _ (1027, [(4, .int 0), (3, .ref 164), (2, .ref 136), (1, .ref 0), (0, .retAddr 0)], [.int 1], _) _ _ _
    refine pt_s (pc1 := 1029) (lv1 := [(5, .int 1), (4, .int 0), (3, .ref 164), (2, .ref 136), (1, .ref 0), (0, .retAddr 0)]) (st1 := []) rfl rfl (fun _ => rfl) ?_
    refine pt_s (pc1 := 1030) (st1 := [.ref 136]) rfl rfl (fun _ => rfl) ?_
    refine pt_s (pc1 := 1031) (st1 := [.retAddr 0, .ref 136]) rfl rfl (fun _ => rfl) ?_
    refine pt_s (pc1 := 1033) (st1 := [.int 0, .retAddr 0, .ref 136]) rfl rfl (fun _ => rfl) ?_
    refine pt_s (pc1 := 1034) (st1 := [.int 1, .int 0, .retAddr 0, .ref 136]) rfl rfl (fun _ => rfl) ?_
    refine pt_s (pc1 := 1035) (st1 := [.int 1, .retAddr 0, .ref 136]) rfl rfl (fun _ => rfl) ?_
    refine pt_s (pc1 := 1036) (st1 := [.int a1, .ref 136]) rfl rfl (fun _ => rfl) ?_
    refine pt_callv (N := pm_X10_retract) (as := [.ref 136, .int a1]) (rest := []) (f := 2047) (l := 83979) (c1 := 0) (k1 := 0) (c2 := 599836) (k2 := 7274189) (v := some (.int 0)) (h1 := ph_15) rfl rfl (fun ex => px_inv_hs ex rfl rfl rfl pg_20 rfl rfl rfl rfl) ?_ (Nat.le_of_ble_eq_true rfl) (Nat.le_of_ble_eq_true rfl) ?_
    · refine px_C_of rfl ?_
      refine pr_s (pc1 := 1) (st1 := [.ref 136]) rfl (fun _ => rfl) ?_
      refine pr_s (pc1 := 2) (st1 := [.int a1, .ref 136]) rfl (fun _ => rfl) ?_
      refine pr_callv (N := pm_X10_isFact) (as := [.ref 136, .int a1]) (rest := []) (f := 2046) (l := 83958) (c1 := 0) (k1 := 0) (c2 := 0) (k2 := 0) (v := some (.int 0)) (h1 := ph_15) rfl (fun ex => px_inv_hs ex rfl rfl rfl pg_20 rfl rfl rfl rfl) ?_ (Nat.le_of_ble_eq_true rfl) (Nat.le_of_ble_eq_true rfl) ?_
      · refine px_C_of rfl ?_
        refine pr_s (pc1 := 1) (st1 := [.ref 136]) rfl (fun _ => rfl) ?_
        refine pr_s (pc1 := 2) (st1 := [.ref 136, .ref 136]) rfl (fun _ => rfl) ?_
        refine pr_getf (pc1 := 5) (v := .ref 138) rfl rfl pg_20 rfl rfl ?_
        refine pr_s (pc1 := 6) (st1 := [.int a1, .ref 138, .ref 136]) rfl (fun _ => rfl) ?_
        refine pr_callv (N := pm_X9_place) (as := [.ref 138, .int a1]) (rest := [.ref 136]) (f := 2045) (l := 83936) (c1 := 0) (k1 := 0) (c2 := 0) (k2 := 0) (v := some (.int (-1))) (h1 := ph_14) rfl (fun ex => px_inv_hs ex rfl rfl rfl pg_506 rfl rfl rfl rfl) ?_ (Nat.le_of_ble_eq_true rfl) (Nat.le_of_ble_eq_true rfl) ?_
        · refine px_C_of rfl ?_
          refine pr_s (pc1 := 1) (st1 := [.ref 138]) rfl (fun _ => rfl) ?_
          refine pr_getf (pc1 := 4) (v := .ref 141) rfl rfl pg_506 rfl rfl ?_
          refine pr_getf (pc1 := 7) (v := .int 0) rfl rfl pg_507 rfl rfl ?_
          refine pr_s (pc1 := 8) (st1 := [.int 1, .int 0]) rfl (fun _ => rfl) ?_
          refine pr_s (pc1 := 9) (st1 := [.int (-1)]) rfl (fun _ => rfl) ?_
          refine pr_s (pc1 := 10) (lv1 := [(2, .int (-1)), (0, .ref 138), (1, .int a1)]) (st1 := []) rfl (fun _ => rfl) ?_
          refine pr_s (pc1 := 11) (st1 := [.int (-1)]) rfl (fun _ => rfl) ?_
          refine pr_bt (t := 33) (off := 22) (bb := decide (((-1) : Int32) < 0)) (st1 := []) rfl rfl rfl rfl (by decide) ?_
          refine pr_s (pc1 := 34) (st1 := [.int (-1)]) rfl (fun _ => rfl) ?_
          exact pr_e rfl (fun _ => rfl) ⟨rfl, rfl⟩
        show px_R _ _ _ _ (9, [(0, .ref 136), (1, .int a1)], [.int (-1), .ref 136], _) _ _ _
        refine pr_s (pc1 := 10) (st1 := [.int (-1), .int (-1), .ref 136]) rfl (fun _ => rfl) ?_
        refine pr_bt (t := 17) (off := 7) (bb := decide (((-1) : Int32) = (-1))) (st1 := [.ref 136]) rfl rfl rfl rfl (by decide) ?_
        refine pr_s (pc1 := 18) (st1 := [.int 1, .ref 136]) rfl (fun _ => rfl) ?_
        refine pr_putf (pc1 := 21) (h1 := ph_15) rfl rfl pg_20 rfl rfl rfl rfl rfl rfl rfl ?_
        refine pr_s (pc1 := 22) (st1 := [.ref 136]) rfl (fun _ => rfl) ?_
        refine pr_getf (pc1 := 25) (v := .int 1) rfl rfl pg_21 rfl rfl ?_
        refine pr_bt (t := 32) (off := 7) (bb := !decide ((1 : Int32) = 0)) (st1 := []) rfl rfl rfl rfl (px_not_t (by decide)) ?_
        refine pr_s (pc1 := 33) (st1 := [.int 0]) rfl (fun _ => rfl) ?_
        exact pr_e rfl (fun _ => rfl) ⟨rfl, rfl⟩
      show px_R _ _ _ _ (5, [(0, .ref 136), (1, .int a1)], [.int 0], _) _ _ _
      refine pr_bt (t := 19) (off := 14) (bb := decide ((0 : Int32) = 0)) (st1 := []) rfl rfl rfl rfl (by decide) ?_
      refine pr_s (pc1 := 20) (st1 := [.int 0]) rfl (fun _ => rfl) ?_
      exact pr_e rfl (fun _ => rfl) ⟨rfl, rfl⟩
    show px_T _ _ _ _ (1039, [(5, .int 1), (4, .int 0), (3, .ref 164), (2, .ref 136), (1, .ref 0), (0, .retAddr 0)], [.int 0], _) _ _ _
    refine pt_s (pc1 := 1041) (lv1 := [(6, .int 0), (5, .int 1), (4, .int 0), (3, .ref 164), (2, .ref 136), (1, .ref 0), (0, .retAddr 0)]) (st1 := []) rfl rfl (fun _ => rfl) ?_
    refine pt_s (pc1 := 1042) (st1 := [.ref 136]) rfl rfl (fun _ => rfl) ?_
    refine pt_callv (N := pm_X10_thrown) (as := [.ref 136]) (rest := []) (f := 2047) (l := 83980) (c1 := 0) (k1 := 0) (c2 := 599836) (k2 := 7274189) (v := some (.int 1)) (h1 := ph_15) rfl rfl (fun ex => px_inv_hs ex rfl rfl rfl pg_21 rfl rfl rfl rfl) ?_ (Nat.le_of_ble_eq_true rfl) (Nat.le_of_ble_eq_true rfl) ?_
    · refine px_C_of rfl ?_
      refine pr_s (pc1 := 1) (st1 := [.ref 136]) rfl (fun _ => rfl) ?_
      refine pr_getf (pc1 := 4) (v := .int 1) rfl rfl pg_21 rfl rfl ?_
      exact pr_e rfl (fun _ => rfl) ⟨rfl, rfl⟩
    show px_T _ _ _ _ (1045, [(6, .int 0), (5, .int 1), (4, .int 0), (3, .ref 164), (2, .ref 136), (1, .ref 0), (0, .retAddr 0)], [.int 1], _) _ _ _
    refine pt_s (pc1 := 1047) (st1 := [.int 1, .int 1]) rfl rfl (fun _ => rfl) ?_
    refine pt_bt (t := 1052) (off := 5) (bb := decide ((1 : Int32) = 1)) (st1 := []) rfl rfl rfl rfl rfl (by decide) ?_
    refine pt_s (pc1 := 1054) (st1 := [.int 1]) rfl rfl (fun _ => rfl) ?_
    refine pt_bt (t := 1069) (off := 15) (bb := !decide ((1 : Int32) = 0)) (st1 := []) rfl rfl rfl rfl rfl (px_not_t (by decide)) ?_
    refine pt_s (pc1 := 2771) (st1 := []) rfl rfl (fun _ => rfl) ?_
    refine pt_s (pc1 := 2774) (lv1 := [(4, .int 6), (6, .int 0), (5, .int 1), (3, .ref 164), (2, .ref 136), (1, .ref 0), (0, .retAddr 0)]) (st1 := []) rfl rfl (fun _ => rfl) ?_
    refine pt_s (pc1 := 23) (st1 := []) rfl rfl (fun _ => rfl) ?_
    refine pt_s (pc1 := 25) (st1 := [.int 6]) rfl rfl (fun _ => rfl) ?_
    refine pt_s (pc1 := 26) (st1 := [.retAddr 0, .int 6]) rfl rfl (fun _ => rfl) ?_
    refine pt_s (pc1 := 27) (st1 := [.int 6, .int 6]) rfl rfl (fun _ => rfl) ?_
    refine pt_s (pc1 := 29) (st1 := [.int 6, .int 6, .int 6]) rfl rfl (fun _ => rfl) ?_
    refine pt_s (pc1 := 30) (st1 := [.int 0, .int 6]) rfl rfl (fun _ => rfl) ?_
    refine pt_bt (t := 2777) (off := 2747) (bb := decide ((0 : Int32) < (6 : Int32))) (st1 := []) rfl rfl rfl rfl rfl (by decide) ?_
    refine pt_s (pc1 := 2778) (st1 := [.int 1]) rfl rfl (fun _ => rfl) ?_
    exact pt_e rfl ⟨rfl, (rfl : px_ins pm_law 2778 = some (.ireturn, 1))⟩
