/-! THE LAW'S CALLS, ONE BY ONE, ON A NEW OBJECT (wip/gen/p1gen.py) -/
set_option maxRecDepth 100000 in
set_option maxHeartbeats 40000000 in
theorem px_op_11 (a0 a1 a2 a3 a4 a5 : Int32) : px_T (some [a0, a1, a2, a3, a4, a5]) pm_law 2048 84000 (40, [(4, .int 0), (3, .ref 164), (2, .ref 136), (1, .ref 0), (0, .retAddr 0)], [.int 11], px_hs) 599837 7274195 (fun s1 => s1.2.2.1 = [.int 1] ∧ px_ins pm_law s1.1 = some (.ireturn, 1)) := by
  have ha1 : (-2147483648) ≤ a1.toInt ∧ a1.toInt ≤ 2147483647 := ⟨Int32.le_toInt a1, Int32.toInt_le a1⟩
  by_cases hs : a1.toInt < 1
  · have ha1 : (-2147483648) ≤ a1.toInt ∧ a1.toInt ≤ 0 := ⟨ha1.1, by omega⟩
    refine pt_s (pc1 := 1072) (st1 := []) rfl rfl (fun _ => rfl) ?_
    refine pt_s (pc1 := 1073) (st1 := [.ref 0]) rfl rfl (fun _ => rfl) ?_
    refine pt_s (pc1 := 1074) (st1 := [.retAddr 0, .ref 0]) rfl rfl (fun _ => rfl) ?_
    refine pt_s (pc1 := 1076) (st1 := [.int 0, .retAddr 0, .ref 0]) rfl rfl (fun _ => rfl) ?_
    refine pt_s (pc1 := 1077) (st1 := [.int 1, .int 0, .retAddr 0, .ref 0]) rfl rfl (fun _ => rfl) ?_
    refine pt_s (pc1 := 1078) (st1 := [.int 1, .retAddr 0, .ref 0]) rfl rfl (fun _ => rfl) ?_
    refine pt_s (pc1 := 1079) (st1 := [.int a1, .ref 0]) rfl rfl (fun _ => rfl) ?_
    refine pt_s (pc1 := 1080) (st1 := [.ref 164, .int a1, .ref 0]) rfl rfl (fun _ => rfl) ?_
    refine pt_callv (N := pm_L_fire) (as := [.ref 0, .int a1, .ref 164]) (rest := []) (f := 2047) (l := 83977) (c1 := 1) (k1 := 6) (c2 := 599836) (k2 := 7274189) (v := some (.int 1)) (h1 := ph_1) rfl rfl (fun _ => rfl) ?_ (Nat.le_of_ble_eq_true rfl) (Nat.le_of_ble_eq_true rfl) ?_
    · refine px_C_of rfl ?_
      refine pr_s (pc1 := 1) (st1 := [.ref 164]) rfl (fun _ => rfl) ?_
      refine pr_s (pc1 := 2) (st1 := [.int 0, .ref 164]) rfl (fun _ => rfl) ?_
      refine pr_s (pc1 := 3) (st1 := [.ref 0, .int 0, .ref 164]) rfl (fun _ => rfl) ?_
      refine pr_s (pc1 := 4) (st1 := [.int a1, .ref 0, .int 0, .ref 164]) rfl (fun _ => rfl) ?_
      refine pr_callx (N := pm_X6_fire) (as := [.ref 0, .int a1]) (rest := [.int 0, .ref 164]) (f := 2046) (l := 83956) (c1 := 1) (k1 := 6) (c2 := 0) (k2 := 0) (E := 12) (h1 := ph_1) (a := 12) (y1 := 3) (y2 := 1) rfl (fun ex => px_inv_hs ex rfl rfl rfl pg_0 rfl rfl rfl rfl) ?_ (Nat.le_of_ble_eq_true rfl) (Nat.le_of_ble_eq_true rfl) rfl rfl rfl rfl ?_
      · refine px_C_of rfl ?_
        refine pr_s (pc1 := 1) (st1 := [.int a1]) rfl (fun _ => rfl) ?_
        refine pr_callo (N := pm_X6_needMost) (as := [.int a1]) (rest := []) (f := 2045) (l := 83936) (E := 12) (h1 := ph_1) rfl (fun _ => rfl) ?_ rfl ⟨rfl, rfl⟩
        · refine px_C_of rfl ?_
          refine pr_s (pc1 := 1) (st1 := [.int a1]) rfl (fun _ => rfl) ?_
          refine pr_s (pc1 := 2) (st1 := [.int 1, .int a1]) rfl (fun _ => rfl) ?_
          refine pr_bt (t := 11) (off := 9) (bb := decide (a1 < 1)) (st1 := []) rfl rfl rfl rfl (pb_ltT ha1.2 (show 1 ≤ (1 : Int32).toInt by decide) (by decide)) ?_
          refine pr_mh (z1 := 1) (z2 := 6) (c1 := 0) (k1 := 0) (pc1 := 21) (n := 165) (r := []) (h1 := ph_1) (es := fun n => [.inr (12, [])]) rfl (fun _ => rfl) pl_0 rfl (Nat.le_of_ble_eq_true rfl) (Nat.le_of_ble_eq_true rfl) ?_
          exact pr_e rfl (fun _ => rfl) ⟨rfl, rfl⟩
      show px_R _ _ _ _ (13, [(0, .ref 0), (1, .int a1), (2, .ref 164)], [], _) _ _ _
      refine pr_s (pc1 := 14) (st1 := [.int 1]) rfl (fun _ => rfl) ?_
      exact pr_e rfl (fun _ => rfl) ⟨rfl, rfl⟩
    show px_T _ _ _ _ (1083, [(4, .int 0), (3, .ref 164), (2, .ref 136), (1, .ref 0), (0, .retAddr 0)], [.int 1], _) _ _ _
    refine pt_s (pc1 := 1085) (lv1 := [(5, .int 1), (4, .int 0), (3, .ref 164), (2, .ref 136), (1, .ref 0), (0, .retAddr 0)]) (st1 := []) rfl rfl (fun _ => rfl) ?_
    refine pt_s (pc1 := 1086) (st1 := [.ref 136]) rfl rfl (fun _ => rfl) ?_
    refine pt_s (pc1 := 1087) (st1 := [.retAddr 0, .ref 136]) rfl rfl (fun _ => rfl) ?_
    refine pt_s (pc1 := 1089) (st1 := [.int 0, .retAddr 0, .ref 136]) rfl rfl (fun _ => rfl) ?_
    refine pt_s (pc1 := 1090) (st1 := [.int 1, .int 0, .retAddr 0, .ref 136]) rfl rfl (fun _ => rfl) ?_
    refine pt_s (pc1 := 1091) (st1 := [.int 1, .retAddr 0, .ref 136]) rfl rfl (fun _ => rfl) ?_
    refine pt_s (pc1 := 1092) (st1 := [.int a1, .ref 136]) rfl rfl (fun _ => rfl) ?_
    refine pt_callv (N := pm_X10_fire) (as := [.ref 136, .int a1]) (rest := []) (f := 2047) (l := 83979) (c1 := 0) (k1 := 0) (c2 := 599836) (k2 := 7274189) (v := some (.int 0)) (h1 := ph_2) rfl rfl (fun ex => px_inv_hs ex rfl rfl rfl pg_2 rfl rfl rfl rfl) ?_ (Nat.le_of_ble_eq_true rfl) (Nat.le_of_ble_eq_true rfl) ?_
    · refine px_C_of rfl ?_
      refine pr_s (pc1 := 1) (st1 := [.ref 136]) rfl (fun _ => rfl) ?_
      refine pr_s (pc1 := 2) (st1 := [.int 0, .ref 136]) rfl (fun _ => rfl) ?_
      refine pr_putf (pc1 := 5) (h1 := ph_1) rfl rfl pg_2 rfl rfl rfl rfl rfl (px_set_same pg_2 rfl) rfl ?_
      refine pr_s (pc1 := 6) (st1 := [.int a1]) rfl (fun _ => rfl) ?_
      refine pr_s (pc1 := 7) (st1 := [.int 1, .int a1]) rfl (fun _ => rfl) ?_
      refine pr_s (pc1 := 9) (st1 := [.int 20, .int 1, .int a1]) rfl (fun _ => rfl) ?_
      refine pr_callv (N := pm_X10_is) (as := [.int a1, .int 1, .int 20]) (rest := []) (f := 2046) (l := 83957) (c1 := 0) (k1 := 0) (c2 := 0) (k2 := 0) (v := some (.int 0)) (h1 := ph_1) rfl (fun _ => rfl) ?_ (Nat.le_of_ble_eq_true rfl) (Nat.le_of_ble_eq_true rfl) ?_
      · refine px_C_of rfl ?_
        refine pr_s (pc1 := 1) (st1 := [.int a1]) rfl (fun _ => rfl) ?_
        refine pr_s (pc1 := 2) (st1 := [.int 1, .int a1]) rfl (fun _ => rfl) ?_
        refine pr_bt (t := 14) (off := 12) (bb := decide (a1 < 1)) (st1 := []) rfl rfl rfl rfl (pb_ltT ha1.2 (show 1 ≤ (1 : Int32).toInt by decide) (by decide)) ?_
        refine pr_s (pc1 := 15) (st1 := [.int 0]) rfl (fun _ => rfl) ?_
        exact pr_e rfl (fun _ => rfl) ⟨rfl, rfl⟩
      show px_R _ _ _ _ (12, [(0, .ref 136), (1, .int a1)], [.int 0], _) _ _ _
      refine pr_bt (t := 26) (off := 14) (bb := decide ((0 : Int32) = 0)) (st1 := []) rfl rfl rfl rfl (by decide) ?_
      refine pr_s (pc1 := 27) (st1 := [.ref 136]) rfl (fun _ => rfl) ?_
      refine pr_s (pc1 := 28) (st1 := [.int 1, .ref 136]) rfl (fun _ => rfl) ?_
      refine pr_callv (N := pm_X10_refuse) (as := [.ref 136, .int 1]) (rest := []) (f := 2046) (l := 83958) (c1 := 0) (k1 := 0) (c2 := 0) (k2 := 0) (v := some (.int 0)) (h1 := ph_2) rfl (fun ex => px_inv_hs ex rfl rfl rfl pg_2 rfl rfl rfl rfl) ?_ (Nat.le_of_ble_eq_true rfl) (Nat.le_of_ble_eq_true rfl) ?_
      · refine px_C_of rfl ?_
        refine pr_s (pc1 := 1) (st1 := [.ref 136]) rfl (fun _ => rfl) ?_
        refine pr_s (pc1 := 2) (st1 := [.int 1, .ref 136]) rfl (fun _ => rfl) ?_
        refine pr_putf (pc1 := 5) (h1 := ph_2) rfl rfl pg_2 rfl rfl rfl rfl rfl rfl rfl ?_
        refine pr_s (pc1 := 6) (st1 := [.int 0]) rfl (fun _ => rfl) ?_
        exact pr_e rfl (fun _ => rfl) ⟨rfl, rfl⟩
      show px_R _ _ _ _ (31, [(0, .ref 136), (1, .int a1)], [.int 0], _) _ _ _
      exact pr_e rfl (fun _ => rfl) ⟨rfl, rfl⟩
    show px_T _ _ _ _ (1095, [(5, .int 1), (4, .int 0), (3, .ref 164), (2, .ref 136), (1, .ref 0), (0, .retAddr 0)], [.int 0], _) _ _ _
    refine pt_s (pc1 := 1097) (lv1 := [(6, .int 0), (5, .int 1), (4, .int 0), (3, .ref 164), (2, .ref 136), (1, .ref 0), (0, .retAddr 0)]) (st1 := []) rfl rfl (fun _ => rfl) ?_
    refine pt_s (pc1 := 1098) (st1 := [.ref 136]) rfl rfl (fun _ => rfl) ?_
    refine pt_callv (N := pm_X10_thrown) (as := [.ref 136]) (rest := []) (f := 2047) (l := 83980) (c1 := 0) (k1 := 0) (c2 := 599836) (k2 := 7274189) (v := some (.int 1)) (h1 := ph_2) rfl rfl (fun ex => px_inv_hs ex rfl rfl rfl pg_3 rfl rfl rfl rfl) ?_ (Nat.le_of_ble_eq_true rfl) (Nat.le_of_ble_eq_true rfl) ?_
    · refine px_C_of rfl ?_
      refine pr_s (pc1 := 1) (st1 := [.ref 136]) rfl (fun _ => rfl) ?_
      refine pr_getf (pc1 := 4) (v := .int 1) rfl rfl pg_3 rfl rfl ?_
      exact pr_e rfl (fun _ => rfl) ⟨rfl, rfl⟩
    show px_T _ _ _ _ (1101, [(6, .int 0), (5, .int 1), (4, .int 0), (3, .ref 164), (2, .ref 136), (1, .ref 0), (0, .retAddr 0)], [.int 1], _) _ _ _
    refine pt_s (pc1 := 1103) (st1 := [.int 1, .int 1]) rfl rfl (fun _ => rfl) ?_
    refine pt_bt (t := 1108) (off := 5) (bb := decide ((1 : Int32) = 1)) (st1 := []) rfl rfl rfl rfl rfl (by decide) ?_
    refine pt_s (pc1 := 1110) (st1 := [.int 1]) rfl rfl (fun _ => rfl) ?_
    refine pt_bt (t := 1125) (off := 15) (bb := !decide ((1 : Int32) = 0)) (st1 := []) rfl rfl rfl rfl rfl (px_not_t (by decide)) ?_
    refine pt_s (pc1 := 2771) (st1 := []) rfl rfl (fun _ => rfl) ?_
    refine pt_s (pc1 := 2774) (lv1 := [(4, .int 6), (6, .int 0), (5, .int 1), (3, .ref 164), (2, .ref 136), (1, .ref 0), (0, .retAddr 0)]) (st1 := []) rfl rfl (fun _ => rfl) ?_
    refine pt_s (pc1 := 23) (st1 := []) rfl rfl (fun _ => rfl) ?_
    refine pt_s (pc1 := 25) (st1 := [.int 6]) rfl rfl (fun _ => rfl) ?_
    refine pt_s (pc1 := 26) (st1 := [.retAddr 0, .int 6]) rfl rfl (fun _ => rfl) ?_
    refine pt_s (pc1 := 27) (st1 := [.int 6, .int 6]) rfl rfl (fun _ => rfl) ?_
    refine pt_s (pc1 := 29) (st1 := [.int 6, .int 6, .int 6]) rfl rfl (fun _ => rfl) ?_
    refine pt_s (pc1 := 30) (st1 := [.int 0, .int 6]) rfl rfl (fun _ => rfl) ?_
    refine pt_bt (t := 2777) (off := 2747) (bb := decide ((0 : Int32) < (6 : Int32))) (st1 := []) rfl rfl rfl rfl rfl (by decide) ?_
    refine pt_s (pc1 := 2778) (st1 := [.int 1]) rfl rfl (fun _ => rfl) ?_
    exact pt_e rfl ⟨rfl, (rfl : px_ins pm_law 2778 = some (.ireturn, 1))⟩
  · have ha1 : 1 ≤ a1.toInt ∧ a1.toInt ≤ 2147483647 := ⟨by omega, ha1.2⟩
    by_cases hs : a1.toInt < 21
    · have ha1 : 1 ≤ a1.toInt ∧ a1.toInt ≤ 20 := ⟨ha1.1, by omega⟩
      refine pt_s (pc1 := 1072) (st1 := []) rfl rfl (fun _ => rfl) ?_
      refine pt_s (pc1 := 1073) (st1 := [.ref 0]) rfl rfl (fun _ => rfl) ?_
      refine pt_s (pc1 := 1074) (st1 := [.retAddr 0, .ref 0]) rfl rfl (fun _ => rfl) ?_
      refine pt_s (pc1 := 1076) (st1 := [.int 0, .retAddr 0, .ref 0]) rfl rfl (fun _ => rfl) ?_
      refine pt_s (pc1 := 1077) (st1 := [.int 1, .int 0, .retAddr 0, .ref 0]) rfl rfl (fun _ => rfl) ?_
      refine pt_s (pc1 := 1078) (st1 := [.int 1, .retAddr 0, .ref 0]) rfl rfl (fun _ => rfl) ?_
      refine pt_s (pc1 := 1079) (st1 := [.int a1, .ref 0]) rfl rfl (fun _ => rfl) ?_
      refine pt_s (pc1 := 1080) (st1 := [.ref 164, .int a1, .ref 0]) rfl rfl (fun _ => rfl) ?_
      refine pt_callv (N := pm_L_fire) (as := [.ref 0, .int a1, .ref 164]) (rest := []) (f := 2047) (l := 83977) (c1 := 0) (k1 := 0) (c2 := 599837) (k2 := 7274195) (v := some (.int 0)) (h1 := ph_192) rfl rfl (fun _ => rfl) ?_ (Nat.le_of_ble_eq_true rfl) (Nat.le_of_ble_eq_true rfl) ?_
      · refine px_C_of rfl ?_
        refine pr_s (pc1 := 1) (st1 := [.ref 164]) rfl (fun _ => rfl) ?_
        refine pr_s (pc1 := 2) (st1 := [.int 0, .ref 164]) rfl (fun _ => rfl) ?_
        refine pr_s (pc1 := 3) (st1 := [.ref 0, .int 0, .ref 164]) rfl (fun _ => rfl) ?_
        refine pr_s (pc1 := 4) (st1 := [.int a1, .ref 0, .int 0, .ref 164]) rfl (fun _ => rfl) ?_
        refine pr_callv (N := pm_X6_fire) (as := [.ref 0, .int a1]) (rest := [.int 0, .ref 164]) (f := 2046) (l := 83956) (c1 := 0) (k1 := 0) (c2 := 0) (k2 := 0) (v := some (.int 0)) (h1 := px_hs) rfl (fun ex => px_inv_hs ex rfl rfl rfl pg_0 rfl rfl rfl rfl) ?_ (Nat.le_of_ble_eq_true rfl) (Nat.le_of_ble_eq_true rfl) ?_
        · refine px_C_of rfl ?_
          refine pr_s (pc1 := 1) (st1 := [.int a1]) rfl (fun _ => rfl) ?_
          refine pr_callv (N := pm_X6_needMost) (as := [.int a1]) (rest := []) (f := 2045) (l := 83936) (c1 := 0) (k1 := 0) (c2 := 0) (k2 := 0) (v := none) (h1 := px_hs) rfl (fun _ => rfl) ?_ (Nat.le_of_ble_eq_true rfl) (Nat.le_of_ble_eq_true rfl) ?_
          · refine px_C_of rfl ?_
            refine pr_s (pc1 := 1) (st1 := [.int a1]) rfl (fun _ => rfl) ?_
            refine pr_s (pc1 := 2) (st1 := [.int 1, .int a1]) rfl (fun _ => rfl) ?_
            refine pr_bf (t := 11) (off := 9) (bb := decide (a1 < 1)) (st1 := []) rfl rfl rfl rfl (pb_ltF ha1.1 (show (1 : Int32).toInt ≤ 1 by decide) (by decide)) ?_
            refine pr_s (pc1 := 6) (st1 := [.int a1]) rfl (fun _ => rfl) ?_
            refine pr_s (pc1 := 8) (st1 := [.int 20, .int a1]) rfl (fun _ => rfl) ?_
            refine pr_bt (t := 22) (off := 14) (bb := decide (a1 ≤ 20)) (st1 := []) rfl rfl rfl rfl (pb_leT ha1.2 (show 20 ≤ (20 : Int32).toInt by decide) (by decide)) ?_
            exact pr_e rfl (fun _ => rfl) ⟨rfl, rfl⟩
          show px_R _ _ _ _ (4, [(0, .ref 0), (1, .int a1)], [], _) _ _ _
          refine pr_s (pc1 := 5) (st1 := [.ref 0]) rfl (fun _ => rfl) ?_
          refine pr_getf (pc1 := 8) (v := .ref 92) rfl rfl pg_0 rfl rfl ?_
          refine pr_s (pc1 := 9) (st1 := [.int a1, .ref 92]) rfl (fun _ => rfl) ?_
          refine pr_callv (N := pm_X5_fireUpTo) (as := [.ref 92, .int a1]) (rest := []) (f := 2045) (l := 83929) (c1 := 0) (k1 := 0) (c2 := 0) (k2 := 0) (v := some (.int 0)) (h1 := px_hs) rfl (fun ex => px_inv_hs ex rfl rfl rfl pg_22 rfl rfl rfl rfl) ?_ (Nat.le_of_ble_eq_true rfl) (Nat.le_of_ble_eq_true rfl) ?_
          · refine px_C_of rfl ?_
            refine pr_s (pc1 := 1) (st1 := [.int 0]) rfl (fun _ => rfl) ?_
            refine pr_s (pc1 := 2) (lv1 := [(2, .int 0), (0, .ref 92), (1, .int a1)]) (st1 := []) rfl (fun _ => rfl) ?_
            refine pr_s (pc1 := 3) (st1 := [.int 0]) rfl (fun _ => rfl) ?_
            refine pr_s (pc1 := 4) (st1 := [.int a1, .int 0]) rfl (fun _ => rfl) ?_
            refine pr_bf (t := 153) (off := 149) (bb := decide ((a1 : Int32) ≤ (0 : Int32))) (st1 := []) rfl rfl rfl rfl (pb_leF ha1.1 (show (0 : Int32).toInt ≤ 0 by decide) (by decide)) ?_
            refine pr_s (pc1 := 8) (st1 := [.ref 92]) rfl (fun _ => rfl) ?_
            refine pr_callv (N := pm_X5_firstWaiting) (as := [.ref 92]) (rest := []) (f := 2044) (l := 83905) (c1 := 0) (k1 := 0) (c2 := 0) (k2 := 0) (v := some (.int (-1))) (h1 := px_hs) rfl (fun ex => px_inv_hs ex rfl rfl rfl pg_22 rfl rfl rfl rfl) ?_ (Nat.le_of_ble_eq_true rfl) (Nat.le_of_ble_eq_true rfl) ?_
            · exact px_C_none pc_0 (Nat.le_of_ble_eq_true rfl) (Nat.le_of_ble_eq_true rfl) (Nat.le_of_ble_eq_true rfl) (Nat.le_of_ble_eq_true rfl)
            show px_R _ _ _ _ (11, [(2, .int 0), (0, .ref 92), (1, .int a1)], [.int (-1)], _) _ _ _
            refine pr_s (pc1 := 12) (lv1 := [(3, .int (-1)), (2, .int 0), (0, .ref 92), (1, .int a1)]) (st1 := []) rfl (fun _ => rfl) ?_
            refine pr_s (pc1 := 13) (st1 := [.int (-1)]) rfl (fun _ => rfl) ?_
            refine pr_bt (t := 23) (off := 10) (bb := decide (((-1) : Int32) < 0)) (st1 := []) rfl rfl rfl rfl (by decide) ?_
            refine pr_s (pc1 := 24) (st1 := [.int 0]) rfl (fun _ => rfl) ?_
            exact pr_e rfl (fun _ => rfl) ⟨rfl, rfl⟩
          show px_R _ _ _ _ (12, [(0, .ref 0), (1, .int a1)], [.int 0], _) _ _ _
          exact pr_e rfl (fun _ => rfl) ⟨rfl, rfl⟩
        show px_R _ _ _ _ (7, [(0, .ref 0), (1, .int a1), (2, .ref 164)], [.int 0, .int 0, .ref 164], _) _ _ _
        refine pr_s (pc1 := 8) (st1 := [.long 0, .int 0, .ref 164]) rfl (fun _ => rfl) ?_
        refine pr_last (pc1 := 9) (h1 := ph_192) rfl pg_8 rfl rfl rfl ?_
        refine pr_s (pc1 := 15) (st1 := []) rfl (fun _ => rfl) ?_
        refine pr_s (pc1 := 16) (st1 := [.int 0]) rfl (fun _ => rfl) ?_
        exact pr_e rfl (fun _ => rfl) ⟨rfl, rfl⟩
      show px_T _ _ _ _ (1083, [(4, .int 0), (3, .ref 164), (2, .ref 136), (1, .ref 0), (0, .retAddr 0)], [.int 0], _) _ _ _
      refine pt_s (pc1 := 1085) (lv1 := [(5, .int 0), (4, .int 0), (3, .ref 164), (2, .ref 136), (1, .ref 0), (0, .retAddr 0)]) (st1 := []) rfl rfl (fun _ => rfl) ?_
      refine pt_s (pc1 := 1086) (st1 := [.ref 136]) rfl rfl (fun _ => rfl) ?_
      refine pt_s (pc1 := 1087) (st1 := [.retAddr 0, .ref 136]) rfl rfl (fun _ => rfl) ?_
      refine pt_s (pc1 := 1089) (st1 := [.int 0, .retAddr 0, .ref 136]) rfl rfl (fun _ => rfl) ?_
      refine pt_s (pc1 := 1090) (st1 := [.int 1, .int 0, .retAddr 0, .ref 136]) rfl rfl (fun _ => rfl) ?_
      refine pt_s (pc1 := 1091) (st1 := [.int 1, .retAddr 0, .ref 136]) rfl rfl (fun _ => rfl) ?_
      refine pt_s (pc1 := 1092) (st1 := [.int a1, .ref 136]) rfl rfl (fun _ => rfl) ?_
      refine pt_callv (N := pm_X10_fire) (as := [.ref 136, .int a1]) (rest := []) (f := 2047) (l := 83979) (c1 := 0) (k1 := 0) (c2 := 599837) (k2 := 7274195) (v := some (.int 0)) (h1 := ph_192) rfl rfl (fun ex => px_inv_hs ex rfl rfl rfl pg_508 rfl rfl rfl rfl) ?_ (Nat.le_of_ble_eq_true rfl) (Nat.le_of_ble_eq_true rfl) ?_
      · refine px_C_of rfl ?_
        refine pr_s (pc1 := 1) (st1 := [.ref 136]) rfl (fun _ => rfl) ?_
        refine pr_s (pc1 := 2) (st1 := [.int 0, .ref 136]) rfl (fun _ => rfl) ?_
        refine pr_putf (pc1 := 5) (h1 := ph_192) rfl rfl pg_508 rfl rfl rfl rfl rfl (px_set_same pg_508 rfl) rfl ?_
        refine pr_s (pc1 := 6) (st1 := [.int a1]) rfl (fun _ => rfl) ?_
        refine pr_s (pc1 := 7) (st1 := [.int 1, .int a1]) rfl (fun _ => rfl) ?_
        refine pr_s (pc1 := 9) (st1 := [.int 20, .int 1, .int a1]) rfl (fun _ => rfl) ?_
        refine pr_callv (N := pm_X10_is) (as := [.int a1, .int 1, .int 20]) (rest := []) (f := 2046) (l := 83957) (c1 := 0) (k1 := 0) (c2 := 0) (k2 := 0) (v := some (.int 1)) (h1 := ph_192) rfl (fun _ => rfl) ?_ (Nat.le_of_ble_eq_true rfl) (Nat.le_of_ble_eq_true rfl) ?_
        · refine px_C_of rfl ?_
          refine pr_s (pc1 := 1) (st1 := [.int a1]) rfl (fun _ => rfl) ?_
          refine pr_s (pc1 := 2) (st1 := [.int 1, .int a1]) rfl (fun _ => rfl) ?_
          refine pr_bf (t := 14) (off := 12) (bb := decide (a1 < 1)) (st1 := []) rfl rfl rfl rfl (pb_ltF ha1.1 (show (1 : Int32).toInt ≤ 1 by decide) (by decide)) ?_
          refine pr_s (pc1 := 6) (st1 := [.int a1]) rfl (fun _ => rfl) ?_
          refine pr_s (pc1 := 7) (st1 := [.int 20, .int a1]) rfl (fun _ => rfl) ?_
          refine pr_bf (t := 14) (off := 7) (bb := decide ((20 : Int32) < a1)) (st1 := []) rfl rfl rfl rfl (pb_ltF (show 20 ≤ (20 : Int32).toInt by decide) ha1.2 (by decide)) ?_
          refine pr_s (pc1 := 11) (st1 := [.int 1]) rfl (fun _ => rfl) ?_
          refine pr_s (pc1 := 15) (st1 := [.int 1]) rfl (fun _ => rfl) ?_
          exact pr_e rfl (fun _ => rfl) ⟨rfl, rfl⟩
        show px_R _ _ _ _ (12, [(0, .ref 136), (1, .int a1)], [.int 1], _) _ _ _
        refine pr_bf (t := 26) (off := 14) (bb := decide ((1 : Int32) = 0)) (st1 := []) rfl rfl rfl rfl (by decide) ?_
        refine pr_s (pc1 := 16) (st1 := [.ref 136]) rfl (fun _ => rfl) ?_
        refine pr_getf (pc1 := 19) (v := .ref 138) rfl rfl pg_508 rfl rfl ?_
        refine pr_s (pc1 := 20) (st1 := [.int a1, .ref 138]) rfl (fun _ => rfl) ?_
        refine pr_callv (N := pm_X9_fire) (as := [.ref 138, .int a1]) (rest := []) (f := 2046) (l := 83956) (c1 := 0) (k1 := 0) (c2 := 0) (k2 := 0) (v := some (.int 0)) (h1 := ph_192) rfl (fun ex => px_inv_hs ex rfl rfl rfl pg_509 rfl rfl rfl rfl) ?_ (Nat.le_of_ble_eq_true rfl) (Nat.le_of_ble_eq_true rfl) ?_
        · refine px_C_of rfl ?_
          refine pr_s (pc1 := 1) (st1 := [.int 0]) rfl (fun _ => rfl) ?_
          refine pr_s (pc1 := 2) (lv1 := [(2, .int 0), (0, .ref 138), (1, .int a1)]) (st1 := []) rfl (fun _ => rfl) ?_
          refine pr_s (pc1 := 3) (st1 := [.ref 138]) rfl (fun _ => rfl) ?_
          refine pr_callv (N := pm_X9_first) (as := [.ref 138]) (rest := []) (f := 2045) (l := 83934) (c1 := 0) (k1 := 0) (c2 := 0) (k2 := 0) (v := some (.int (-1))) (h1 := ph_192) rfl (fun ex => px_inv_hs ex rfl rfl rfl pg_509 rfl rfl rfl rfl) ?_ (Nat.le_of_ble_eq_true rfl) (Nat.le_of_ble_eq_true rfl) ?_
          · refine px_C_of rfl ?_
            refine pr_s (pc1 := 1) (st1 := [.int (-1)]) rfl (fun _ => rfl) ?_
            refine pr_s (pc1 := 2) (lv1 := [(1, .int (-1)), (0, .ref 138)]) (st1 := []) rfl (fun _ => rfl) ?_
            refine pr_s (pc1 := 3) (st1 := [.int 0]) rfl (fun _ => rfl) ?_
            refine pr_s (pc1 := 4) (lv1 := [(2, .int 0), (1, .int (-1)), (0, .ref 138)]) (st1 := []) rfl (fun _ => rfl) ?_
            refine pr_s (pc1 := 5) (st1 := [.int 0]) rfl (fun _ => rfl) ?_
            refine pr_s (pc1 := 6) (st1 := [.ref 138, .int 0]) rfl (fun _ => rfl) ?_
            refine pr_getf (pc1 := 9) (v := .ref 143) rfl rfl pg_509 rfl rfl ?_
            refine pr_getf (pc1 := 12) (v := .int 0) rfl rfl pg_510 rfl rfl ?_
            refine pr_bt (t := 49) (off := 37) (bb := decide ((0 : Int32) ≤ (0 : Int32))) (st1 := []) rfl rfl rfl rfl (by decide) ?_
            refine pr_s (pc1 := 50) (st1 := [.int (-1)]) rfl (fun _ => rfl) ?_
            exact pr_e rfl (fun _ => rfl) ⟨rfl, rfl⟩
          show px_R _ _ _ _ (6, [(2, .int 0), (0, .ref 138), (1, .int a1)], [.int (-1)], _) _ _ _
          refine pr_s (pc1 := 7) (lv1 := [(3, .int (-1)), (2, .int 0), (0, .ref 138), (1, .int a1)]) (st1 := []) rfl (fun _ => rfl) ?_
          refine pr_s (pc1 := 8) (st1 := [.int 0]) rfl (fun _ => rfl) ?_
          refine pr_s (pc1 := 9) (st1 := [.int a1, .int 0]) rfl (fun _ => rfl) ?_
          refine pr_bf (t := 33) (off := 24) (bb := decide ((a1 : Int32) ≤ (0 : Int32))) (st1 := []) rfl rfl rfl rfl (pb_leF ha1.1 (show (0 : Int32).toInt ≤ 0 by decide) (by decide)) ?_
          refine pr_s (pc1 := 13) (st1 := [.int (-1)]) rfl (fun _ => rfl) ?_
          refine pr_s (pc1 := 14) (st1 := [.int (-1), .int (-1)]) rfl (fun _ => rfl) ?_
          refine pr_bt (t := 33) (off := 19) (bb := decide (((-1) : Int32) = (-1))) (st1 := []) rfl rfl rfl rfl (by decide) ?_
          refine pr_s (pc1 := 34) (st1 := [.int 0]) rfl (fun _ => rfl) ?_
          exact pr_e rfl (fun _ => rfl) ⟨rfl, rfl⟩
        show px_R _ _ _ _ (23, [(0, .ref 136), (1, .int a1)], [.int 0], _) _ _ _
        refine pr_s (pc1 := 31) (st1 := [.int 0]) rfl (fun _ => rfl) ?_
        exact pr_e rfl (fun _ => rfl) ⟨rfl, rfl⟩
      show px_T _ _ _ _ (1095, [(5, .int 0), (4, .int 0), (3, .ref 164), (2, .ref 136), (1, .ref 0), (0, .retAddr 0)], [.int 0], _) _ _ _
      refine pt_s (pc1 := 1097) (lv1 := [(6, .int 0), (5, .int 0), (4, .int 0), (3, .ref 164), (2, .ref 136), (1, .ref 0), (0, .retAddr 0)]) (st1 := []) rfl rfl (fun _ => rfl) ?_
      refine pt_s (pc1 := 1098) (st1 := [.ref 136]) rfl rfl (fun _ => rfl) ?_
      refine pt_callv (N := pm_X10_thrown) (as := [.ref 136]) (rest := []) (f := 2047) (l := 83980) (c1 := 0) (k1 := 0) (c2 := 599837) (k2 := 7274195) (v := some (.int 0)) (h1 := ph_192) rfl rfl (fun ex => px_inv_hs ex rfl rfl rfl pg_508 rfl rfl rfl rfl) ?_ (Nat.le_of_ble_eq_true rfl) (Nat.le_of_ble_eq_true rfl) ?_
      · refine px_C_of rfl ?_
        refine pr_s (pc1 := 1) (st1 := [.ref 136]) rfl (fun _ => rfl) ?_
        refine pr_getf (pc1 := 4) (v := .int 0) rfl rfl pg_508 rfl rfl ?_
        exact pr_e rfl (fun _ => rfl) ⟨rfl, rfl⟩
      show px_T _ _ _ _ (1101, [(6, .int 0), (5, .int 0), (4, .int 0), (3, .ref 164), (2, .ref 136), (1, .ref 0), (0, .retAddr 0)], [.int 0], _) _ _ _
      refine pt_s (pc1 := 1103) (st1 := [.int 0, .int 0]) rfl rfl (fun _ => rfl) ?_
      refine pt_bt (t := 1108) (off := 5) (bb := decide ((0 : Int32) = 0)) (st1 := []) rfl rfl rfl rfl rfl (by decide) ?_
      refine pt_s (pc1 := 1110) (st1 := [.int 0]) rfl rfl (fun _ => rfl) ?_
      refine pt_bf (t := 1125) (off := 15) (bb := !decide ((0 : Int32) = 0)) (st1 := []) rfl rfl rfl rfl rfl (px_not_f (by decide)) ?_
      refine pt_s (pc1 := 1114) (st1 := [.ref 164]) rfl rfl (fun _ => rfl) ?_
      refine pt_s (pc1 := 1115) (st1 := [.int 0, .ref 164]) rfl rfl (fun _ => rfl) ?_
      refine pt_lald (pc1 := 1116) (x := 0) rfl pg_511 rfl rfl rfl ?_
      refine pt_s (pc1 := 1118) (st1 := [.int 0, .long 0]) rfl rfl (fun _ => rfl) ?_
      refine pt_s (pc1 := 1119) (st1 := [.long 0, .long 0]) rfl rfl (fun _ => rfl) ?_
      refine pt_s (pc1 := 1120) (st1 := [.int 0]) rfl rfl (fun _ => rfl) ?_
      refine pt_bt (t := 1125) (off := 5) (bb := decide ((0 : Int32) = 0)) (st1 := []) rfl rfl rfl rfl rfl (by decide) ?_
      refine pt_s (pc1 := 2771) (st1 := []) rfl rfl (fun _ => rfl) ?_
      refine pt_s (pc1 := 2774) (lv1 := [(4, .int 6), (6, .int 0), (5, .int 0), (3, .ref 164), (2, .ref 136), (1, .ref 0), (0, .retAddr 0)]) (st1 := []) rfl rfl (fun _ => rfl) ?_
      refine pt_s (pc1 := 23) (st1 := []) rfl rfl (fun _ => rfl) ?_
      refine pt_s (pc1 := 25) (st1 := [.int 6]) rfl rfl (fun _ => rfl) ?_
      refine pt_s (pc1 := 26) (st1 := [.retAddr 0, .int 6]) rfl rfl (fun _ => rfl) ?_
      refine pt_s (pc1 := 27) (st1 := [.int 6, .int 6]) rfl rfl (fun _ => rfl) ?_
      refine pt_s (pc1 := 29) (st1 := [.int 6, .int 6, .int 6]) rfl rfl (fun _ => rfl) ?_
      refine pt_s (pc1 := 30) (st1 := [.int 0, .int 6]) rfl rfl (fun _ => rfl) ?_
      refine pt_bt (t := 2777) (off := 2747) (bb := decide ((0 : Int32) < (6 : Int32))) (st1 := []) rfl rfl rfl rfl rfl (by decide) ?_
      refine pt_s (pc1 := 2778) (st1 := [.int 1]) rfl rfl (fun _ => rfl) ?_
      exact pt_e rfl ⟨rfl, (rfl : px_ins pm_law 2778 = some (.ireturn, 1))⟩
    · have ha1 : 21 ≤ a1.toInt ∧ a1.toInt ≤ 2147483647 := ⟨by omega, ha1.2⟩
      refine pt_s (pc1 := 1072) (st1 := []) rfl rfl (fun _ => rfl) ?_
      refine pt_s (pc1 := 1073) (st1 := [.ref 0]) rfl rfl (fun _ => rfl) ?_
      refine pt_s (pc1 := 1074) (st1 := [.retAddr 0, .ref 0]) rfl rfl (fun _ => rfl) ?_
      refine pt_s (pc1 := 1076) (st1 := [.int 0, .retAddr 0, .ref 0]) rfl rfl (fun _ => rfl) ?_
      refine pt_s (pc1 := 1077) (st1 := [.int 1, .int 0, .retAddr 0, .ref 0]) rfl rfl (fun _ => rfl) ?_
      refine pt_s (pc1 := 1078) (st1 := [.int 1, .retAddr 0, .ref 0]) rfl rfl (fun _ => rfl) ?_
      refine pt_s (pc1 := 1079) (st1 := [.int a1, .ref 0]) rfl rfl (fun _ => rfl) ?_
      refine pt_s (pc1 := 1080) (st1 := [.ref 164, .int a1, .ref 0]) rfl rfl (fun _ => rfl) ?_
      refine pt_callv (N := pm_L_fire) (as := [.ref 0, .int a1, .ref 164]) (rest := []) (f := 2047) (l := 83977) (c1 := 1) (k1 := 6) (c2 := 599836) (k2 := 7274189) (v := some (.int 1)) (h1 := ph_1) rfl rfl (fun _ => rfl) ?_ (Nat.le_of_ble_eq_true rfl) (Nat.le_of_ble_eq_true rfl) ?_
      · refine px_C_of rfl ?_
        refine pr_s (pc1 := 1) (st1 := [.ref 164]) rfl (fun _ => rfl) ?_
        refine pr_s (pc1 := 2) (st1 := [.int 0, .ref 164]) rfl (fun _ => rfl) ?_
        refine pr_s (pc1 := 3) (st1 := [.ref 0, .int 0, .ref 164]) rfl (fun _ => rfl) ?_
        refine pr_s (pc1 := 4) (st1 := [.int a1, .ref 0, .int 0, .ref 164]) rfl (fun _ => rfl) ?_
        refine pr_callx (N := pm_X6_fire) (as := [.ref 0, .int a1]) (rest := [.int 0, .ref 164]) (f := 2046) (l := 83956) (c1 := 1) (k1 := 6) (c2 := 0) (k2 := 0) (E := 12) (h1 := ph_1) (a := 12) (y1 := 3) (y2 := 1) rfl (fun ex => px_inv_hs ex rfl rfl rfl pg_0 rfl rfl rfl rfl) ?_ (Nat.le_of_ble_eq_true rfl) (Nat.le_of_ble_eq_true rfl) rfl rfl rfl rfl ?_
        · refine px_C_of rfl ?_
          refine pr_s (pc1 := 1) (st1 := [.int a1]) rfl (fun _ => rfl) ?_
          refine pr_callo (N := pm_X6_needMost) (as := [.int a1]) (rest := []) (f := 2045) (l := 83936) (E := 12) (h1 := ph_1) rfl (fun _ => rfl) ?_ rfl ⟨rfl, rfl⟩
          · refine px_C_of rfl ?_
            refine pr_s (pc1 := 1) (st1 := [.int a1]) rfl (fun _ => rfl) ?_
            refine pr_s (pc1 := 2) (st1 := [.int 1, .int a1]) rfl (fun _ => rfl) ?_
            refine pr_bf (t := 11) (off := 9) (bb := decide (a1 < 1)) (st1 := []) rfl rfl rfl rfl (pb_ltF ha1.1 (show (1 : Int32).toInt ≤ 1 by decide) (by decide)) ?_
            refine pr_s (pc1 := 6) (st1 := [.int a1]) rfl (fun _ => rfl) ?_
            refine pr_s (pc1 := 8) (st1 := [.int 20, .int a1]) rfl (fun _ => rfl) ?_
            refine pr_bf (t := 22) (off := 14) (bb := decide (a1 ≤ 20)) (st1 := []) rfl rfl rfl rfl (pb_leF ha1.1 (show (20 : Int32).toInt ≤ 20 by decide) (by decide)) ?_
            refine pr_mh (z1 := 1) (z2 := 6) (c1 := 0) (k1 := 0) (pc1 := 21) (n := 165) (r := []) (h1 := ph_1) (es := fun n => [.inr (12, [])]) rfl (fun _ => rfl) pl_0 rfl (Nat.le_of_ble_eq_true rfl) (Nat.le_of_ble_eq_true rfl) ?_
            exact pr_e rfl (fun _ => rfl) ⟨rfl, rfl⟩
        show px_R _ _ _ _ (13, [(0, .ref 0), (1, .int a1), (2, .ref 164)], [], _) _ _ _
        refine pr_s (pc1 := 14) (st1 := [.int 1]) rfl (fun _ => rfl) ?_
        exact pr_e rfl (fun _ => rfl) ⟨rfl, rfl⟩
      show px_T _ _ _ _ (1083, [(4, .int 0), (3, .ref 164), (2, .ref 136), (1, .ref 0), (0, .retAddr 0)], [.int 1], _) _ _ _
      refine pt_s (pc1 := 1085) (lv1 := [(5, .int 1), (4, .int 0), (3, .ref 164), (2, .ref 136), (1, .ref 0), (0, .retAddr 0)]) (st1 := []) rfl rfl (fun _ => rfl) ?_
      refine pt_s (pc1 := 1086) (st1 := [.ref 136]) rfl rfl (fun _ => rfl) ?_
      refine pt_s (pc1 := 1087) (st1 := [.retAddr 0, .ref 136]) rfl rfl (fun _ => rfl) ?_
      refine pt_s (pc1 := 1089) (st1 := [.int 0, .retAddr 0, .ref 136]) rfl rfl (fun _ => rfl) ?_
      refine pt_s (pc1 := 1090) (st1 := [.int 1, .int 0, .retAddr 0, .ref 136]) rfl rfl (fun _ => rfl) ?_
      refine pt_s (pc1 := 1091) (st1 := [.int 1, .retAddr 0, .ref 136]) rfl rfl (fun _ => rfl) ?_
      refine pt_s (pc1 := 1092) (st1 := [.int a1, .ref 136]) rfl rfl (fun _ => rfl) ?_
      refine pt_callv (N := pm_X10_fire) (as := [.ref 136, .int a1]) (rest := []) (f := 2047) (l := 83979) (c1 := 0) (k1 := 0) (c2 := 599836) (k2 := 7274189) (v := some (.int 0)) (h1 := ph_2) rfl rfl (fun ex => px_inv_hs ex rfl rfl rfl pg_2 rfl rfl rfl rfl) ?_ (Nat.le_of_ble_eq_true rfl) (Nat.le_of_ble_eq_true rfl) ?_
      · refine px_C_of rfl ?_
        refine pr_s (pc1 := 1) (st1 := [.ref 136]) rfl (fun _ => rfl) ?_
        refine pr_s (pc1 := 2) (st1 := [.int 0, .ref 136]) rfl (fun _ => rfl) ?_
        refine pr_putf (pc1 := 5) (h1 := ph_1) rfl rfl pg_2 rfl rfl rfl rfl rfl (px_set_same pg_2 rfl) rfl ?_
        refine pr_s (pc1 := 6) (st1 := [.int a1]) rfl (fun _ => rfl) ?_
        refine pr_s (pc1 := 7) (st1 := [.int 1, .int a1]) rfl (fun _ => rfl) ?_
        refine pr_s (pc1 := 9) (st1 := [.int 20, .int 1, .int a1]) rfl (fun _ => rfl) ?_
        refine pr_callv (N := pm_X10_is) (as := [.int a1, .int 1, .int 20]) (rest := []) (f := 2046) (l := 83957) (c1 := 0) (k1 := 0) (c2 := 0) (k2 := 0) (v := some (.int 0)) (h1 := ph_1) rfl (fun _ => rfl) ?_ (Nat.le_of_ble_eq_true rfl) (Nat.le_of_ble_eq_true rfl) ?_
        · refine px_C_of rfl ?_
          refine pr_s (pc1 := 1) (st1 := [.int a1]) rfl (fun _ => rfl) ?_
          refine pr_s (pc1 := 2) (st1 := [.int 1, .int a1]) rfl (fun _ => rfl) ?_
          refine pr_bf (t := 14) (off := 12) (bb := decide (a1 < 1)) (st1 := []) rfl rfl rfl rfl (pb_ltF ha1.1 (show (1 : Int32).toInt ≤ 1 by decide) (by decide)) ?_
          refine pr_s (pc1 := 6) (st1 := [.int a1]) rfl (fun _ => rfl) ?_
          refine pr_s (pc1 := 7) (st1 := [.int 20, .int a1]) rfl (fun _ => rfl) ?_
          refine pr_bt (t := 14) (off := 7) (bb := decide ((20 : Int32) < a1)) (st1 := []) rfl rfl rfl rfl (pb_ltT (show (20 : Int32).toInt ≤ 20 by decide) ha1.1 (by decide)) ?_
          refine pr_s (pc1 := 15) (st1 := [.int 0]) rfl (fun _ => rfl) ?_
          exact pr_e rfl (fun _ => rfl) ⟨rfl, rfl⟩
        show px_R _ _ _ _ (12, [(0, .ref 136), (1, .int a1)], [.int 0], _) _ _ _
        refine pr_bt (t := 26) (off := 14) (bb := decide ((0 : Int32) = 0)) (st1 := []) rfl rfl rfl rfl (by decide) ?_
        refine pr_s (pc1 := 27) (st1 := [.ref 136]) rfl (fun _ => rfl) ?_
        refine pr_s (pc1 := 28) (st1 := [.int 1, .ref 136]) rfl (fun _ => rfl) ?_
        refine pr_callv (N := pm_X10_refuse) (as := [.ref 136, .int 1]) (rest := []) (f := 2046) (l := 83958) (c1 := 0) (k1 := 0) (c2 := 0) (k2 := 0) (v := some (.int 0)) (h1 := ph_2) rfl (fun ex => px_inv_hs ex rfl rfl rfl pg_2 rfl rfl rfl rfl) ?_ (Nat.le_of_ble_eq_true rfl) (Nat.le_of_ble_eq_true rfl) ?_
        · refine px_C_of rfl ?_
          refine pr_s (pc1 := 1) (st1 := [.ref 136]) rfl (fun _ => rfl) ?_
          refine pr_s (pc1 := 2) (st1 := [.int 1, .ref 136]) rfl (fun _ => rfl) ?_
          refine pr_putf (pc1 := 5) (h1 := ph_2) rfl rfl pg_2 rfl rfl rfl rfl rfl rfl rfl ?_
          refine pr_s (pc1 := 6) (st1 := [.int 0]) rfl (fun _ => rfl) ?_
          exact pr_e rfl (fun _ => rfl) ⟨rfl, rfl⟩
        show px_R _ _ _ _ (31, [(0, .ref 136), (1, .int a1)], [.int 0], _) _ _ _
        exact pr_e rfl (fun _ => rfl) ⟨rfl, rfl⟩
      show px_T _ _ _ _ (1095, [(5, .int 1), (4, .int 0), (3, .ref 164), (2, .ref 136), (1, .ref 0), (0, .retAddr 0)], [.int 0], _) _ _ _
      refine pt_s (pc1 := 1097) (lv1 := [(6, .int 0), (5, .int 1), (4, .int 0), (3, .ref 164), (2, .ref 136), (1, .ref 0), (0, .retAddr 0)]) (st1 := []) rfl rfl (fun _ => rfl) ?_
      refine pt_s (pc1 := 1098) (st1 := [.ref 136]) rfl rfl (fun _ => rfl) ?_
      refine pt_callv (N := pm_X10_thrown) (as := [.ref 136]) (rest := []) (f := 2047) (l := 83980) (c1 := 0) (k1 := 0) (c2 := 599836) (k2 := 7274189) (v := some (.int 1)) (h1 := ph_2) rfl rfl (fun ex => px_inv_hs ex rfl rfl rfl pg_3 rfl rfl rfl rfl) ?_ (Nat.le_of_ble_eq_true rfl) (Nat.le_of_ble_eq_true rfl) ?_
      · refine px_C_of rfl ?_
        refine pr_s (pc1 := 1) (st1 := [.ref 136]) rfl (fun _ => rfl) ?_
        refine pr_getf (pc1 := 4) (v := .int 1) rfl rfl pg_3 rfl rfl ?_
        exact pr_e rfl (fun _ => rfl) ⟨rfl, rfl⟩
      show px_T _ _ _ _ (1101, [(6, .int 0), (5, .int 1), (4, .int 0), (3, .ref 164), (2, .ref 136), (1, .ref 0), (0, .retAddr 0)], [.int 1], _) _ _ _
      refine pt_s (pc1 := 1103) (st1 := [.int 1, .int 1]) rfl rfl (fun _ => rfl) ?_
      refine pt_bt (t := 1108) (off := 5) (bb := decide ((1 : Int32) = 1)) (st1 := []) rfl rfl rfl rfl rfl (by decide) ?_
      refine pt_s (pc1 := 1110) (st1 := [.int 1]) rfl rfl (fun _ => rfl) ?_
      refine pt_bt (t := 1125) (off := 15) (bb := !decide ((1 : Int32) = 0)) (st1 := []) rfl rfl rfl rfl rfl (px_not_t (by decide)) ?_
      refine pt_s (pc1 := 2771) (st1 := []) rfl rfl (fun _ => rfl) ?_
      refine pt_s (pc1 := 2774) (lv1 := [(4, .int 6), (6, .int 0), (5, .int 1), (3, .ref 164), (2, .ref 136), (1, .ref 0), (0, .retAddr 0)]) (st1 := []) rfl rfl (fun _ => rfl) ?_
      refine pt_s (pc1 := 23) (st1 := []) rfl rfl (fun _ => rfl) ?_
      refine pt_s (pc1 := 25) (st1 := [.int 6]) rfl rfl (fun _ => rfl) ?_
      refine pt_s (pc1 := 26) (st1 := [.retAddr 0, .int 6]) rfl rfl (fun _ => rfl) ?_
      refine pt_s (pc1 := 27) (st1 := [.int 6, .int 6]) rfl rfl (fun _ => rfl) ?_
      refine pt_s (pc1 := 29) (st1 := [.int 6, .int 6, .int 6]) rfl rfl (fun _ => rfl) ?_
      refine pt_s (pc1 := 30) (st1 := [.int 0, .int 6]) rfl rfl (fun _ => rfl) ?_
      refine pt_bt (t := 2777) (off := 2747) (bb := decide ((0 : Int32) < (6 : Int32))) (st1 := []) rfl rfl rfl rfl rfl (by decide) ?_
      refine pt_s (pc1 := 2778) (st1 := [.int 1]) rfl rfl (fun _ => rfl) ?_
      exact pt_e rfl ⟨rfl, (rfl : px_ins pm_law 2778 = some (.ireturn, 1))⟩
set_option maxRecDepth 100000 in
set_option maxHeartbeats 40000000 in
theorem px_op_12 (a0 a1 a2 a3 a4 a5 : Int32) : px_T (some [a0, a1, a2, a3, a4, a5]) pm_law 2048 84000 (40, [(4, .int 0), (3, .ref 164), (2, .ref 136), (1, .ref 0), (0, .retAddr 0)], [.int 12], px_hs) 599837 7274195 (fun s1 => s1.2.2.1 = [.int 1] ∧ px_ins pm_law s1.1 = some (.ireturn, 1)) := by
  refine pt_s (pc1 := 1128) (st1 := []) rfl rfl (fun _ => rfl) ?_
  refine pt_s (pc1 := 1129) (st1 := [.ref 0]) rfl rfl (fun _ => rfl) ?_
  refine pt_callv (N := pm_X6_rules) (as := [.ref 0]) (rest := []) (f := 2047) (l := 83980) (c1 := 0) (k1 := 0) (c2 := 599837) (k2 := 7274195) (v := some (.int 0)) (h1 := px_hs) rfl rfl (fun ex => px_inv_hs ex rfl rfl rfl pg_0 rfl rfl rfl rfl) ?_ (Nat.le_of_ble_eq_true rfl) (Nat.le_of_ble_eq_true rfl) ?_
  · refine px_C_of rfl ?_
    refine pr_s (pc1 := 1) (st1 := [.ref 0]) rfl (fun _ => rfl) ?_
    refine pr_getf (pc1 := 4) (v := .int 0) rfl rfl pg_0 rfl rfl ?_
    exact pr_e rfl (fun _ => rfl) ⟨rfl, rfl⟩
  show px_T _ _ _ _ (1132, [(4, .int 0), (3, .ref 164), (2, .ref 136), (1, .ref 0), (0, .retAddr 0)], [.int 0], _) _ _ _
  refine pt_s (pc1 := 1133) (st1 := [.ref 136, .int 0]) rfl rfl (fun _ => rfl) ?_
  refine pt_callv (N := pm_X10_rules) (as := [.ref 136]) (rest := [.int 0]) (f := 2047) (l := 83980) (c1 := 0) (k1 := 0) (c2 := 599837) (k2 := 7274195) (v := some (.int 0)) (h1 := px_hs) rfl rfl (fun ex => px_inv_hs ex rfl rfl rfl pg_1 rfl rfl rfl rfl) ?_ (Nat.le_of_ble_eq_true rfl) (Nat.le_of_ble_eq_true rfl) ?_
  · refine px_C_of rfl ?_
    refine pr_s (pc1 := 1) (st1 := [.ref 136]) rfl (fun _ => rfl) ?_
    refine pr_s (pc1 := 2) (st1 := [.int 0, .ref 136]) rfl (fun _ => rfl) ?_
    refine pr_putf (pc1 := 5) (h1 := px_hs) rfl rfl pg_1 rfl rfl rfl rfl rfl (px_set_same pg_1 rfl) rfl ?_
    refine pr_s (pc1 := 6) (st1 := [.ref 136]) rfl (fun _ => rfl) ?_
    refine pr_getf (pc1 := 9) (v := .int 0) rfl rfl pg_1 rfl rfl ?_
    exact pr_e rfl (fun _ => rfl) ⟨rfl, rfl⟩
  show px_T _ _ _ _ (1136, [(4, .int 0), (3, .ref 164), (2, .ref 136), (1, .ref 0), (0, .retAddr 0)], [.int 0, .int 0], _) _ _ _
  refine pt_bt (t := 2771) (off := 1635) (bb := decide ((0 : Int32) = 0)) (st1 := []) rfl rfl rfl rfl rfl (by decide) ?_
  refine pt_s (pc1 := 2774) (lv1 := [(4, .int 6), (3, .ref 164), (2, .ref 136), (1, .ref 0), (0, .retAddr 0)]) (st1 := []) rfl rfl (fun _ => rfl) ?_
  refine pt_s (pc1 := 23) (st1 := []) rfl rfl (fun _ => rfl) ?_
  refine pt_s (pc1 := 25) (st1 := [.int 6]) rfl rfl (fun _ => rfl) ?_
  refine pt_s (pc1 := 26) (st1 := [.retAddr 0, .int 6]) rfl rfl (fun _ => rfl) ?_
  refine pt_s (pc1 := 27) (st1 := [.int 6, .int 6]) rfl rfl (fun _ => rfl) ?_
  refine pt_s (pc1 := 29) (st1 := [.int 6, .int 6, .int 6]) rfl rfl (fun _ => rfl) ?_
  refine pt_s (pc1 := 30) (st1 := [.int 0, .int 6]) rfl rfl (fun _ => rfl) ?_
  refine pt_bt (t := 2777) (off := 2747) (bb := decide ((0 : Int32) < (6 : Int32))) (st1 := []) rfl rfl rfl rfl rfl (by decide) ?_
  refine pt_s (pc1 := 2778) (st1 := [.int 1]) rfl rfl (fun _ => rfl) ?_
  exact pt_e rfl ⟨rfl, (rfl : px_ins pm_law 2778 = some (.ireturn, 1))⟩
set_option maxRecDepth 100000 in
set_option maxHeartbeats 40000000 in
theorem px_op_13 (a0 a1 a2 a3 a4 a5 : Int32) : px_T (some [a0, a1, a2, a3, a4, a5]) pm_law 2048 84000 (40, [(4, .int 0), (3, .ref 164), (2, .ref 136), (1, .ref 0), (0, .retAddr 0)], [.int 13], px_hs) 599837 7274195 (fun s1 => s1.2.2.1 = [.int 1] ∧ px_ins pm_law s1.1 = some (.ireturn, 1)) := by
  have ha1 : (-2147483648) ≤ a1.toInt ∧ a1.toInt ≤ 2147483647 := ⟨Int32.le_toInt a1, Int32.toInt_le a1⟩
  by_cases hs : a1.toInt < 0
  · have ha1 : (-2147483648) ≤ a1.toInt ∧ a1.toInt ≤ (-1) := ⟨ha1.1, by omega⟩
    refine pt_s (pc1 := 1141) (st1 := []) rfl rfl (fun _ => rfl) ?_
    refine pt_s (pc1 := 1142) (st1 := [.ref 0]) rfl rfl (fun _ => rfl) ?_
    refine pt_s (pc1 := 1143) (st1 := [.retAddr 0, .ref 0]) rfl rfl (fun _ => rfl) ?_
    refine pt_s (pc1 := 1145) (st1 := [.int 0, .retAddr 0, .ref 0]) rfl rfl (fun _ => rfl) ?_
    refine pt_s (pc1 := 1146) (st1 := [.int 1, .int 0, .retAddr 0, .ref 0]) rfl rfl (fun _ => rfl) ?_
    refine pt_s (pc1 := 1147) (st1 := [.int 1, .retAddr 0, .ref 0]) rfl rfl (fun _ => rfl) ?_
    refine pt_s (pc1 := 1148) (st1 := [.int a1, .ref 0]) rfl rfl (fun _ => rfl) ?_
    refine pt_s (pc1 := 1149) (st1 := [.ref 164, .int a1, .ref 0]) rfl rfl (fun _ => rfl) ?_
    refine pt_callv (N := pm_L_isOn) (as := [.ref 0, .int a1, .ref 164]) (rest := []) (f := 2047) (l := 83977) (c1 := 1) (k1 := 6) (c2 := 599836) (k2 := 7274189) (v := some (.int 1)) (h1 := ph_14) rfl rfl (fun _ => rfl) ?_ (Nat.le_of_ble_eq_true rfl) (Nat.le_of_ble_eq_true rfl) ?_
    · refine px_C_of rfl ?_
      refine pr_s (pc1 := 1) (st1 := [.ref 164]) rfl (fun _ => rfl) ?_
      refine pr_s (pc1 := 2) (st1 := [.int 0, .ref 164]) rfl (fun _ => rfl) ?_
      refine pr_s (pc1 := 3) (st1 := [.ref 0, .int 0, .ref 164]) rfl (fun _ => rfl) ?_
      refine pr_s (pc1 := 4) (st1 := [.int a1, .ref 0, .int 0, .ref 164]) rfl (fun _ => rfl) ?_
      refine pr_callx (N := pm_X6_isOn) (as := [.ref 0, .int a1]) (rest := [.int 0, .ref 164]) (f := 2046) (l := 83956) (c1 := 1) (k1 := 6) (c2 := 0) (k2 := 0) (E := 11) (h1 := ph_14) (a := 19) (y1 := 3) (y2 := 1) rfl (fun ex => px_inv_hs ex rfl rfl rfl pg_0 rfl rfl rfl rfl) ?_ (Nat.le_of_ble_eq_true rfl) (Nat.le_of_ble_eq_true rfl) rfl rfl rfl rfl ?_
      · refine px_C_of rfl ?_
        refine pr_s (pc1 := 1) (st1 := [.ref 0]) rfl (fun _ => rfl) ?_
        refine pr_s (pc1 := 2) (st1 := [.int a1, .ref 0]) rfl (fun _ => rfl) ?_
        refine pr_callo (N := pm_X6_needRule) (as := [.ref 0, .int a1]) (rest := []) (f := 2045) (l := 83935) (E := 11) (h1 := ph_14) rfl (fun ex => px_inv_hs ex rfl rfl rfl pg_0 rfl rfl rfl rfl) ?_ rfl ⟨rfl, rfl⟩
        · refine px_C_of rfl ?_
          refine pr_s (pc1 := 1) (st1 := [.int a1]) rfl (fun _ => rfl) ?_
          refine pr_bt (t := 12) (off := 11) (bb := decide (a1 < 0)) (st1 := []) rfl rfl rfl rfl (pb_ltT ha1.2 (show 0 ≤ (0 : Int32).toInt by decide) (by decide)) ?_
          refine pr_mh (z1 := 1) (z2 := 6) (c1 := 0) (k1 := 0) (pc1 := 22) (n := 165) (r := []) (h1 := ph_14) (es := fun n => [.inr (11, [])]) rfl (fun _ => rfl) pl_0 rfl (Nat.le_of_ble_eq_true rfl) (Nat.le_of_ble_eq_true rfl) ?_
          exact pr_e rfl (fun _ => rfl) ⟨rfl, rfl⟩
      show px_R _ _ _ _ (20, [(0, .ref 0), (1, .int a1), (2, .ref 164)], [], _) _ _ _
      refine pr_s (pc1 := 21) (st1 := [.int 1]) rfl (fun _ => rfl) ?_
      exact pr_e rfl (fun _ => rfl) ⟨rfl, rfl⟩
    show px_T _ _ _ _ (1152, [(4, .int 0), (3, .ref 164), (2, .ref 136), (1, .ref 0), (0, .retAddr 0)], [.int 1], _) _ _ _
    refine pt_s (pc1 := 1154) (lv1 := [(5, .int 1), (4, .int 0), (3, .ref 164), (2, .ref 136), (1, .ref 0), (0, .retAddr 0)]) (st1 := []) rfl rfl (fun _ => rfl) ?_
    refine pt_s (pc1 := 1155) (st1 := [.ref 136]) rfl rfl (fun _ => rfl) ?_
    refine pt_s (pc1 := 1156) (st1 := [.retAddr 0, .ref 136]) rfl rfl (fun _ => rfl) ?_
    refine pt_s (pc1 := 1158) (st1 := [.int 0, .retAddr 0, .ref 136]) rfl rfl (fun _ => rfl) ?_
    refine pt_s (pc1 := 1159) (st1 := [.int 1, .int 0, .retAddr 0, .ref 136]) rfl rfl (fun _ => rfl) ?_
    refine pt_s (pc1 := 1160) (st1 := [.int 1, .retAddr 0, .ref 136]) rfl rfl (fun _ => rfl) ?_
    refine pt_s (pc1 := 1161) (st1 := [.int a1, .ref 136]) rfl rfl (fun _ => rfl) ?_
    refine pt_callv (N := pm_X10_isOn) (as := [.ref 136, .int a1]) (rest := []) (f := 2047) (l := 83979) (c1 := 0) (k1 := 0) (c2 := 599836) (k2 := 7274189) (v := some (.int 0)) (h1 := ph_15) rfl rfl (fun ex => px_inv_hs ex rfl rfl rfl pg_20 rfl rfl rfl rfl) ?_ (Nat.le_of_ble_eq_true rfl) (Nat.le_of_ble_eq_true rfl) ?_
    · refine px_C_of rfl ?_
      refine pr_s (pc1 := 1) (st1 := [.ref 136]) rfl (fun _ => rfl) ?_
      refine pr_s (pc1 := 2) (st1 := [.int a1, .ref 136]) rfl (fun _ => rfl) ?_
      refine pr_callv (N := pm_X10_has) (as := [.ref 136, .int a1]) (rest := []) (f := 2046) (l := 83958) (c1 := 0) (k1 := 0) (c2 := 0) (k2 := 0) (v := some (.int 0)) (h1 := ph_15) rfl (fun ex => px_inv_hs ex rfl rfl rfl pg_20 rfl rfl rfl rfl) ?_ (Nat.le_of_ble_eq_true rfl) (Nat.le_of_ble_eq_true rfl) ?_
      · refine px_C_of rfl ?_
        refine pr_s (pc1 := 1) (st1 := [.ref 136]) rfl (fun _ => rfl) ?_
        refine pr_s (pc1 := 2) (st1 := [.ref 136, .ref 136]) rfl (fun _ => rfl) ?_
        refine pr_s (pc1 := 3) (st1 := [.int a1, .ref 136, .ref 136]) rfl (fun _ => rfl) ?_
        refine pr_callv (N := pm_X10_isRule) (as := [.ref 136, .int a1]) (rest := [.ref 136]) (f := 2045) (l := 83937) (c1 := 0) (k1 := 0) (c2 := 0) (k2 := 0) (v := some (.int 0)) (h1 := ph_14) rfl (fun ex => px_inv_hs ex rfl rfl rfl pg_20 rfl rfl rfl rfl) ?_ (Nat.le_of_ble_eq_true rfl) (Nat.le_of_ble_eq_true rfl) ?_
        · refine px_C_of rfl ?_
          refine pr_s (pc1 := 1) (st1 := [.int a1]) rfl (fun _ => rfl) ?_
          refine pr_s (pc1 := 2) (st1 := [.int 0, .int a1]) rfl (fun _ => rfl) ?_
          refine pr_s (pc1 := 3) (st1 := [.ref 136, .int 0, .int a1]) rfl (fun _ => rfl) ?_
          refine pr_getf (pc1 := 6) (v := .int 0) rfl rfl pg_20 rfl rfl ?_
          refine pr_s (pc1 := 7) (st1 := [.int 1, .int 0, .int 0, .int a1]) rfl (fun _ => rfl) ?_
          refine pr_s (pc1 := 8) (st1 := [.int (-1), .int 0, .int a1]) rfl (fun _ => rfl) ?_
          refine pr_callv (N := pm_X10_is) (as := [.int a1, .int 0, .int (-1)]) (rest := []) (f := 2044) (l := 83915) (c1 := 0) (k1 := 0) (c2 := 0) (k2 := 0) (v := some (.int 0)) (h1 := ph_14) rfl (fun _ => rfl) ?_ (Nat.le_of_ble_eq_true rfl) (Nat.le_of_ble_eq_true rfl) ?_
          · refine px_C_of rfl ?_
            refine pr_s (pc1 := 1) (st1 := [.int a1]) rfl (fun _ => rfl) ?_
            refine pr_s (pc1 := 2) (st1 := [.int 0, .int a1]) rfl (fun _ => rfl) ?_
            refine pr_bt (t := 14) (off := 12) (bb := decide (a1 < 0)) (st1 := []) rfl rfl rfl rfl (pb_ltT ha1.2 (show 0 ≤ (0 : Int32).toInt by decide) (by decide)) ?_
            refine pr_s (pc1 := 15) (st1 := [.int 0]) rfl (fun _ => rfl) ?_
            exact pr_e rfl (fun _ => rfl) ⟨rfl, rfl⟩
          show px_R _ _ _ _ (11, [(0, .ref 136), (1, .int a1)], [.int 0], _) _ _ _
          exact pr_e rfl (fun _ => rfl) ⟨rfl, rfl⟩
        show px_R _ _ _ _ (6, [(0, .ref 136), (1, .int a1)], [.int 0, .ref 136], _) _ _ _
        refine pr_bt (t := 13) (off := 7) (bb := decide ((0 : Int32) = 0)) (st1 := [.ref 136]) rfl rfl rfl rfl (by decide) ?_
        refine pr_s (pc1 := 14) (st1 := [.int 1, .ref 136]) rfl (fun _ => rfl) ?_
        refine pr_putf (pc1 := 17) (h1 := ph_15) rfl rfl pg_20 rfl rfl rfl rfl rfl rfl rfl ?_
        refine pr_s (pc1 := 18) (st1 := [.ref 136]) rfl (fun _ => rfl) ?_
        refine pr_getf (pc1 := 21) (v := .int 1) rfl rfl pg_21 rfl rfl ?_
        refine pr_bt (t := 28) (off := 7) (bb := !decide ((1 : Int32) = 0)) (st1 := []) rfl rfl rfl rfl (px_not_t (by decide)) ?_
        refine pr_s (pc1 := 29) (st1 := [.int 0]) rfl (fun _ => rfl) ?_
        exact pr_e rfl (fun _ => rfl) ⟨rfl, rfl⟩
      show px_R _ _ _ _ (5, [(0, .ref 136), (1, .int a1)], [.int 0], _) _ _ _
      refine pr_bt (t := 24) (off := 19) (bb := decide ((0 : Int32) = 0)) (st1 := []) rfl rfl rfl rfl (by decide) ?_
      refine pr_s (pc1 := 25) (st1 := [.int 0]) rfl (fun _ => rfl) ?_
      exact pr_e rfl (fun _ => rfl) ⟨rfl, rfl⟩
    show px_T _ _ _ _ (1164, [(5, .int 1), (4, .int 0), (3, .ref 164), (2, .ref 136), (1, .ref 0), (0, .retAddr 0)], [.int 0], _) _ _ _
    refine pt_s (pc1 := 1166) (lv1 := [(6, .int 0), (5, .int 1), (4, .int 0), (3, .ref 164), (2, .ref 136), (1, .ref 0), (0, .retAddr 0)]) (st1 := []) rfl rfl (fun _ => rfl) ?_
    refine pt_s (pc1 := 1167) (st1 := [.ref 136]) rfl rfl (fun _ => rfl) ?_
    refine pt_callv (N := pm_X10_thrown) (as := [.ref 136]) (rest := []) (f := 2047) (l := 83980) (c1 := 0) (k1 := 0) (c2 := 599836) (k2 := 7274189) (v := some (.int 1)) (h1 := ph_15) rfl rfl (fun ex => px_inv_hs ex rfl rfl rfl pg_21 rfl rfl rfl rfl) ?_ (Nat.le_of_ble_eq_true rfl) (Nat.le_of_ble_eq_true rfl) ?_
    · refine px_C_of rfl ?_
      refine pr_s (pc1 := 1) (st1 := [.ref 136]) rfl (fun _ => rfl) ?_
      refine pr_getf (pc1 := 4) (v := .int 1) rfl rfl pg_21 rfl rfl ?_
      exact pr_e rfl (fun _ => rfl) ⟨rfl, rfl⟩
    show px_T _ _ _ _ (1170, [(6, .int 0), (5, .int 1), (4, .int 0), (3, .ref 164), (2, .ref 136), (1, .ref 0), (0, .retAddr 0)], [.int 1], _) _ _ _
    refine pt_s (pc1 := 1172) (st1 := [.int 1, .int 1]) rfl rfl (fun _ => rfl) ?_
    refine pt_bt (t := 1177) (off := 5) (bb := decide ((1 : Int32) = 1)) (st1 := []) rfl rfl rfl rfl rfl (by decide) ?_
    refine pt_s (pc1 := 1179) (st1 := [.int 1]) rfl rfl (fun _ => rfl) ?_
    refine pt_bt (t := 1201) (off := 22) (bb := !decide ((1 : Int32) = 0)) (st1 := []) rfl rfl rfl rfl rfl (px_not_t (by decide)) ?_
    refine pt_s (pc1 := 2771) (st1 := []) rfl rfl (fun _ => rfl) ?_
    refine pt_s (pc1 := 2774) (lv1 := [(4, .int 6), (6, .int 0), (5, .int 1), (3, .ref 164), (2, .ref 136), (1, .ref 0), (0, .retAddr 0)]) (st1 := []) rfl rfl (fun _ => rfl) ?_
    refine pt_s (pc1 := 23) (st1 := []) rfl rfl (fun _ => rfl) ?_
    refine pt_s (pc1 := 25) (st1 := [.int 6]) rfl rfl (fun _ => rfl) ?_
    refine pt_s (pc1 := 26) (st1 := [.retAddr 0, .int 6]) rfl rfl (fun _ => rfl) ?_
    refine pt_s (pc1 := 27) (st1 := [.int 6, .int 6]) rfl rfl (fun _ => rfl) ?_
    refine pt_s (pc1 := 29) (st1 := [.int 6, .int 6, .int 6]) rfl rfl (fun _ => rfl) ?_
    refine pt_s (pc1 := 30) (st1 := [.int 0, .int 6]) rfl rfl (fun _ => rfl) ?_
    refine pt_bt (t := 2777) (off := 2747) (bb := decide ((0 : Int32) < (6 : Int32))) (st1 := []) rfl rfl rfl rfl rfl (by decide) ?_
    refine pt_s (pc1 := 2778) (st1 := [.int 1]) rfl rfl (fun _ => rfl) ?_
    exact pt_e rfl ⟨rfl, (rfl : px_ins pm_law 2778 = some (.ireturn, 1))⟩
  · have ha1 : 0 ≤ a1.toInt ∧ a1.toInt ≤ 2147483647 := ⟨by omega, ha1.2⟩
    refine pt_s (pc1 := 1141) (st1 := []) rfl rfl (fun _ => rfl) ?_
    refine pt_s (pc1 := 1142) (st1 := [.ref 0]) rfl rfl (fun _ => rfl) ?_
    refine pt_s (pc1 := 1143) (st1 := [.retAddr 0, .ref 0]) rfl rfl (fun _ => rfl) ?_
    refine pt_s (pc1 := 1145) (st1 := [.int 0, .retAddr 0, .ref 0]) rfl rfl (fun _ => rfl) ?_
    refine pt_s (pc1 := 1146) (st1 := [.int 1, .int 0, .retAddr 0, .ref 0]) rfl rfl (fun _ => rfl) ?_
    refine pt_s (pc1 := 1147) (st1 := [.int 1, .retAddr 0, .ref 0]) rfl rfl (fun _ => rfl) ?_
    refine pt_s (pc1 := 1148) (st1 := [.int a1, .ref 0]) rfl rfl (fun _ => rfl) ?_
    refine pt_s (pc1 := 1149) (st1 := [.ref 164, .int a1, .ref 0]) rfl rfl (fun _ => rfl) ?_
    refine pt_callv (N := pm_L_isOn) (as := [.ref 0, .int a1, .ref 164]) (rest := []) (f := 2047) (l := 83977) (c1 := 1) (k1 := 6) (c2 := 599836) (k2 := 7274189) (v := some (.int 1)) (h1 := ph_14) rfl rfl (fun _ => rfl) ?_ (Nat.le_of_ble_eq_true rfl) (Nat.le_of_ble_eq_true rfl) ?_
    · refine px_C_of rfl ?_
      refine pr_s (pc1 := 1) (st1 := [.ref 164]) rfl (fun _ => rfl) ?_
      refine pr_s (pc1 := 2) (st1 := [.int 0, .ref 164]) rfl (fun _ => rfl) ?_
      refine pr_s (pc1 := 3) (st1 := [.ref 0, .int 0, .ref 164]) rfl (fun _ => rfl) ?_
      refine pr_s (pc1 := 4) (st1 := [.int a1, .ref 0, .int 0, .ref 164]) rfl (fun _ => rfl) ?_
      refine pr_callx (N := pm_X6_isOn) (as := [.ref 0, .int a1]) (rest := [.int 0, .ref 164]) (f := 2046) (l := 83956) (c1 := 1) (k1 := 6) (c2 := 0) (k2 := 0) (E := 11) (h1 := ph_14) (a := 19) (y1 := 3) (y2 := 1) rfl (fun ex => px_inv_hs ex rfl rfl rfl pg_0 rfl rfl rfl rfl) ?_ (Nat.le_of_ble_eq_true rfl) (Nat.le_of_ble_eq_true rfl) rfl rfl rfl rfl ?_
      · refine px_C_of rfl ?_
        refine pr_s (pc1 := 1) (st1 := [.ref 0]) rfl (fun _ => rfl) ?_
        refine pr_s (pc1 := 2) (st1 := [.int a1, .ref 0]) rfl (fun _ => rfl) ?_
        refine pr_callo (N := pm_X6_needRule) (as := [.ref 0, .int a1]) (rest := []) (f := 2045) (l := 83935) (E := 11) (h1 := ph_14) rfl (fun ex => px_inv_hs ex rfl rfl rfl pg_0 rfl rfl rfl rfl) ?_ rfl ⟨rfl, rfl⟩
        · refine px_C_of rfl ?_
          refine pr_s (pc1 := 1) (st1 := [.int a1]) rfl (fun _ => rfl) ?_
          refine pr_bf (t := 12) (off := 11) (bb := decide (a1 < 0)) (st1 := []) rfl rfl rfl rfl (pb_ltF ha1.1 (show (0 : Int32).toInt ≤ 0 by decide) (by decide)) ?_
          refine pr_s (pc1 := 5) (st1 := [.int a1]) rfl (fun _ => rfl) ?_
          refine pr_s (pc1 := 6) (st1 := [.ref 0, .int a1]) rfl (fun _ => rfl) ?_
          refine pr_getf (pc1 := 9) (v := .int 0) rfl rfl pg_0 rfl rfl ?_
          refine pr_bf (t := 23) (off := 14) (bb := decide (a1 < 0)) (st1 := []) rfl rfl rfl rfl (pb_ltF ha1.1 (show (0 : Int32).toInt ≤ 0 by decide) (by decide)) ?_
          refine pr_mh (z1 := 1) (z2 := 6) (c1 := 0) (k1 := 0) (pc1 := 22) (n := 165) (r := []) (h1 := ph_14) (es := fun n => [.inr (11, [])]) rfl (fun _ => rfl) pl_0 rfl (Nat.le_of_ble_eq_true rfl) (Nat.le_of_ble_eq_true rfl) ?_
          exact pr_e rfl (fun _ => rfl) ⟨rfl, rfl⟩
      show px_R _ _ _ _ (20, [(0, .ref 0), (1, .int a1), (2, .ref 164)], [], _) _ _ _
      refine pr_s (pc1 := 21) (st1 := [.int 1]) rfl (fun _ => rfl) ?_
      exact pr_e rfl (fun _ => rfl) ⟨rfl, rfl⟩
    show px_T _ _ _ _ (1152, [(4, .int 0), (3, .ref 164), (2, .ref 136), (1, .ref 0), (0, .retAddr 0)], [.int 1], _) _ _ _
    refine pt_s (pc1 := 1154) (lv1 := [(5, .int 1), (4, .int 0), (3, .ref 164), (2, .ref 136), (1, .ref 0), (0, .retAddr 0)]) (st1 := []) rfl rfl (fun _ => rfl) ?_
    refine pt_s (pc1 := 1155) (st1 := [.ref 136]) rfl rfl (fun _ => rfl) ?_
    refine pt_s (pc1 := 1156) (st1 := [.retAddr 0, .ref 136]) rfl rfl (fun _ => rfl) ?_
    refine pt_s (pc1 := 1158) (st1 := [.int 0, .retAddr 0, .ref 136]) rfl rfl (fun _ => rfl) ?_
    refine pt_s (pc1 := 1159) (st1 := [.int 1, .int 0, .retAddr 0, .ref 136]) rfl rfl (fun _ => rfl) ?_
    refine pt_s (pc1 := 1160) (st1 := [.int 1, .retAddr 0, .ref 136]) rfl rfl (fun _ => rfl) ?_
    refine pt_s (pc1 := 1161) (st1 := [.int a1, .ref 136]) rfl rfl (fun _ => rfl) ?_
    refine pt_callv (N := pm_X10_isOn) (as := [.ref 136, .int a1]) (rest := []) (f := 2047) (l := 83979) (c1 := 0) (k1 := 0) (c2 := 599836) (k2 := 7274189) (v := some (.int 0)) (h1 := ph_15) rfl rfl (fun ex => px_inv_hs ex rfl rfl rfl pg_20 rfl rfl rfl rfl) ?_ (Nat.le_of_ble_eq_true rfl) (Nat.le_of_ble_eq_true rfl) ?_
    · refine px_C_of rfl ?_
      refine pr_s (pc1 := 1) (st1 := [.ref 136]) rfl (fun _ => rfl) ?_
      refine pr_s (pc1 := 2) (st1 := [.int a1, .ref 136]) rfl (fun _ => rfl) ?_
      refine pr_callv (N := pm_X10_has) (as := [.ref 136, .int a1]) (rest := []) (f := 2046) (l := 83958) (c1 := 0) (k1 := 0) (c2 := 0) (k2 := 0) (v := some (.int 0)) (h1 := ph_15) rfl (fun ex => px_inv_hs ex rfl rfl rfl pg_20 rfl rfl rfl rfl) ?_ (Nat.le_of_ble_eq_true rfl) (Nat.le_of_ble_eq_true rfl) ?_
      · refine px_C_of rfl ?_
        refine pr_s (pc1 := 1) (st1 := [.ref 136]) rfl (fun _ => rfl) ?_
        refine pr_s (pc1 := 2) (st1 := [.ref 136, .ref 136]) rfl (fun _ => rfl) ?_
        refine pr_s (pc1 := 3) (st1 := [.int a1, .ref 136, .ref 136]) rfl (fun _ => rfl) ?_
        refine pr_callv (N := pm_X10_isRule) (as := [.ref 136, .int a1]) (rest := [.ref 136]) (f := 2045) (l := 83937) (c1 := 0) (k1 := 0) (c2 := 0) (k2 := 0) (v := some (.int 0)) (h1 := ph_14) rfl (fun ex => px_inv_hs ex rfl rfl rfl pg_20 rfl rfl rfl rfl) ?_ (Nat.le_of_ble_eq_true rfl) (Nat.le_of_ble_eq_true rfl) ?_
        · refine px_C_of rfl ?_
          refine pr_s (pc1 := 1) (st1 := [.int a1]) rfl (fun _ => rfl) ?_
          refine pr_s (pc1 := 2) (st1 := [.int 0, .int a1]) rfl (fun _ => rfl) ?_
          refine pr_s (pc1 := 3) (st1 := [.ref 136, .int 0, .int a1]) rfl (fun _ => rfl) ?_
          refine pr_getf (pc1 := 6) (v := .int 0) rfl rfl pg_20 rfl rfl ?_
          refine pr_s (pc1 := 7) (st1 := [.int 1, .int 0, .int 0, .int a1]) rfl (fun _ => rfl) ?_
          refine pr_s (pc1 := 8) (st1 := [.int (-1), .int 0, .int a1]) rfl (fun _ => rfl) ?_
          refine pr_callv (N := pm_X10_is) (as := [.int a1, .int 0, .int (-1)]) (rest := []) (f := 2044) (l := 83915) (c1 := 0) (k1 := 0) (c2 := 0) (k2 := 0) (v := some (.int 0)) (h1 := ph_14) rfl (fun _ => rfl) ?_ (Nat.le_of_ble_eq_true rfl) (Nat.le_of_ble_eq_true rfl) ?_
          · refine px_C_of rfl ?_
            refine pr_s (pc1 := 1) (st1 := [.int a1]) rfl (fun _ => rfl) ?_
            refine pr_s (pc1 := 2) (st1 := [.int 0, .int a1]) rfl (fun _ => rfl) ?_
            refine pr_bf (t := 14) (off := 12) (bb := decide (a1 < 0)) (st1 := []) rfl rfl rfl rfl (pb_ltF ha1.1 (show (0 : Int32).toInt ≤ 0 by decide) (by decide)) ?_
            refine pr_s (pc1 := 6) (st1 := [.int a1]) rfl (fun _ => rfl) ?_
            refine pr_s (pc1 := 7) (st1 := [.int (-1), .int a1]) rfl (fun _ => rfl) ?_
            refine pr_bt (t := 14) (off := 7) (bb := decide (((-1) : Int32) < a1)) (st1 := []) rfl rfl rfl rfl (pb_ltT (show ((-1) : Int32).toInt ≤ (-1) by decide) ha1.1 (by decide)) ?_
            refine pr_s (pc1 := 15) (st1 := [.int 0]) rfl (fun _ => rfl) ?_
            exact pr_e rfl (fun _ => rfl) ⟨rfl, rfl⟩
          show px_R _ _ _ _ (11, [(0, .ref 136), (1, .int a1)], [.int 0], _) _ _ _
          exact pr_e rfl (fun _ => rfl) ⟨rfl, rfl⟩
        show px_R _ _ _ _ (6, [(0, .ref 136), (1, .int a1)], [.int 0, .ref 136], _) _ _ _
        refine pr_bt (t := 13) (off := 7) (bb := decide ((0 : Int32) = 0)) (st1 := [.ref 136]) rfl rfl rfl rfl (by decide) ?_
        refine pr_s (pc1 := 14) (st1 := [.int 1, .ref 136]) rfl (fun _ => rfl) ?_
        refine pr_putf (pc1 := 17) (h1 := ph_15) rfl rfl pg_20 rfl rfl rfl rfl rfl rfl rfl ?_
        refine pr_s (pc1 := 18) (st1 := [.ref 136]) rfl (fun _ => rfl) ?_
        refine pr_getf (pc1 := 21) (v := .int 1) rfl rfl pg_21 rfl rfl ?_
        refine pr_bt (t := 28) (off := 7) (bb := !decide ((1 : Int32) = 0)) (st1 := []) rfl rfl rfl rfl (px_not_t (by decide)) ?_
        refine pr_s (pc1 := 29) (st1 := [.int 0]) rfl (fun _ => rfl) ?_
        exact pr_e rfl (fun _ => rfl) ⟨rfl, rfl⟩
      show px_R _ _ _ _ (5, [(0, .ref 136), (1, .int a1)], [.int 0], _) _ _ _
      refine pr_bt (t := 24) (off := 19) (bb := decide ((0 : Int32) = 0)) (st1 := []) rfl rfl rfl rfl (by decide) ?_
      refine pr_s (pc1 := 25) (st1 := [.int 0]) rfl (fun _ => rfl) ?_
      exact pr_e rfl (fun _ => rfl) ⟨rfl, rfl⟩
    show px_T _ _ _ _ (1164, [(5, .int 1), (4, .int 0), (3, .ref 164), (2, .ref 136), (1, .ref 0), (0, .retAddr 0)], [.int 0], _) _ _ _
    refine pt_s (pc1 := 1166) (lv1 := [(6, .int 0), (5, .int 1), (4, .int 0), (3, .ref 164), (2, .ref 136), (1, .ref 0), (0, .retAddr 0)]) (st1 := []) rfl rfl (fun _ => rfl) ?_
    refine pt_s (pc1 := 1167) (st1 := [.ref 136]) rfl rfl (fun _ => rfl) ?_
    refine pt_callv (N := pm_X10_thrown) (as := [.ref 136]) (rest := []) (f := 2047) (l := 83980) (c1 := 0) (k1 := 0) (c2 := 599836) (k2 := 7274189) (v := some (.int 1)) (h1 := ph_15) rfl rfl (fun ex => px_inv_hs ex rfl rfl rfl pg_21 rfl rfl rfl rfl) ?_ (Nat.le_of_ble_eq_true rfl) (Nat.le_of_ble_eq_true rfl) ?_
    · refine px_C_of rfl ?_
      refine pr_s (pc1 := 1) (st1 := [.ref 136]) rfl (fun _ => rfl) ?_
      refine pr_getf (pc1 := 4) (v := .int 1) rfl rfl pg_21 rfl rfl ?_
      exact pr_e rfl (fun _ => rfl) ⟨rfl, rfl⟩
    show px_T _ _ _ _ (1170, [(6, .int 0), (5, .int 1), (4, .int 0), (3, .ref 164), (2, .ref 136), (1, .ref 0), (0, .retAddr 0)], [.int 1], _) _ _ _
    refine pt_s (pc1 := 1172) (st1 := [.int 1, .int 1]) rfl rfl (fun _ => rfl) ?_
    refine pt_bt (t := 1177) (off := 5) (bb := decide ((1 : Int32) = 1)) (st1 := []) rfl rfl rfl rfl rfl (by decide) ?_
    refine pt_s (pc1 := 1179) (st1 := [.int 1]) rfl rfl (fun _ => rfl) ?_
    refine pt_bt (t := 1201) (off := 22) (bb := !decide ((1 : Int32) = 0)) (st1 := []) rfl rfl rfl rfl rfl (px_not_t (by decide)) ?_
    refine pt_s (pc1 := 2771) (st1 := []) rfl rfl (fun _ => rfl) ?_
    refine pt_s (pc1 := 2774) (lv1 := [(4, .int 6), (6, .int 0), (5, .int 1), (3, .ref 164), (2, .ref 136), (1, .ref 0), (0, .retAddr 0)]) (st1 := []) rfl rfl (fun _ => rfl) ?_
    refine pt_s (pc1 := 23) (st1 := []) rfl rfl (fun _ => rfl) ?_
    refine pt_s (pc1 := 25) (st1 := [.int 6]) rfl rfl (fun _ => rfl) ?_
    refine pt_s (pc1 := 26) (st1 := [.retAddr 0, .int 6]) rfl rfl (fun _ => rfl) ?_
    refine pt_s (pc1 := 27) (st1 := [.int 6, .int 6]) rfl rfl (fun _ => rfl) ?_
    refine pt_s (pc1 := 29) (st1 := [.int 6, .int 6, .int 6]) rfl rfl (fun _ => rfl) ?_
    refine pt_s (pc1 := 30) (st1 := [.int 0, .int 6]) rfl rfl (fun _ => rfl) ?_
    refine pt_bt (t := 2777) (off := 2747) (bb := decide ((0 : Int32) < (6 : Int32))) (st1 := []) rfl rfl rfl rfl rfl (by decide) ?_
    refine pt_s (pc1 := 2778) (st1 := [.int 1]) rfl rfl (fun _ => rfl) ?_
    exact pt_e rfl ⟨rfl, (rfl : px_ins pm_law 2778 = some (.ireturn, 1))⟩
set_option maxRecDepth 100000 in
set_option maxHeartbeats 40000000 in
theorem px_op_14 (a0 a1 a2 a3 a4 a5 : Int32) : px_T (some [a0, a1, a2, a3, a4, a5]) pm_law 2048 84000 (40, [(4, .int 0), (3, .ref 164), (2, .ref 136), (1, .ref 0), (0, .retAddr 0)], [.int 14], px_hs) 599837 7274195 (fun s1 => s1.2.2.1 = [.int 1] ∧ px_ins pm_law s1.1 = some (.ireturn, 1)) := by
  have ha1 : (-2147483648) ≤ a1.toInt ∧ a1.toInt ≤ 2147483647 := ⟨Int32.le_toInt a1, Int32.toInt_le a1⟩
  by_cases hs : a1.toInt < 0
  · have ha1 : (-2147483648) ≤ a1.toInt ∧ a1.toInt ≤ (-1) := ⟨ha1.1, by omega⟩
    refine pt_s (pc1 := 1204) (st1 := []) rfl rfl (fun _ => rfl) ?_
    refine pt_s (pc1 := 1205) (st1 := [.ref 0]) rfl rfl (fun _ => rfl) ?_
    refine pt_s (pc1 := 1206) (st1 := [.retAddr 0, .ref 0]) rfl rfl (fun _ => rfl) ?_
    refine pt_s (pc1 := 1208) (st1 := [.int 0, .retAddr 0, .ref 0]) rfl rfl (fun _ => rfl) ?_
    refine pt_s (pc1 := 1209) (st1 := [.int 1, .int 0, .retAddr 0, .ref 0]) rfl rfl (fun _ => rfl) ?_
    refine pt_s (pc1 := 1210) (st1 := [.int 1, .retAddr 0, .ref 0]) rfl rfl (fun _ => rfl) ?_
    refine pt_s (pc1 := 1211) (st1 := [.int a1, .ref 0]) rfl rfl (fun _ => rfl) ?_
    refine pt_s (pc1 := 1212) (st1 := [.ref 164, .int a1, .ref 0]) rfl rfl (fun _ => rfl) ?_
    refine pt_callv (N := pm_L_isSound) (as := [.ref 0, .int a1, .ref 164]) (rest := []) (f := 2047) (l := 83977) (c1 := 1) (k1 := 6) (c2 := 599836) (k2 := 7274189) (v := some (.int 1)) (h1 := ph_14) rfl rfl (fun _ => rfl) ?_ (Nat.le_of_ble_eq_true rfl) (Nat.le_of_ble_eq_true rfl) ?_
    · refine px_C_of rfl ?_
      refine pr_s (pc1 := 1) (st1 := [.ref 164]) rfl (fun _ => rfl) ?_
      refine pr_s (pc1 := 2) (st1 := [.int 0, .ref 164]) rfl (fun _ => rfl) ?_
      refine pr_s (pc1 := 3) (st1 := [.ref 0, .int 0, .ref 164]) rfl (fun _ => rfl) ?_
      refine pr_s (pc1 := 4) (st1 := [.int a1, .ref 0, .int 0, .ref 164]) rfl (fun _ => rfl) ?_
      refine pr_callx (N := pm_X6_isSound) (as := [.ref 0, .int a1]) (rest := [.int 0, .ref 164]) (f := 2046) (l := 83956) (c1 := 1) (k1 := 6) (c2 := 0) (k2 := 0) (E := 11) (h1 := ph_14) (a := 19) (y1 := 3) (y2 := 1) rfl (fun ex => px_inv_hs ex rfl rfl rfl pg_0 rfl rfl rfl rfl) ?_ (Nat.le_of_ble_eq_true rfl) (Nat.le_of_ble_eq_true rfl) rfl rfl rfl rfl ?_
      · refine px_C_of rfl ?_
        refine pr_s (pc1 := 1) (st1 := [.ref 0]) rfl (fun _ => rfl) ?_
        refine pr_s (pc1 := 2) (st1 := [.int a1, .ref 0]) rfl (fun _ => rfl) ?_
        refine pr_callo (N := pm_X6_needRule) (as := [.ref 0, .int a1]) (rest := []) (f := 2045) (l := 83935) (E := 11) (h1 := ph_14) rfl (fun ex => px_inv_hs ex rfl rfl rfl pg_0 rfl rfl rfl rfl) ?_ rfl ⟨rfl, rfl⟩
        · refine px_C_of rfl ?_
          refine pr_s (pc1 := 1) (st1 := [.int a1]) rfl (fun _ => rfl) ?_
          refine pr_bt (t := 12) (off := 11) (bb := decide (a1 < 0)) (st1 := []) rfl rfl rfl rfl (pb_ltT ha1.2 (show 0 ≤ (0 : Int32).toInt by decide) (by decide)) ?_
          refine pr_mh (z1 := 1) (z2 := 6) (c1 := 0) (k1 := 0) (pc1 := 22) (n := 165) (r := []) (h1 := ph_14) (es := fun n => [.inr (11, [])]) rfl (fun _ => rfl) pl_0 rfl (Nat.le_of_ble_eq_true rfl) (Nat.le_of_ble_eq_true rfl) ?_
          exact pr_e rfl (fun _ => rfl) ⟨rfl, rfl⟩
      show px_R _ _ _ _ (20, [(0, .ref 0), (1, .int a1), (2, .ref 164)], [], _) _ _ _
      refine pr_s (pc1 := 21) (st1 := [.int 1]) rfl (fun _ => rfl) ?_
      exact pr_e rfl (fun _ => rfl) ⟨rfl, rfl⟩
    show px_T _ _ _ _ (1215, [(4, .int 0), (3, .ref 164), (2, .ref 136), (1, .ref 0), (0, .retAddr 0)], [.int 1], _) _ _ _
    refine pt_s (pc1 := 1217) (lv1 := [(5, .int 1), (4, .int 0), (3, .ref 164), (2, .ref 136), (1, .ref 0), (0, .retAddr 0)]) (st1 := []) rfl rfl (fun _ => rfl) ?_
    refine pt_s (pc1 := 1218) (st1 := [.ref 136]) rfl rfl (fun _ => rfl) ?_
    refine pt_s (pc1 := 1219) (st1 := [.retAddr 0, .ref 136]) rfl rfl (fun _ => rfl) ?_
    refine pt_s (pc1 := 1221) (st1 := [.int 0, .retAddr 0, .ref 136]) rfl rfl (fun _ => rfl) ?_
    refine pt_s (pc1 := 1222) (st1 := [.int 1, .int 0, .retAddr 0, .ref 136]) rfl rfl (fun _ => rfl) ?_
    refine pt_s (pc1 := 1223) (st1 := [.int 1, .retAddr 0, .ref 136]) rfl rfl (fun _ => rfl) ?_
    refine pt_s (pc1 := 1224) (st1 := [.int a1, .ref 136]) rfl rfl (fun _ => rfl) ?_
    refine pt_callv (N := pm_X10_isSound) (as := [.ref 136, .int a1]) (rest := []) (f := 2047) (l := 83979) (c1 := 0) (k1 := 0) (c2 := 599836) (k2 := 7274189) (v := some (.int 0)) (h1 := ph_15) rfl rfl (fun ex => px_inv_hs ex rfl rfl rfl pg_20 rfl rfl rfl rfl) ?_ (Nat.le_of_ble_eq_true rfl) (Nat.le_of_ble_eq_true rfl) ?_
    · refine px_C_of rfl ?_
      refine pr_s (pc1 := 1) (st1 := [.ref 136]) rfl (fun _ => rfl) ?_
      refine pr_s (pc1 := 2) (st1 := [.int a1, .ref 136]) rfl (fun _ => rfl) ?_
      refine pr_callv (N := pm_X10_has) (as := [.ref 136, .int a1]) (rest := []) (f := 2046) (l := 83958) (c1 := 0) (k1 := 0) (c2 := 0) (k2 := 0) (v := some (.int 0)) (h1 := ph_15) rfl (fun ex => px_inv_hs ex rfl rfl rfl pg_20 rfl rfl rfl rfl) ?_ (Nat.le_of_ble_eq_true rfl) (Nat.le_of_ble_eq_true rfl) ?_
      · refine px_C_of rfl ?_
        refine pr_s (pc1 := 1) (st1 := [.ref 136]) rfl (fun _ => rfl) ?_
        refine pr_s (pc1 := 2) (st1 := [.ref 136, .ref 136]) rfl (fun _ => rfl) ?_
        refine pr_s (pc1 := 3) (st1 := [.int a1, .ref 136, .ref 136]) rfl (fun _ => rfl) ?_
        refine pr_callv (N := pm_X10_isRule) (as := [.ref 136, .int a1]) (rest := [.ref 136]) (f := 2045) (l := 83937) (c1 := 0) (k1 := 0) (c2 := 0) (k2 := 0) (v := some (.int 0)) (h1 := ph_14) rfl (fun ex => px_inv_hs ex rfl rfl rfl pg_20 rfl rfl rfl rfl) ?_ (Nat.le_of_ble_eq_true rfl) (Nat.le_of_ble_eq_true rfl) ?_
        · refine px_C_of rfl ?_
          refine pr_s (pc1 := 1) (st1 := [.int a1]) rfl (fun _ => rfl) ?_
          refine pr_s (pc1 := 2) (st1 := [.int 0, .int a1]) rfl (fun _ => rfl) ?_
          refine pr_s (pc1 := 3) (st1 := [.ref 136, .int 0, .int a1]) rfl (fun _ => rfl) ?_
          refine pr_getf (pc1 := 6) (v := .int 0) rfl rfl pg_20 rfl rfl ?_
          refine pr_s (pc1 := 7) (st1 := [.int 1, .int 0, .int 0, .int a1]) rfl (fun _ => rfl) ?_
          refine pr_s (pc1 := 8) (st1 := [.int (-1), .int 0, .int a1]) rfl (fun _ => rfl) ?_
          refine pr_callv (N := pm_X10_is) (as := [.int a1, .int 0, .int (-1)]) (rest := []) (f := 2044) (l := 83915) (c1 := 0) (k1 := 0) (c2 := 0) (k2 := 0) (v := some (.int 0)) (h1 := ph_14) rfl (fun _ => rfl) ?_ (Nat.le_of_ble_eq_true rfl) (Nat.le_of_ble_eq_true rfl) ?_
          · refine px_C_of rfl ?_
            refine pr_s (pc1 := 1) (st1 := [.int a1]) rfl (fun _ => rfl) ?_
            refine pr_s (pc1 := 2) (st1 := [.int 0, .int a1]) rfl (fun _ => rfl) ?_
            refine pr_bt (t := 14) (off := 12) (bb := decide (a1 < 0)) (st1 := []) rfl rfl rfl rfl (pb_ltT ha1.2 (show 0 ≤ (0 : Int32).toInt by decide) (by decide)) ?_
            refine pr_s (pc1 := 15) (st1 := [.int 0]) rfl (fun _ => rfl) ?_
            exact pr_e rfl (fun _ => rfl) ⟨rfl, rfl⟩
          show px_R _ _ _ _ (11, [(0, .ref 136), (1, .int a1)], [.int 0], _) _ _ _
          exact pr_e rfl (fun _ => rfl) ⟨rfl, rfl⟩
        show px_R _ _ _ _ (6, [(0, .ref 136), (1, .int a1)], [.int 0, .ref 136], _) _ _ _
        refine pr_bt (t := 13) (off := 7) (bb := decide ((0 : Int32) = 0)) (st1 := [.ref 136]) rfl rfl rfl rfl (by decide) ?_
        refine pr_s (pc1 := 14) (st1 := [.int 1, .ref 136]) rfl (fun _ => rfl) ?_
        refine pr_putf (pc1 := 17) (h1 := ph_15) rfl rfl pg_20 rfl rfl rfl rfl rfl rfl rfl ?_
        refine pr_s (pc1 := 18) (st1 := [.ref 136]) rfl (fun _ => rfl) ?_
        refine pr_getf (pc1 := 21) (v := .int 1) rfl rfl pg_21 rfl rfl ?_
        refine pr_bt (t := 28) (off := 7) (bb := !decide ((1 : Int32) = 0)) (st1 := []) rfl rfl rfl rfl (px_not_t (by decide)) ?_
        refine pr_s (pc1 := 29) (st1 := [.int 0]) rfl (fun _ => rfl) ?_
        exact pr_e rfl (fun _ => rfl) ⟨rfl, rfl⟩
      show px_R _ _ _ _ (5, [(0, .ref 136), (1, .int a1)], [.int 0], _) _ _ _
      refine pr_bt (t := 24) (off := 19) (bb := decide ((0 : Int32) = 0)) (st1 := []) rfl rfl rfl rfl (by decide) ?_
      refine pr_s (pc1 := 25) (st1 := [.int 0]) rfl (fun _ => rfl) ?_
      exact pr_e rfl (fun _ => rfl) ⟨rfl, rfl⟩
    show px_T _ _ _ _ (1227, [(5, .int 1), (4, .int 0), (3, .ref 164), (2, .ref 136), (1, .ref 0), (0, .retAddr 0)], [.int 0], _) _ _ _
    refine pt_s (pc1 := 1229) (lv1 := [(6, .int 0), (5, .int 1), (4, .int 0), (3, .ref 164), (2, .ref 136), (1, .ref 0), (0, .retAddr 0)]) (st1 := []) rfl rfl (fun _ => rfl) ?_
    refine pt_s (pc1 := 1230) (st1 := [.ref 136]) rfl rfl (fun _ => rfl) ?_
    refine pt_callv (N := pm_X10_thrown) (as := [.ref 136]) (rest := []) (f := 2047) (l := 83980) (c1 := 0) (k1 := 0) (c2 := 599836) (k2 := 7274189) (v := some (.int 1)) (h1 := ph_15) rfl rfl (fun ex => px_inv_hs ex rfl rfl rfl pg_21 rfl rfl rfl rfl) ?_ (Nat.le_of_ble_eq_true rfl) (Nat.le_of_ble_eq_true rfl) ?_
    · refine px_C_of rfl ?_
      refine pr_s (pc1 := 1) (st1 := [.ref 136]) rfl (fun _ => rfl) ?_
      refine pr_getf (pc1 := 4) (v := .int 1) rfl rfl pg_21 rfl rfl ?_
      exact pr_e rfl (fun _ => rfl) ⟨rfl, rfl⟩
    show px_T _ _ _ _ (1233, [(6, .int 0), (5, .int 1), (4, .int 0), (3, .ref 164), (2, .ref 136), (1, .ref 0), (0, .retAddr 0)], [.int 1], _) _ _ _
    refine pt_s (pc1 := 1235) (st1 := [.int 1, .int 1]) rfl rfl (fun _ => rfl) ?_
    refine pt_bt (t := 1240) (off := 5) (bb := decide ((1 : Int32) = 1)) (st1 := []) rfl rfl rfl rfl rfl (by decide) ?_
    refine pt_s (pc1 := 1242) (st1 := [.int 1]) rfl rfl (fun _ => rfl) ?_
    refine pt_bt (t := 1264) (off := 22) (bb := !decide ((1 : Int32) = 0)) (st1 := []) rfl rfl rfl rfl rfl (px_not_t (by decide)) ?_
    refine pt_s (pc1 := 2771) (st1 := []) rfl rfl (fun _ => rfl) ?_
    refine pt_s (pc1 := 2774) (lv1 := [(4, .int 6), (6, .int 0), (5, .int 1), (3, .ref 164), (2, .ref 136), (1, .ref 0), (0, .retAddr 0)]) (st1 := []) rfl rfl (fun _ => rfl) ?_
    refine pt_s (pc1 := 23) (st1 := []) rfl rfl (fun _ => rfl) ?_
    refine pt_s (pc1 := 25) (st1 := [.int 6]) rfl rfl (fun _ => rfl) ?_
    refine pt_s (pc1 := 26) (st1 := [.retAddr 0, .int 6]) rfl rfl (fun _ => rfl) ?_
    refine pt_s (pc1 := 27) (st1 := [.int 6, .int 6]) rfl rfl (fun _ => rfl) ?_
    refine pt_s (pc1 := 29) (st1 := [.int 6, .int 6, .int 6]) rfl rfl (fun _ => rfl) ?_
    refine pt_s (pc1 := 30) (st1 := [.int 0, .int 6]) rfl rfl (fun _ => rfl) ?_
    refine pt_bt (t := 2777) (off := 2747) (bb := decide ((0 : Int32) < (6 : Int32))) (st1 := []) rfl rfl rfl rfl rfl (by decide) ?_
    refine pt_s (pc1 := 2778) (st1 := [.int 1]) rfl rfl (fun _ => rfl) ?_
    exact pt_e rfl ⟨rfl, (rfl : px_ins pm_law 2778 = some (.ireturn, 1))⟩
  · have ha1 : 0 ≤ a1.toInt ∧ a1.toInt ≤ 2147483647 := ⟨by omega, ha1.2⟩
    refine pt_s (pc1 := 1204) (st1 := []) rfl rfl (fun _ => rfl) ?_
    refine pt_s (pc1 := 1205) (st1 := [.ref 0]) rfl rfl (fun _ => rfl) ?_
    refine pt_s (pc1 := 1206) (st1 := [.retAddr 0, .ref 0]) rfl rfl (fun _ => rfl) ?_
    refine pt_s (pc1 := 1208) (st1 := [.int 0, .retAddr 0, .ref 0]) rfl rfl (fun _ => rfl) ?_
    refine pt_s (pc1 := 1209) (st1 := [.int 1, .int 0, .retAddr 0, .ref 0]) rfl rfl (fun _ => rfl) ?_
    refine pt_s (pc1 := 1210) (st1 := [.int 1, .retAddr 0, .ref 0]) rfl rfl (fun _ => rfl) ?_
    refine pt_s (pc1 := 1211) (st1 := [.int a1, .ref 0]) rfl rfl (fun _ => rfl) ?_
    refine pt_s (pc1 := 1212) (st1 := [.ref 164, .int a1, .ref 0]) rfl rfl (fun _ => rfl) ?_
    refine pt_callv (N := pm_L_isSound) (as := [.ref 0, .int a1, .ref 164]) (rest := []) (f := 2047) (l := 83977) (c1 := 1) (k1 := 6) (c2 := 599836) (k2 := 7274189) (v := some (.int 1)) (h1 := ph_14) rfl rfl (fun _ => rfl) ?_ (Nat.le_of_ble_eq_true rfl) (Nat.le_of_ble_eq_true rfl) ?_
    · refine px_C_of rfl ?_
      refine pr_s (pc1 := 1) (st1 := [.ref 164]) rfl (fun _ => rfl) ?_
      refine pr_s (pc1 := 2) (st1 := [.int 0, .ref 164]) rfl (fun _ => rfl) ?_
      refine pr_s (pc1 := 3) (st1 := [.ref 0, .int 0, .ref 164]) rfl (fun _ => rfl) ?_
      refine pr_s (pc1 := 4) (st1 := [.int a1, .ref 0, .int 0, .ref 164]) rfl (fun _ => rfl) ?_
      refine pr_callx (N := pm_X6_isSound) (as := [.ref 0, .int a1]) (rest := [.int 0, .ref 164]) (f := 2046) (l := 83956) (c1 := 1) (k1 := 6) (c2 := 0) (k2 := 0) (E := 11) (h1 := ph_14) (a := 19) (y1 := 3) (y2 := 1) rfl (fun ex => px_inv_hs ex rfl rfl rfl pg_0 rfl rfl rfl rfl) ?_ (Nat.le_of_ble_eq_true rfl) (Nat.le_of_ble_eq_true rfl) rfl rfl rfl rfl ?_
      · refine px_C_of rfl ?_
        refine pr_s (pc1 := 1) (st1 := [.ref 0]) rfl (fun _ => rfl) ?_
        refine pr_s (pc1 := 2) (st1 := [.int a1, .ref 0]) rfl (fun _ => rfl) ?_
        refine pr_callo (N := pm_X6_needRule) (as := [.ref 0, .int a1]) (rest := []) (f := 2045) (l := 83935) (E := 11) (h1 := ph_14) rfl (fun ex => px_inv_hs ex rfl rfl rfl pg_0 rfl rfl rfl rfl) ?_ rfl ⟨rfl, rfl⟩
        · refine px_C_of rfl ?_
          refine pr_s (pc1 := 1) (st1 := [.int a1]) rfl (fun _ => rfl) ?_
          refine pr_bf (t := 12) (off := 11) (bb := decide (a1 < 0)) (st1 := []) rfl rfl rfl rfl (pb_ltF ha1.1 (show (0 : Int32).toInt ≤ 0 by decide) (by decide)) ?_
          refine pr_s (pc1 := 5) (st1 := [.int a1]) rfl (fun _ => rfl) ?_
          refine pr_s (pc1 := 6) (st1 := [.ref 0, .int a1]) rfl (fun _ => rfl) ?_
          refine pr_getf (pc1 := 9) (v := .int 0) rfl rfl pg_0 rfl rfl ?_
          refine pr_bf (t := 23) (off := 14) (bb := decide (a1 < 0)) (st1 := []) rfl rfl rfl rfl (pb_ltF ha1.1 (show (0 : Int32).toInt ≤ 0 by decide) (by decide)) ?_
          refine pr_mh (z1 := 1) (z2 := 6) (c1 := 0) (k1 := 0) (pc1 := 22) (n := 165) (r := []) (h1 := ph_14) (es := fun n => [.inr (11, [])]) rfl (fun _ => rfl) pl_0 rfl (Nat.le_of_ble_eq_true rfl) (Nat.le_of_ble_eq_true rfl) ?_
          exact pr_e rfl (fun _ => rfl) ⟨rfl, rfl⟩
      show px_R _ _ _ _ (20, [(0, .ref 0), (1, .int a1), (2, .ref 164)], [], _) _ _ _
      refine pr_s (pc1 := 21) (st1 := [.int 1]) rfl (fun _ => rfl) ?_
      exact pr_e rfl (fun _ => rfl) ⟨rfl, rfl⟩
    show px_T _ _ _ _ (1215, [(4, .int 0), (3, .ref 164), (2, .ref 136), (1, .ref 0), (0, .retAddr 0)], [.int 1], _) _ _ _
    refine pt_s (pc1 := 1217) (lv1 := [(5, .int 1), (4, .int 0), (3, .ref 164), (2, .ref 136), (1, .ref 0), (0, .retAddr 0)]) (st1 := []) rfl rfl (fun _ => rfl) ?_
    refine pt_s (pc1 := 1218) (st1 := [.ref 136]) rfl rfl (fun _ => rfl) ?_
    refine pt_s (pc1 := 1219) (st1 := [.retAddr 0, .ref 136]) rfl rfl (fun _ => rfl) ?_
    refine pt_s (pc1 := 1221) (st1 := [.int 0, .retAddr 0, .ref 136]) rfl rfl (fun _ => rfl) ?_
    refine pt_s (pc1 := 1222) (st1 := [.int 1, .int 0, .retAddr 0, .ref 136]) rfl rfl (fun _ => rfl) ?_
    refine pt_s (pc1 := 1223) (st1 := [.int 1, .retAddr 0, .ref 136]) rfl rfl (fun _ => rfl) ?_
    refine pt_s (pc1 := 1224) (st1 := [.int a1, .ref 136]) rfl rfl (fun _ => rfl) ?_
    refine pt_callv (N := pm_X10_isSound) (as := [.ref 136, .int a1]) (rest := []) (f := 2047) (l := 83979) (c1 := 0) (k1 := 0) (c2 := 599836) (k2 := 7274189) (v := some (.int 0)) (h1 := ph_15) rfl rfl (fun ex => px_inv_hs ex rfl rfl rfl pg_20 rfl rfl rfl rfl) ?_ (Nat.le_of_ble_eq_true rfl) (Nat.le_of_ble_eq_true rfl) ?_
    · refine px_C_of rfl ?_
      refine pr_s (pc1 := 1) (st1 := [.ref 136]) rfl (fun _ => rfl) ?_
      refine pr_s (pc1 := 2) (st1 := [.int a1, .ref 136]) rfl (fun _ => rfl) ?_
      refine pr_callv (N := pm_X10_has) (as := [.ref 136, .int a1]) (rest := []) (f := 2046) (l := 83958) (c1 := 0) (k1 := 0) (c2 := 0) (k2 := 0) (v := some (.int 0)) (h1 := ph_15) rfl (fun ex => px_inv_hs ex rfl rfl rfl pg_20 rfl rfl rfl rfl) ?_ (Nat.le_of_ble_eq_true rfl) (Nat.le_of_ble_eq_true rfl) ?_
      · refine px_C_of rfl ?_
        refine pr_s (pc1 := 1) (st1 := [.ref 136]) rfl (fun _ => rfl) ?_
        refine pr_s (pc1 := 2) (st1 := [.ref 136, .ref 136]) rfl (fun _ => rfl) ?_
        refine pr_s (pc1 := 3) (st1 := [.int a1, .ref 136, .ref 136]) rfl (fun _ => rfl) ?_
        refine pr_callv (N := pm_X10_isRule) (as := [.ref 136, .int a1]) (rest := [.ref 136]) (f := 2045) (l := 83937) (c1 := 0) (k1 := 0) (c2 := 0) (k2 := 0) (v := some (.int 0)) (h1 := ph_14) rfl (fun ex => px_inv_hs ex rfl rfl rfl pg_20 rfl rfl rfl rfl) ?_ (Nat.le_of_ble_eq_true rfl) (Nat.le_of_ble_eq_true rfl) ?_
        · refine px_C_of rfl ?_
          refine pr_s (pc1 := 1) (st1 := [.int a1]) rfl (fun _ => rfl) ?_
          refine pr_s (pc1 := 2) (st1 := [.int 0, .int a1]) rfl (fun _ => rfl) ?_
          refine pr_s (pc1 := 3) (st1 := [.ref 136, .int 0, .int a1]) rfl (fun _ => rfl) ?_
          refine pr_getf (pc1 := 6) (v := .int 0) rfl rfl pg_20 rfl rfl ?_
          refine pr_s (pc1 := 7) (st1 := [.int 1, .int 0, .int 0, .int a1]) rfl (fun _ => rfl) ?_
          refine pr_s (pc1 := 8) (st1 := [.int (-1), .int 0, .int a1]) rfl (fun _ => rfl) ?_
          refine pr_callv (N := pm_X10_is) (as := [.int a1, .int 0, .int (-1)]) (rest := []) (f := 2044) (l := 83915) (c1 := 0) (k1 := 0) (c2 := 0) (k2 := 0) (v := some (.int 0)) (h1 := ph_14) rfl (fun _ => rfl) ?_ (Nat.le_of_ble_eq_true rfl) (Nat.le_of_ble_eq_true rfl) ?_
          · refine px_C_of rfl ?_
            refine pr_s (pc1 := 1) (st1 := [.int a1]) rfl (fun _ => rfl) ?_
            refine pr_s (pc1 := 2) (st1 := [.int 0, .int a1]) rfl (fun _ => rfl) ?_
            refine pr_bf (t := 14) (off := 12) (bb := decide (a1 < 0)) (st1 := []) rfl rfl rfl rfl (pb_ltF ha1.1 (show (0 : Int32).toInt ≤ 0 by decide) (by decide)) ?_
            refine pr_s (pc1 := 6) (st1 := [.int a1]) rfl (fun _ => rfl) ?_
            refine pr_s (pc1 := 7) (st1 := [.int (-1), .int a1]) rfl (fun _ => rfl) ?_
            refine pr_bt (t := 14) (off := 7) (bb := decide (((-1) : Int32) < a1)) (st1 := []) rfl rfl rfl rfl (pb_ltT (show ((-1) : Int32).toInt ≤ (-1) by decide) ha1.1 (by decide)) ?_
            refine pr_s (pc1 := 15) (st1 := [.int 0]) rfl (fun _ => rfl) ?_
            exact pr_e rfl (fun _ => rfl) ⟨rfl, rfl⟩
          show px_R _ _ _ _ (11, [(0, .ref 136), (1, .int a1)], [.int 0], _) _ _ _
          exact pr_e rfl (fun _ => rfl) ⟨rfl, rfl⟩
        show px_R _ _ _ _ (6, [(0, .ref 136), (1, .int a1)], [.int 0, .ref 136], _) _ _ _
        refine pr_bt (t := 13) (off := 7) (bb := decide ((0 : Int32) = 0)) (st1 := [.ref 136]) rfl rfl rfl rfl (by decide) ?_
        refine pr_s (pc1 := 14) (st1 := [.int 1, .ref 136]) rfl (fun _ => rfl) ?_
        refine pr_putf (pc1 := 17) (h1 := ph_15) rfl rfl pg_20 rfl rfl rfl rfl rfl rfl rfl ?_
        refine pr_s (pc1 := 18) (st1 := [.ref 136]) rfl (fun _ => rfl) ?_
        refine pr_getf (pc1 := 21) (v := .int 1) rfl rfl pg_21 rfl rfl ?_
        refine pr_bt (t := 28) (off := 7) (bb := !decide ((1 : Int32) = 0)) (st1 := []) rfl rfl rfl rfl (px_not_t (by decide)) ?_
        refine pr_s (pc1 := 29) (st1 := [.int 0]) rfl (fun _ => rfl) ?_
        exact pr_e rfl (fun _ => rfl) ⟨rfl, rfl⟩
      show px_R _ _ _ _ (5, [(0, .ref 136), (1, .int a1)], [.int 0], _) _ _ _
      refine pr_bt (t := 24) (off := 19) (bb := decide ((0 : Int32) = 0)) (st1 := []) rfl rfl rfl rfl (by decide) ?_
      refine pr_s (pc1 := 25) (st1 := [.int 0]) rfl (fun _ => rfl) ?_
      exact pr_e rfl (fun _ => rfl) ⟨rfl, rfl⟩
    show px_T _ _ _ _ (1227, [(5, .int 1), (4, .int 0), (3, .ref 164), (2, .ref 136), (1, .ref 0), (0, .retAddr 0)], [.int 0], _) _ _ _
    refine pt_s (pc1 := 1229) (lv1 := [(6, .int 0), (5, .int 1), (4, .int 0), (3, .ref 164), (2, .ref 136), (1, .ref 0), (0, .retAddr 0)]) (st1 := []) rfl rfl (fun _ => rfl) ?_
    refine pt_s (pc1 := 1230) (st1 := [.ref 136]) rfl rfl (fun _ => rfl) ?_
    refine pt_callv (N := pm_X10_thrown) (as := [.ref 136]) (rest := []) (f := 2047) (l := 83980) (c1 := 0) (k1 := 0) (c2 := 599836) (k2 := 7274189) (v := some (.int 1)) (h1 := ph_15) rfl rfl (fun ex => px_inv_hs ex rfl rfl rfl pg_21 rfl rfl rfl rfl) ?_ (Nat.le_of_ble_eq_true rfl) (Nat.le_of_ble_eq_true rfl) ?_
    · refine px_C_of rfl ?_
      refine pr_s (pc1 := 1) (st1 := [.ref 136]) rfl (fun _ => rfl) ?_
      refine pr_getf (pc1 := 4) (v := .int 1) rfl rfl pg_21 rfl rfl ?_
      exact pr_e rfl (fun _ => rfl) ⟨rfl, rfl⟩
    show px_T _ _ _ _ (1233, [(6, .int 0), (5, .int 1), (4, .int 0), (3, .ref 164), (2, .ref 136), (1, .ref 0), (0, .retAddr 0)], [.int 1], _) _ _ _
    refine pt_s (pc1 := 1235) (st1 := [.int 1, .int 1]) rfl rfl (fun _ => rfl) ?_
    refine pt_bt (t := 1240) (off := 5) (bb := decide ((1 : Int32) = 1)) (st1 := []) rfl rfl rfl rfl rfl (by decide) ?_
    refine pt_s (pc1 := 1242) (st1 := [.int 1]) rfl rfl (fun _ => rfl) ?_
    refine pt_bt (t := 1264) (off := 22) (bb := !decide ((1 : Int32) = 0)) (st1 := []) rfl rfl rfl rfl rfl (px_not_t (by decide)) ?_
    refine pt_s (pc1 := 2771) (st1 := []) rfl rfl (fun _ => rfl) ?_
    refine pt_s (pc1 := 2774) (lv1 := [(4, .int 6), (6, .int 0), (5, .int 1), (3, .ref 164), (2, .ref 136), (1, .ref 0), (0, .retAddr 0)]) (st1 := []) rfl rfl (fun _ => rfl) ?_
    refine pt_s (pc1 := 23) (st1 := []) rfl rfl (fun _ => rfl) ?_
    refine pt_s (pc1 := 25) (st1 := [.int 6]) rfl rfl (fun _ => rfl) ?_
    refine pt_s (pc1 := 26) (st1 := [.retAddr 0, .int 6]) rfl rfl (fun _ => rfl) ?_
    refine pt_s (pc1 := 27) (st1 := [.int 6, .int 6]) rfl rfl (fun _ => rfl) ?_
    refine pt_s (pc1 := 29) (st1 := [.int 6, .int 6, .int 6]) rfl rfl (fun _ => rfl) ?_
    refine pt_s (pc1 := 30) (st1 := [.int 0, .int 6]) rfl rfl (fun _ => rfl) ?_
    refine pt_bt (t := 2777) (off := 2747) (bb := decide ((0 : Int32) < (6 : Int32))) (st1 := []) rfl rfl rfl rfl rfl (by decide) ?_
    refine pt_s (pc1 := 2778) (st1 := [.int 1]) rfl rfl (fun _ => rfl) ?_
    exact pt_e rfl ⟨rfl, (rfl : px_ins pm_law 2778 = some (.ireturn, 1))⟩
set_option maxRecDepth 100000 in
set_option maxHeartbeats 40000000 in
theorem px_op_15 (a0 a1 a2 a3 a4 a5 : Int32) : px_T (some [a0, a1, a2, a3, a4, a5]) pm_law 2048 84000 (40, [(4, .int 0), (3, .ref 164), (2, .ref 136), (1, .ref 0), (0, .retAddr 0)], [.int 15], px_hs) 599837 7274195 (fun s1 => s1.2.2.1 = [.int 1] ∧ px_ins pm_law s1.1 = some (.ireturn, 1)) := by
  have ha1 : (-2147483648) ≤ a1.toInt ∧ a1.toInt ≤ 2147483647 := ⟨Int32.le_toInt a1, Int32.toInt_le a1⟩
  by_cases hs : a1.toInt < 0
  · have ha1 : (-2147483648) ≤ a1.toInt ∧ a1.toInt ≤ (-1) := ⟨ha1.1, by omega⟩
    refine pt_s (pc1 := 1267) (st1 := []) rfl rfl (fun _ => rfl) ?_
    refine pt_s (pc1 := 1268) (st1 := [.ref 0]) rfl rfl (fun _ => rfl) ?_
    refine pt_s (pc1 := 1269) (st1 := [.retAddr 0, .ref 0]) rfl rfl (fun _ => rfl) ?_
    refine pt_s (pc1 := 1271) (st1 := [.int 0, .retAddr 0, .ref 0]) rfl rfl (fun _ => rfl) ?_
    refine pt_s (pc1 := 1272) (st1 := [.int 1, .int 0, .retAddr 0, .ref 0]) rfl rfl (fun _ => rfl) ?_
    refine pt_s (pc1 := 1273) (st1 := [.int 1, .retAddr 0, .ref 0]) rfl rfl (fun _ => rfl) ?_
    refine pt_s (pc1 := 1274) (st1 := [.int a1, .ref 0]) rfl rfl (fun _ => rfl) ?_
    refine pt_s (pc1 := 1275) (st1 := [.ref 164, .int a1, .ref 0]) rfl rfl (fun _ => rfl) ?_
    refine pt_callv (N := pm_L_urgency) (as := [.ref 0, .int a1, .ref 164]) (rest := []) (f := 2047) (l := 83977) (c1 := 1) (k1 := 6) (c2 := 599836) (k2 := 7274189) (v := some (.int 1)) (h1 := ph_14) rfl rfl (fun _ => rfl) ?_ (Nat.le_of_ble_eq_true rfl) (Nat.le_of_ble_eq_true rfl) ?_
    · refine px_C_of rfl ?_
      refine pr_s (pc1 := 1) (st1 := [.ref 164]) rfl (fun _ => rfl) ?_
      refine pr_s (pc1 := 2) (st1 := [.int 0, .ref 164]) rfl (fun _ => rfl) ?_
      refine pr_s (pc1 := 3) (st1 := [.ref 0, .int 0, .ref 164]) rfl (fun _ => rfl) ?_
      refine pr_s (pc1 := 4) (st1 := [.int a1, .ref 0, .int 0, .ref 164]) rfl (fun _ => rfl) ?_
      refine pr_callx (N := pm_X6_urgency) (as := [.ref 0, .int a1]) (rest := [.int 0, .ref 164]) (f := 2046) (l := 83956) (c1 := 1) (k1 := 6) (c2 := 0) (k2 := 0) (E := 11) (h1 := ph_14) (a := 12) (y1 := 3) (y2 := 1) rfl (fun ex => px_inv_hs ex rfl rfl rfl pg_0 rfl rfl rfl rfl) ?_ (Nat.le_of_ble_eq_true rfl) (Nat.le_of_ble_eq_true rfl) rfl rfl rfl rfl ?_
      · refine px_C_of rfl ?_
        refine pr_s (pc1 := 1) (st1 := [.ref 0]) rfl (fun _ => rfl) ?_
        refine pr_s (pc1 := 2) (st1 := [.int a1, .ref 0]) rfl (fun _ => rfl) ?_
        refine pr_callo (N := pm_X6_needRule) (as := [.ref 0, .int a1]) (rest := []) (f := 2045) (l := 83935) (E := 11) (h1 := ph_14) rfl (fun ex => px_inv_hs ex rfl rfl rfl pg_0 rfl rfl rfl rfl) ?_ rfl ⟨rfl, rfl⟩
        · refine px_C_of rfl ?_
          refine pr_s (pc1 := 1) (st1 := [.int a1]) rfl (fun _ => rfl) ?_
          refine pr_bt (t := 12) (off := 11) (bb := decide (a1 < 0)) (st1 := []) rfl rfl rfl rfl (pb_ltT ha1.2 (show 0 ≤ (0 : Int32).toInt by decide) (by decide)) ?_
          refine pr_mh (z1 := 1) (z2 := 6) (c1 := 0) (k1 := 0) (pc1 := 22) (n := 165) (r := []) (h1 := ph_14) (es := fun n => [.inr (11, [])]) rfl (fun _ => rfl) pl_0 rfl (Nat.le_of_ble_eq_true rfl) (Nat.le_of_ble_eq_true rfl) ?_
          exact pr_e rfl (fun _ => rfl) ⟨rfl, rfl⟩
      show px_R _ _ _ _ (13, [(0, .ref 0), (1, .int a1), (2, .ref 164)], [], _) _ _ _
      refine pr_s (pc1 := 14) (st1 := [.int 1]) rfl (fun _ => rfl) ?_
      exact pr_e rfl (fun _ => rfl) ⟨rfl, rfl⟩
    show px_T _ _ _ _ (1278, [(4, .int 0), (3, .ref 164), (2, .ref 136), (1, .ref 0), (0, .retAddr 0)], [.int 1], _) _ _ _
    refine pt_s (pc1 := 1280) (lv1 := [(5, .int 1), (4, .int 0), (3, .ref 164), (2, .ref 136), (1, .ref 0), (0, .retAddr 0)]) (st1 := []) rfl rfl (fun _ => rfl) ?_
    refine pt_s (pc1 := 1281) (st1 := [.ref 136]) rfl rfl (fun _ => rfl) ?_
    refine pt_s (pc1 := 1282) (st1 := [.retAddr 0, .ref 136]) rfl rfl (fun _ => rfl) ?_
    refine pt_s (pc1 := 1284) (st1 := [.int 0, .retAddr 0, .ref 136]) rfl rfl (fun _ => rfl) ?_
    refine pt_s (pc1 := 1285) (st1 := [.int 1, .int 0, .retAddr 0, .ref 136]) rfl rfl (fun _ => rfl) ?_
    refine pt_s (pc1 := 1286) (st1 := [.int 1, .retAddr 0, .ref 136]) rfl rfl (fun _ => rfl) ?_
    refine pt_s (pc1 := 1287) (st1 := [.int a1, .ref 136]) rfl rfl (fun _ => rfl) ?_
    refine pt_callv (N := pm_X10_urgency) (as := [.ref 136, .int a1]) (rest := []) (f := 2047) (l := 83979) (c1 := 0) (k1 := 0) (c2 := 599836) (k2 := 7274189) (v := some (.int 0)) (h1 := ph_15) rfl rfl (fun ex => px_inv_hs ex rfl rfl rfl pg_20 rfl rfl rfl rfl) ?_ (Nat.le_of_ble_eq_true rfl) (Nat.le_of_ble_eq_true rfl) ?_
    · refine px_C_of rfl ?_
      refine pr_s (pc1 := 1) (st1 := [.ref 136]) rfl (fun _ => rfl) ?_
      refine pr_s (pc1 := 2) (st1 := [.int a1, .ref 136]) rfl (fun _ => rfl) ?_
      refine pr_callv (N := pm_X10_has) (as := [.ref 136, .int a1]) (rest := []) (f := 2046) (l := 83958) (c1 := 0) (k1 := 0) (c2 := 0) (k2 := 0) (v := some (.int 0)) (h1 := ph_15) rfl (fun ex => px_inv_hs ex rfl rfl rfl pg_20 rfl rfl rfl rfl) ?_ (Nat.le_of_ble_eq_true rfl) (Nat.le_of_ble_eq_true rfl) ?_
      · refine px_C_of rfl ?_
        refine pr_s (pc1 := 1) (st1 := [.ref 136]) rfl (fun _ => rfl) ?_
        refine pr_s (pc1 := 2) (st1 := [.ref 136, .ref 136]) rfl (fun _ => rfl) ?_
        refine pr_s (pc1 := 3) (st1 := [.int a1, .ref 136, .ref 136]) rfl (fun _ => rfl) ?_
        refine pr_callv (N := pm_X10_isRule) (as := [.ref 136, .int a1]) (rest := [.ref 136]) (f := 2045) (l := 83937) (c1 := 0) (k1 := 0) (c2 := 0) (k2 := 0) (v := some (.int 0)) (h1 := ph_14) rfl (fun ex => px_inv_hs ex rfl rfl rfl pg_20 rfl rfl rfl rfl) ?_ (Nat.le_of_ble_eq_true rfl) (Nat.le_of_ble_eq_true rfl) ?_
        · refine px_C_of rfl ?_
          refine pr_s (pc1 := 1) (st1 := [.int a1]) rfl (fun _ => rfl) ?_
          refine pr_s (pc1 := 2) (st1 := [.int 0, .int a1]) rfl (fun _ => rfl) ?_
          refine pr_s (pc1 := 3) (st1 := [.ref 136, .int 0, .int a1]) rfl (fun _ => rfl) ?_
          refine pr_getf (pc1 := 6) (v := .int 0) rfl rfl pg_20 rfl rfl ?_
          refine pr_s (pc1 := 7) (st1 := [.int 1, .int 0, .int 0, .int a1]) rfl (fun _ => rfl) ?_
          refine pr_s (pc1 := 8) (st1 := [.int (-1), .int 0, .int a1]) rfl (fun _ => rfl) ?_
          refine pr_callv (N := pm_X10_is) (as := [.int a1, .int 0, .int (-1)]) (rest := []) (f := 2044) (l := 83915) (c1 := 0) (k1 := 0) (c2 := 0) (k2 := 0) (v := some (.int 0)) (h1 := ph_14) rfl (fun _ => rfl) ?_ (Nat.le_of_ble_eq_true rfl) (Nat.le_of_ble_eq_true rfl) ?_
          · refine px_C_of rfl ?_
            refine pr_s (pc1 := 1) (st1 := [.int a1]) rfl (fun _ => rfl) ?_
            refine pr_s (pc1 := 2) (st1 := [.int 0, .int a1]) rfl (fun _ => rfl) ?_
            refine pr_bt (t := 14) (off := 12) (bb := decide (a1 < 0)) (st1 := []) rfl rfl rfl rfl (pb_ltT ha1.2 (show 0 ≤ (0 : Int32).toInt by decide) (by decide)) ?_
            refine pr_s (pc1 := 15) (st1 := [.int 0]) rfl (fun _ => rfl) ?_
            exact pr_e rfl (fun _ => rfl) ⟨rfl, rfl⟩
          show px_R _ _ _ _ (11, [(0, .ref 136), (1, .int a1)], [.int 0], _) _ _ _
          exact pr_e rfl (fun _ => rfl) ⟨rfl, rfl⟩
        show px_R _ _ _ _ (6, [(0, .ref 136), (1, .int a1)], [.int 0, .ref 136], _) _ _ _
        refine pr_bt (t := 13) (off := 7) (bb := decide ((0 : Int32) = 0)) (st1 := [.ref 136]) rfl rfl rfl rfl (by decide) ?_
        refine pr_s (pc1 := 14) (st1 := [.int 1, .ref 136]) rfl (fun _ => rfl) ?_
        refine pr_putf (pc1 := 17) (h1 := ph_15) rfl rfl pg_20 rfl rfl rfl rfl rfl rfl rfl ?_
        refine pr_s (pc1 := 18) (st1 := [.ref 136]) rfl (fun _ => rfl) ?_
        refine pr_getf (pc1 := 21) (v := .int 1) rfl rfl pg_21 rfl rfl ?_
        refine pr_bt (t := 28) (off := 7) (bb := !decide ((1 : Int32) = 0)) (st1 := []) rfl rfl rfl rfl (px_not_t (by decide)) ?_
        refine pr_s (pc1 := 29) (st1 := [.int 0]) rfl (fun _ => rfl) ?_
        exact pr_e rfl (fun _ => rfl) ⟨rfl, rfl⟩
      show px_R _ _ _ _ (5, [(0, .ref 136), (1, .int a1)], [.int 0], _) _ _ _
      refine pr_bt (t := 20) (off := 15) (bb := decide ((0 : Int32) = 0)) (st1 := []) rfl rfl rfl rfl (by decide) ?_
      refine pr_s (pc1 := 21) (st1 := [.int 0]) rfl (fun _ => rfl) ?_
      exact pr_e rfl (fun _ => rfl) ⟨rfl, rfl⟩
    show px_T _ _ _ _ (1290, [(5, .int 1), (4, .int 0), (3, .ref 164), (2, .ref 136), (1, .ref 0), (0, .retAddr 0)], [.int 0], _) _ _ _
    refine pt_s (pc1 := 1292) (lv1 := [(6, .int 0), (5, .int 1), (4, .int 0), (3, .ref 164), (2, .ref 136), (1, .ref 0), (0, .retAddr 0)]) (st1 := []) rfl rfl (fun _ => rfl) ?_
    refine pt_s (pc1 := 1293) (st1 := [.ref 136]) rfl rfl (fun _ => rfl) ?_
    refine pt_callv (N := pm_X10_thrown) (as := [.ref 136]) (rest := []) (f := 2047) (l := 83980) (c1 := 0) (k1 := 0) (c2 := 599836) (k2 := 7274189) (v := some (.int 1)) (h1 := ph_15) rfl rfl (fun ex => px_inv_hs ex rfl rfl rfl pg_21 rfl rfl rfl rfl) ?_ (Nat.le_of_ble_eq_true rfl) (Nat.le_of_ble_eq_true rfl) ?_
    · refine px_C_of rfl ?_
      refine pr_s (pc1 := 1) (st1 := [.ref 136]) rfl (fun _ => rfl) ?_
      refine pr_getf (pc1 := 4) (v := .int 1) rfl rfl pg_21 rfl rfl ?_
      exact pr_e rfl (fun _ => rfl) ⟨rfl, rfl⟩
    show px_T _ _ _ _ (1296, [(6, .int 0), (5, .int 1), (4, .int 0), (3, .ref 164), (2, .ref 136), (1, .ref 0), (0, .retAddr 0)], [.int 1], _) _ _ _
    refine pt_s (pc1 := 1298) (st1 := [.int 1, .int 1]) rfl rfl (fun _ => rfl) ?_
    refine pt_bt (t := 1303) (off := 5) (bb := decide ((1 : Int32) = 1)) (st1 := []) rfl rfl rfl rfl rfl (by decide) ?_
    refine pt_s (pc1 := 1305) (st1 := [.int 1]) rfl rfl (fun _ => rfl) ?_
    refine pt_bt (t := 1320) (off := 15) (bb := !decide ((1 : Int32) = 0)) (st1 := []) rfl rfl rfl rfl rfl (px_not_t (by decide)) ?_
    refine pt_s (pc1 := 2771) (st1 := []) rfl rfl (fun _ => rfl) ?_
    refine pt_s (pc1 := 2774) (lv1 := [(4, .int 6), (6, .int 0), (5, .int 1), (3, .ref 164), (2, .ref 136), (1, .ref 0), (0, .retAddr 0)]) (st1 := []) rfl rfl (fun _ => rfl) ?_
    refine pt_s (pc1 := 23) (st1 := []) rfl rfl (fun _ => rfl) ?_
    refine pt_s (pc1 := 25) (st1 := [.int 6]) rfl rfl (fun _ => rfl) ?_
    refine pt_s (pc1 := 26) (st1 := [.retAddr 0, .int 6]) rfl rfl (fun _ => rfl) ?_
    refine pt_s (pc1 := 27) (st1 := [.int 6, .int 6]) rfl rfl (fun _ => rfl) ?_
    refine pt_s (pc1 := 29) (st1 := [.int 6, .int 6, .int 6]) rfl rfl (fun _ => rfl) ?_
    refine pt_s (pc1 := 30) (st1 := [.int 0, .int 6]) rfl rfl (fun _ => rfl) ?_
    refine pt_bt (t := 2777) (off := 2747) (bb := decide ((0 : Int32) < (6 : Int32))) (st1 := []) rfl rfl rfl rfl rfl (by decide) ?_
    refine pt_s (pc1 := 2778) (st1 := [.int 1]) rfl rfl (fun _ => rfl) ?_
    exact pt_e rfl ⟨rfl, (rfl : px_ins pm_law 2778 = some (.ireturn, 1))⟩
  · have ha1 : 0 ≤ a1.toInt ∧ a1.toInt ≤ 2147483647 := ⟨by omega, ha1.2⟩
    refine pt_s (pc1 := 1267) (st1 := []) rfl rfl (fun _ => rfl) ?_
    refine pt_s (pc1 := 1268) (st1 := [.ref 0]) rfl rfl (fun _ => rfl) ?_
    refine pt_s (pc1 := 1269) (st1 := [.retAddr 0, .ref 0]) rfl rfl (fun _ => rfl) ?_
    refine pt_s (pc1 := 1271) (st1 := [.int 0, .retAddr 0, .ref 0]) rfl rfl (fun _ => rfl) ?_
    refine pt_s (pc1 := 1272) (st1 := [.int 1, .int 0, .retAddr 0, .ref 0]) rfl rfl (fun _ => rfl) ?_
    refine pt_s (pc1 := 1273) (st1 := [.int 1, .retAddr 0, .ref 0]) rfl rfl (fun _ => rfl) ?_
    refine pt_s (pc1 := 1274) (st1 := [.int a1, .ref 0]) rfl rfl (fun _ => rfl) ?_
    refine pt_s (pc1 := 1275) (st1 := [.ref 164, .int a1, .ref 0]) rfl rfl (fun _ => rfl) ?_
    refine pt_callv (N := pm_L_urgency) (as := [.ref 0, .int a1, .ref 164]) (rest := []) (f := 2047) (l := 83977) (c1 := 1) (k1 := 6) (c2 := 599836) (k2 := 7274189) (v := some (.int 1)) (h1 := ph_14) rfl rfl (fun _ => rfl) ?_ (Nat.le_of_ble_eq_true rfl) (Nat.le_of_ble_eq_true rfl) ?_
    · refine px_C_of rfl ?_
      refine pr_s (pc1 := 1) (st1 := [.ref 164]) rfl (fun _ => rfl) ?_
      refine pr_s (pc1 := 2) (st1 := [.int 0, .ref 164]) rfl (fun _ => rfl) ?_
      refine pr_s (pc1 := 3) (st1 := [.ref 0, .int 0, .ref 164]) rfl (fun _ => rfl) ?_
      refine pr_s (pc1 := 4) (st1 := [.int a1, .ref 0, .int 0, .ref 164]) rfl (fun _ => rfl) ?_
      refine pr_callx (N := pm_X6_urgency) (as := [.ref 0, .int a1]) (rest := [.int 0, .ref 164]) (f := 2046) (l := 83956) (c1 := 1) (k1 := 6) (c2 := 0) (k2 := 0) (E := 11) (h1 := ph_14) (a := 12) (y1 := 3) (y2 := 1) rfl (fun ex => px_inv_hs ex rfl rfl rfl pg_0 rfl rfl rfl rfl) ?_ (Nat.le_of_ble_eq_true rfl) (Nat.le_of_ble_eq_true rfl) rfl rfl rfl rfl ?_
      · refine px_C_of rfl ?_
        refine pr_s (pc1 := 1) (st1 := [.ref 0]) rfl (fun _ => rfl) ?_
        refine pr_s (pc1 := 2) (st1 := [.int a1, .ref 0]) rfl (fun _ => rfl) ?_
        refine pr_callo (N := pm_X6_needRule) (as := [.ref 0, .int a1]) (rest := []) (f := 2045) (l := 83935) (E := 11) (h1 := ph_14) rfl (fun ex => px_inv_hs ex rfl rfl rfl pg_0 rfl rfl rfl rfl) ?_ rfl ⟨rfl, rfl⟩
        · refine px_C_of rfl ?_
          refine pr_s (pc1 := 1) (st1 := [.int a1]) rfl (fun _ => rfl) ?_
          refine pr_bf (t := 12) (off := 11) (bb := decide (a1 < 0)) (st1 := []) rfl rfl rfl rfl (pb_ltF ha1.1 (show (0 : Int32).toInt ≤ 0 by decide) (by decide)) ?_
          refine pr_s (pc1 := 5) (st1 := [.int a1]) rfl (fun _ => rfl) ?_
          refine pr_s (pc1 := 6) (st1 := [.ref 0, .int a1]) rfl (fun _ => rfl) ?_
          refine pr_getf (pc1 := 9) (v := .int 0) rfl rfl pg_0 rfl rfl ?_
          refine pr_bf (t := 23) (off := 14) (bb := decide (a1 < 0)) (st1 := []) rfl rfl rfl rfl (pb_ltF ha1.1 (show (0 : Int32).toInt ≤ 0 by decide) (by decide)) ?_
          refine pr_mh (z1 := 1) (z2 := 6) (c1 := 0) (k1 := 0) (pc1 := 22) (n := 165) (r := []) (h1 := ph_14) (es := fun n => [.inr (11, [])]) rfl (fun _ => rfl) pl_0 rfl (Nat.le_of_ble_eq_true rfl) (Nat.le_of_ble_eq_true rfl) ?_
          exact pr_e rfl (fun _ => rfl) ⟨rfl, rfl⟩
      show px_R _ _ _ _ (13, [(0, .ref 0), (1, .int a1), (2, .ref 164)], [], _) _ _ _
      refine pr_s (pc1 := 14) (st1 := [.int 1]) rfl (fun _ => rfl) ?_
      exact pr_e rfl (fun _ => rfl) ⟨rfl, rfl⟩
    show px_T _ _ _ _ (1278, [(4, .int 0), (3, .ref 164), (2, .ref 136), (1, .ref 0), (0, .retAddr 0)], [.int 1], _) _ _ _
    refine pt_s (pc1 := 1280) (lv1 := [(5, .int 1), (4, .int 0), (3, .ref 164), (2, .ref 136), (1, .ref 0), (0, .retAddr 0)]) (st1 := []) rfl rfl (fun _ => rfl) ?_
    refine pt_s (pc1 := 1281) (st1 := [.ref 136]) rfl rfl (fun _ => rfl) ?_
    refine pt_s (pc1 := 1282) (st1 := [.retAddr 0, .ref 136]) rfl rfl (fun _ => rfl) ?_
    refine pt_s (pc1 := 1284) (st1 := [.int 0, .retAddr 0, .ref 136]) rfl rfl (fun _ => rfl) ?_
    refine pt_s (pc1 := 1285) (st1 := [.int 1, .int 0, .retAddr 0, .ref 136]) rfl rfl (fun _ => rfl) ?_
    refine pt_s (pc1 := 1286) (st1 := [.int 1, .retAddr 0, .ref 136]) rfl rfl (fun _ => rfl) ?_
    refine pt_s (pc1 := 1287) (st1 := [.int a1, .ref 136]) rfl rfl (fun _ => rfl) ?_
    refine pt_callv (N := pm_X10_urgency) (as := [.ref 136, .int a1]) (rest := []) (f := 2047) (l := 83979) (c1 := 0) (k1 := 0) (c2 := 599836) (k2 := 7274189) (v := some (.int 0)) (h1 := ph_15) rfl rfl (fun ex => px_inv_hs ex rfl rfl rfl pg_20 rfl rfl rfl rfl) ?_ (Nat.le_of_ble_eq_true rfl) (Nat.le_of_ble_eq_true rfl) ?_
    · refine px_C_of rfl ?_
      refine pr_s (pc1 := 1) (st1 := [.ref 136]) rfl (fun _ => rfl) ?_
      refine pr_s (pc1 := 2) (st1 := [.int a1, .ref 136]) rfl (fun _ => rfl) ?_
      refine pr_callv (N := pm_X10_has) (as := [.ref 136, .int a1]) (rest := []) (f := 2046) (l := 83958) (c1 := 0) (k1 := 0) (c2 := 0) (k2 := 0) (v := some (.int 0)) (h1 := ph_15) rfl (fun ex => px_inv_hs ex rfl rfl rfl pg_20 rfl rfl rfl rfl) ?_ (Nat.le_of_ble_eq_true rfl) (Nat.le_of_ble_eq_true rfl) ?_
      · refine px_C_of rfl ?_
        refine pr_s (pc1 := 1) (st1 := [.ref 136]) rfl (fun _ => rfl) ?_
        refine pr_s (pc1 := 2) (st1 := [.ref 136, .ref 136]) rfl (fun _ => rfl) ?_
        refine pr_s (pc1 := 3) (st1 := [.int a1, .ref 136, .ref 136]) rfl (fun _ => rfl) ?_
        refine pr_callv (N := pm_X10_isRule) (as := [.ref 136, .int a1]) (rest := [.ref 136]) (f := 2045) (l := 83937) (c1 := 0) (k1 := 0) (c2 := 0) (k2 := 0) (v := some (.int 0)) (h1 := ph_14) rfl (fun ex => px_inv_hs ex rfl rfl rfl pg_20 rfl rfl rfl rfl) ?_ (Nat.le_of_ble_eq_true rfl) (Nat.le_of_ble_eq_true rfl) ?_
        · refine px_C_of rfl ?_
          refine pr_s (pc1 := 1) (st1 := [.int a1]) rfl (fun _ => rfl) ?_
          refine pr_s (pc1 := 2) (st1 := [.int 0, .int a1]) rfl (fun _ => rfl) ?_
          refine pr_s (pc1 := 3) (st1 := [.ref 136, .int 0, .int a1]) rfl (fun _ => rfl) ?_
          refine pr_getf (pc1 := 6) (v := .int 0) rfl rfl pg_20 rfl rfl ?_
          refine pr_s (pc1 := 7) (st1 := [.int 1, .int 0, .int 0, .int a1]) rfl (fun _ => rfl) ?_
          refine pr_s (pc1 := 8) (st1 := [.int (-1), .int 0, .int a1]) rfl (fun _ => rfl) ?_
          refine pr_callv (N := pm_X10_is) (as := [.int a1, .int 0, .int (-1)]) (rest := []) (f := 2044) (l := 83915) (c1 := 0) (k1 := 0) (c2 := 0) (k2 := 0) (v := some (.int 0)) (h1 := ph_14) rfl (fun _ => rfl) ?_ (Nat.le_of_ble_eq_true rfl) (Nat.le_of_ble_eq_true rfl) ?_
          · refine px_C_of rfl ?_
            refine pr_s (pc1 := 1) (st1 := [.int a1]) rfl (fun _ => rfl) ?_
            refine pr_s (pc1 := 2) (st1 := [.int 0, .int a1]) rfl (fun _ => rfl) ?_
            refine pr_bf (t := 14) (off := 12) (bb := decide (a1 < 0)) (st1 := []) rfl rfl rfl rfl (pb_ltF ha1.1 (show (0 : Int32).toInt ≤ 0 by decide) (by decide)) ?_
            refine pr_s (pc1 := 6) (st1 := [.int a1]) rfl (fun _ => rfl) ?_
            refine pr_s (pc1 := 7) (st1 := [.int (-1), .int a1]) rfl (fun _ => rfl) ?_
            refine pr_bt (t := 14) (off := 7) (bb := decide (((-1) : Int32) < a1)) (st1 := []) rfl rfl rfl rfl (pb_ltT (show ((-1) : Int32).toInt ≤ (-1) by decide) ha1.1 (by decide)) ?_
            refine pr_s (pc1 := 15) (st1 := [.int 0]) rfl (fun _ => rfl) ?_
            exact pr_e rfl (fun _ => rfl) ⟨rfl, rfl⟩
          show px_R _ _ _ _ (11, [(0, .ref 136), (1, .int a1)], [.int 0], _) _ _ _
          exact pr_e rfl (fun _ => rfl) ⟨rfl, rfl⟩
        show px_R _ _ _ _ (6, [(0, .ref 136), (1, .int a1)], [.int 0, .ref 136], _) _ _ _
        refine pr_bt (t := 13) (off := 7) (bb := decide ((0 : Int32) = 0)) (st1 := [.ref 136]) rfl rfl rfl rfl (by decide) ?_
        refine pr_s (pc1 := 14) (st1 := [.int 1, .ref 136]) rfl (fun _ => rfl) ?_
        refine pr_putf (pc1 := 17) (h1 := ph_15) rfl rfl pg_20 rfl rfl rfl rfl rfl rfl rfl ?_
        refine pr_s (pc1 := 18) (st1 := [.ref 136]) rfl (fun _ => rfl) ?_
        refine pr_getf (pc1 := 21) (v := .int 1) rfl rfl pg_21 rfl rfl ?_
        refine pr_bt (t := 28) (off := 7) (bb := !decide ((1 : Int32) = 0)) (st1 := []) rfl rfl rfl rfl (px_not_t (by decide)) ?_
        refine pr_s (pc1 := 29) (st1 := [.int 0]) rfl (fun _ => rfl) ?_
        exact pr_e rfl (fun _ => rfl) ⟨rfl, rfl⟩
      show px_R _ _ _ _ (5, [(0, .ref 136), (1, .int a1)], [.int 0], _) _ _ _
      refine pr_bt (t := 20) (off := 15) (bb := decide ((0 : Int32) = 0)) (st1 := []) rfl rfl rfl rfl (by decide) ?_
      refine pr_s (pc1 := 21) (st1 := [.int 0]) rfl (fun _ => rfl) ?_
      exact pr_e rfl (fun _ => rfl) ⟨rfl, rfl⟩
    show px_T _ _ _ _ (1290, [(5, .int 1), (4, .int 0), (3, .ref 164), (2, .ref 136), (1, .ref 0), (0, .retAddr 0)], [.int 0], _) _ _ _
    refine pt_s (pc1 := 1292) (lv1 := [(6, .int 0), (5, .int 1), (4, .int 0), (3, .ref 164), (2, .ref 136), (1, .ref 0), (0, .retAddr 0)]) (st1 := []) rfl rfl (fun _ => rfl) ?_
    refine pt_s (pc1 := 1293) (st1 := [.ref 136]) rfl rfl (fun _ => rfl) ?_
    refine pt_callv (N := pm_X10_thrown) (as := [.ref 136]) (rest := []) (f := 2047) (l := 83980) (c1 := 0) (k1 := 0) (c2 := 599836) (k2 := 7274189) (v := some (.int 1)) (h1 := ph_15) rfl rfl (fun ex => px_inv_hs ex rfl rfl rfl pg_21 rfl rfl rfl rfl) ?_ (Nat.le_of_ble_eq_true rfl) (Nat.le_of_ble_eq_true rfl) ?_
    · refine px_C_of rfl ?_
      refine pr_s (pc1 := 1) (st1 := [.ref 136]) rfl (fun _ => rfl) ?_
      refine pr_getf (pc1 := 4) (v := .int 1) rfl rfl pg_21 rfl rfl ?_
      exact pr_e rfl (fun _ => rfl) ⟨rfl, rfl⟩
    show px_T _ _ _ _ (1296, [(6, .int 0), (5, .int 1), (4, .int 0), (3, .ref 164), (2, .ref 136), (1, .ref 0), (0, .retAddr 0)], [.int 1], _) _ _ _
    refine pt_s (pc1 := 1298) (st1 := [.int 1, .int 1]) rfl rfl (fun _ => rfl) ?_
    refine pt_bt (t := 1303) (off := 5) (bb := decide ((1 : Int32) = 1)) (st1 := []) rfl rfl rfl rfl rfl (by decide) ?_
    refine pt_s (pc1 := 1305) (st1 := [.int 1]) rfl rfl (fun _ => rfl) ?_
    refine pt_bt (t := 1320) (off := 15) (bb := !decide ((1 : Int32) = 0)) (st1 := []) rfl rfl rfl rfl rfl (px_not_t (by decide)) ?_
    refine pt_s (pc1 := 2771) (st1 := []) rfl rfl (fun _ => rfl) ?_
    refine pt_s (pc1 := 2774) (lv1 := [(4, .int 6), (6, .int 0), (5, .int 1), (3, .ref 164), (2, .ref 136), (1, .ref 0), (0, .retAddr 0)]) (st1 := []) rfl rfl (fun _ => rfl) ?_
    refine pt_s (pc1 := 23) (st1 := []) rfl rfl (fun _ => rfl) ?_
    refine pt_s (pc1 := 25) (st1 := [.int 6]) rfl rfl (fun _ => rfl) ?_
    refine pt_s (pc1 := 26) (st1 := [.retAddr 0, .int 6]) rfl rfl (fun _ => rfl) ?_
    refine pt_s (pc1 := 27) (st1 := [.int 6, .int 6]) rfl rfl (fun _ => rfl) ?_
    refine pt_s (pc1 := 29) (st1 := [.int 6, .int 6, .int 6]) rfl rfl (fun _ => rfl) ?_
    refine pt_s (pc1 := 30) (st1 := [.int 0, .int 6]) rfl rfl (fun _ => rfl) ?_
    refine pt_bt (t := 2777) (off := 2747) (bb := decide ((0 : Int32) < (6 : Int32))) (st1 := []) rfl rfl rfl rfl rfl (by decide) ?_
    refine pt_s (pc1 := 2778) (st1 := [.int 1]) rfl rfl (fun _ => rfl) ?_
    exact pt_e rfl ⟨rfl, (rfl : px_ins pm_law 2778 = some (.ireturn, 1))⟩
set_option maxRecDepth 100000 in
set_option maxHeartbeats 40000000 in
theorem px_op_16 (a0 a1 a2 a3 a4 a5 : Int32) : px_T (some [a0, a1, a2, a3, a4, a5]) pm_law 2048 84000 (40, [(4, .int 0), (3, .ref 164), (2, .ref 136), (1, .ref 0), (0, .retAddr 0)], [.int 16], px_hs) 599837 7274195 (fun s1 => s1.2.2.1 = [.int 1] ∧ px_ins pm_law s1.1 = some (.ireturn, 1)) := by
  have ha1 : (-2147483648) ≤ a1.toInt ∧ a1.toInt ≤ 2147483647 := ⟨Int32.le_toInt a1, Int32.toInt_le a1⟩
  by_cases hs : a1.toInt < 0
  · have ha1 : (-2147483648) ≤ a1.toInt ∧ a1.toInt ≤ (-1) := ⟨ha1.1, by omega⟩
    refine pt_s (pc1 := 1323) (st1 := []) rfl rfl (fun _ => rfl) ?_
    refine pt_s (pc1 := 1324) (st1 := [.ref 0]) rfl rfl (fun _ => rfl) ?_
    refine pt_s (pc1 := 1325) (st1 := [.retAddr 0, .ref 0]) rfl rfl (fun _ => rfl) ?_
    refine pt_s (pc1 := 1327) (st1 := [.int 0, .retAddr 0, .ref 0]) rfl rfl (fun _ => rfl) ?_
    refine pt_s (pc1 := 1328) (st1 := [.int 1, .int 0, .retAddr 0, .ref 0]) rfl rfl (fun _ => rfl) ?_
    refine pt_s (pc1 := 1329) (st1 := [.int 1, .retAddr 0, .ref 0]) rfl rfl (fun _ => rfl) ?_
    refine pt_s (pc1 := 1330) (st1 := [.int a1, .ref 0]) rfl rfl (fun _ => rfl) ?_
    refine pt_s (pc1 := 1331) (st1 := [.ref 164, .int a1, .ref 0]) rfl rfl (fun _ => rfl) ?_
    refine pt_callv (N := pm_L_conditions) (as := [.ref 0, .int a1, .ref 164]) (rest := []) (f := 2047) (l := 83977) (c1 := 1) (k1 := 6) (c2 := 599836) (k2 := 7274189) (v := some (.int 1)) (h1 := ph_14) rfl rfl (fun _ => rfl) ?_ (Nat.le_of_ble_eq_true rfl) (Nat.le_of_ble_eq_true rfl) ?_
    · refine px_C_of rfl ?_
      refine pr_s (pc1 := 1) (st1 := [.ref 164]) rfl (fun _ => rfl) ?_
      refine pr_s (pc1 := 2) (st1 := [.int 0, .ref 164]) rfl (fun _ => rfl) ?_
      refine pr_s (pc1 := 3) (st1 := [.ref 0, .int 0, .ref 164]) rfl (fun _ => rfl) ?_
      refine pr_s (pc1 := 4) (st1 := [.int a1, .ref 0, .int 0, .ref 164]) rfl (fun _ => rfl) ?_
      refine pr_callx (N := pm_X6_conditions) (as := [.ref 0, .int a1]) (rest := [.int 0, .ref 164]) (f := 2046) (l := 83956) (c1 := 1) (k1 := 6) (c2 := 0) (k2 := 0) (E := 11) (h1 := ph_14) (a := 12) (y1 := 3) (y2 := 1) rfl (fun ex => px_inv_hs ex rfl rfl rfl pg_0 rfl rfl rfl rfl) ?_ (Nat.le_of_ble_eq_true rfl) (Nat.le_of_ble_eq_true rfl) rfl rfl rfl rfl ?_
      · refine px_C_of rfl ?_
        refine pr_s (pc1 := 1) (st1 := [.ref 0]) rfl (fun _ => rfl) ?_
        refine pr_s (pc1 := 2) (st1 := [.int a1, .ref 0]) rfl (fun _ => rfl) ?_
        refine pr_callo (N := pm_X6_needRule) (as := [.ref 0, .int a1]) (rest := []) (f := 2045) (l := 83935) (E := 11) (h1 := ph_14) rfl (fun ex => px_inv_hs ex rfl rfl rfl pg_0 rfl rfl rfl rfl) ?_ rfl ⟨rfl, rfl⟩
        · refine px_C_of rfl ?_
          refine pr_s (pc1 := 1) (st1 := [.int a1]) rfl (fun _ => rfl) ?_
          refine pr_bt (t := 12) (off := 11) (bb := decide (a1 < 0)) (st1 := []) rfl rfl rfl rfl (pb_ltT ha1.2 (show 0 ≤ (0 : Int32).toInt by decide) (by decide)) ?_
          refine pr_mh (z1 := 1) (z2 := 6) (c1 := 0) (k1 := 0) (pc1 := 22) (n := 165) (r := []) (h1 := ph_14) (es := fun n => [.inr (11, [])]) rfl (fun _ => rfl) pl_0 rfl (Nat.le_of_ble_eq_true rfl) (Nat.le_of_ble_eq_true rfl) ?_
          exact pr_e rfl (fun _ => rfl) ⟨rfl, rfl⟩
      show px_R _ _ _ _ (13, [(0, .ref 0), (1, .int a1), (2, .ref 164)], [], _) _ _ _
      refine pr_s (pc1 := 14) (st1 := [.int 1]) rfl (fun _ => rfl) ?_
      exact pr_e rfl (fun _ => rfl) ⟨rfl, rfl⟩
    show px_T _ _ _ _ (1334, [(4, .int 0), (3, .ref 164), (2, .ref 136), (1, .ref 0), (0, .retAddr 0)], [.int 1], _) _ _ _
    refine pt_s (pc1 := 1336) (lv1 := [(5, .int 1), (4, .int 0), (3, .ref 164), (2, .ref 136), (1, .ref 0), (0, .retAddr 0)]) (st1 := []) rfl rfl (fun _ => rfl) ?_
    refine pt_s (pc1 := 1337) (st1 := [.ref 136]) rfl rfl (fun _ => rfl) ?_
    refine pt_s (pc1 := 1338) (st1 := [.retAddr 0, .ref 136]) rfl rfl (fun _ => rfl) ?_
    refine pt_s (pc1 := 1340) (st1 := [.int 0, .retAddr 0, .ref 136]) rfl rfl (fun _ => rfl) ?_
    refine pt_s (pc1 := 1341) (st1 := [.int 1, .int 0, .retAddr 0, .ref 136]) rfl rfl (fun _ => rfl) ?_
    refine pt_s (pc1 := 1342) (st1 := [.int 1, .retAddr 0, .ref 136]) rfl rfl (fun _ => rfl) ?_
    refine pt_s (pc1 := 1343) (st1 := [.int a1, .ref 136]) rfl rfl (fun _ => rfl) ?_
    refine pt_callv (N := pm_X10_conditions) (as := [.ref 136, .int a1]) (rest := []) (f := 2047) (l := 83979) (c1 := 0) (k1 := 0) (c2 := 599836) (k2 := 7274189) (v := some (.int 0)) (h1 := ph_15) rfl rfl (fun ex => px_inv_hs ex rfl rfl rfl pg_20 rfl rfl rfl rfl) ?_ (Nat.le_of_ble_eq_true rfl) (Nat.le_of_ble_eq_true rfl) ?_
    · refine px_C_of rfl ?_
      refine pr_s (pc1 := 1) (st1 := [.ref 136]) rfl (fun _ => rfl) ?_
      refine pr_s (pc1 := 2) (st1 := [.int a1, .ref 136]) rfl (fun _ => rfl) ?_
      refine pr_callv (N := pm_X10_has) (as := [.ref 136, .int a1]) (rest := []) (f := 2046) (l := 83958) (c1 := 0) (k1 := 0) (c2 := 0) (k2 := 0) (v := some (.int 0)) (h1 := ph_15) rfl (fun ex => px_inv_hs ex rfl rfl rfl pg_20 rfl rfl rfl rfl) ?_ (Nat.le_of_ble_eq_true rfl) (Nat.le_of_ble_eq_true rfl) ?_
      · refine px_C_of rfl ?_
        refine pr_s (pc1 := 1) (st1 := [.ref 136]) rfl (fun _ => rfl) ?_
        refine pr_s (pc1 := 2) (st1 := [.ref 136, .ref 136]) rfl (fun _ => rfl) ?_
        refine pr_s (pc1 := 3) (st1 := [.int a1, .ref 136, .ref 136]) rfl (fun _ => rfl) ?_
        refine pr_callv (N := pm_X10_isRule) (as := [.ref 136, .int a1]) (rest := [.ref 136]) (f := 2045) (l := 83937) (c1 := 0) (k1 := 0) (c2 := 0) (k2 := 0) (v := some (.int 0)) (h1 := ph_14) rfl (fun ex => px_inv_hs ex rfl rfl rfl pg_20 rfl rfl rfl rfl) ?_ (Nat.le_of_ble_eq_true rfl) (Nat.le_of_ble_eq_true rfl) ?_
        · refine px_C_of rfl ?_
          refine pr_s (pc1 := 1) (st1 := [.int a1]) rfl (fun _ => rfl) ?_
          refine pr_s (pc1 := 2) (st1 := [.int 0, .int a1]) rfl (fun _ => rfl) ?_
          refine pr_s (pc1 := 3) (st1 := [.ref 136, .int 0, .int a1]) rfl (fun _ => rfl) ?_
          refine pr_getf (pc1 := 6) (v := .int 0) rfl rfl pg_20 rfl rfl ?_
          refine pr_s (pc1 := 7) (st1 := [.int 1, .int 0, .int 0, .int a1]) rfl (fun _ => rfl) ?_
          refine pr_s (pc1 := 8) (st1 := [.int (-1), .int 0, .int a1]) rfl (fun _ => rfl) ?_
          refine pr_callv (N := pm_X10_is) (as := [.int a1, .int 0, .int (-1)]) (rest := []) (f := 2044) (l := 83915) (c1 := 0) (k1 := 0) (c2 := 0) (k2 := 0) (v := some (.int 0)) (h1 := ph_14) rfl (fun _ => rfl) ?_ (Nat.le_of_ble_eq_true rfl) (Nat.le_of_ble_eq_true rfl) ?_
          · refine px_C_of rfl ?_
            refine pr_s (pc1 := 1) (st1 := [.int a1]) rfl (fun _ => rfl) ?_
            refine pr_s (pc1 := 2) (st1 := [.int 0, .int a1]) rfl (fun _ => rfl) ?_
            refine pr_bt (t := 14) (off := 12) (bb := decide (a1 < 0)) (st1 := []) rfl rfl rfl rfl (pb_ltT ha1.2 (show 0 ≤ (0 : Int32).toInt by decide) (by decide)) ?_
            refine pr_s (pc1 := 15) (st1 := [.int 0]) rfl (fun _ => rfl) ?_
            exact pr_e rfl (fun _ => rfl) ⟨rfl, rfl⟩
          show px_R _ _ _ _ (11, [(0, .ref 136), (1, .int a1)], [.int 0], _) _ _ _
          exact pr_e rfl (fun _ => rfl) ⟨rfl, rfl⟩
        show px_R _ _ _ _ (6, [(0, .ref 136), (1, .int a1)], [.int 0, .ref 136], _) _ _ _
        refine pr_bt (t := 13) (off := 7) (bb := decide ((0 : Int32) = 0)) (st1 := [.ref 136]) rfl rfl rfl rfl (by decide) ?_
        refine pr_s (pc1 := 14) (st1 := [.int 1, .ref 136]) rfl (fun _ => rfl) ?_
        refine pr_putf (pc1 := 17) (h1 := ph_15) rfl rfl pg_20 rfl rfl rfl rfl rfl rfl rfl ?_
        refine pr_s (pc1 := 18) (st1 := [.ref 136]) rfl (fun _ => rfl) ?_
        refine pr_getf (pc1 := 21) (v := .int 1) rfl rfl pg_21 rfl rfl ?_
        refine pr_bt (t := 28) (off := 7) (bb := !decide ((1 : Int32) = 0)) (st1 := []) rfl rfl rfl rfl (px_not_t (by decide)) ?_
        refine pr_s (pc1 := 29) (st1 := [.int 0]) rfl (fun _ => rfl) ?_
        exact pr_e rfl (fun _ => rfl) ⟨rfl, rfl⟩
      show px_R _ _ _ _ (5, [(0, .ref 136), (1, .int a1)], [.int 0], _) _ _ _
      refine pr_bt (t := 20) (off := 15) (bb := decide ((0 : Int32) = 0)) (st1 := []) rfl rfl rfl rfl (by decide) ?_
      refine pr_s (pc1 := 21) (st1 := [.int 0]) rfl (fun _ => rfl) ?_
      exact pr_e rfl (fun _ => rfl) ⟨rfl, rfl⟩
    show px_T _ _ _ _ (1346, [(5, .int 1), (4, .int 0), (3, .ref 164), (2, .ref 136), (1, .ref 0), (0, .retAddr 0)], [.int 0], _) _ _ _
    refine pt_s (pc1 := 1348) (lv1 := [(6, .int 0), (5, .int 1), (4, .int 0), (3, .ref 164), (2, .ref 136), (1, .ref 0), (0, .retAddr 0)]) (st1 := []) rfl rfl (fun _ => rfl) ?_
    refine pt_s (pc1 := 1349) (st1 := [.ref 136]) rfl rfl (fun _ => rfl) ?_
    refine pt_callv (N := pm_X10_thrown) (as := [.ref 136]) (rest := []) (f := 2047) (l := 83980) (c1 := 0) (k1 := 0) (c2 := 599836) (k2 := 7274189) (v := some (.int 1)) (h1 := ph_15) rfl rfl (fun ex => px_inv_hs ex rfl rfl rfl pg_21 rfl rfl rfl rfl) ?_ (Nat.le_of_ble_eq_true rfl) (Nat.le_of_ble_eq_true rfl) ?_
    · refine px_C_of rfl ?_
      refine pr_s (pc1 := 1) (st1 := [.ref 136]) rfl (fun _ => rfl) ?_
      refine pr_getf (pc1 := 4) (v := .int 1) rfl rfl pg_21 rfl rfl ?_
      exact pr_e rfl (fun _ => rfl) ⟨rfl, rfl⟩
    show px_T _ _ _ _ (1352, [(6, .int 0), (5, .int 1), (4, .int 0), (3, .ref 164), (2, .ref 136), (1, .ref 0), (0, .retAddr 0)], [.int 1], _) _ _ _
    refine pt_s (pc1 := 1354) (st1 := [.int 1, .int 1]) rfl rfl (fun _ => rfl) ?_
    refine pt_bt (t := 1359) (off := 5) (bb := decide ((1 : Int32) = 1)) (st1 := []) rfl rfl rfl rfl rfl (by decide) ?_
    refine pt_s (pc1 := 1361) (st1 := [.int 1]) rfl rfl (fun _ => rfl) ?_
    refine pt_bt (t := 1376) (off := 15) (bb := !decide ((1 : Int32) = 0)) (st1 := []) rfl rfl rfl rfl rfl (px_not_t (by decide)) ?_
    refine pt_s (pc1 := 2771) (st1 := []) rfl rfl (fun _ => rfl) ?_
    refine pt_s (pc1 := 2774) (lv1 := [(4, .int 6), (6, .int 0), (5, .int 1), (3, .ref 164), (2, .ref 136), (1, .ref 0), (0, .retAddr 0)]) (st1 := []) rfl rfl (fun _ => rfl) ?_
    refine pt_s (pc1 := 23) (st1 := []) rfl rfl (fun _ => rfl) ?_
    refine pt_s (pc1 := 25) (st1 := [.int 6]) rfl rfl (fun _ => rfl) ?_
    refine pt_s (pc1 := 26) (st1 := [.retAddr 0, .int 6]) rfl rfl (fun _ => rfl) ?_
    refine pt_s (pc1 := 27) (st1 := [.int 6, .int 6]) rfl rfl (fun _ => rfl) ?_
    refine pt_s (pc1 := 29) (st1 := [.int 6, .int 6, .int 6]) rfl rfl (fun _ => rfl) ?_
    refine pt_s (pc1 := 30) (st1 := [.int 0, .int 6]) rfl rfl (fun _ => rfl) ?_
    refine pt_bt (t := 2777) (off := 2747) (bb := decide ((0 : Int32) < (6 : Int32))) (st1 := []) rfl rfl rfl rfl rfl (by decide) ?_
    refine pt_s (pc1 := 2778) (st1 := [.int 1]) rfl rfl (fun _ => rfl) ?_
    exact pt_e rfl ⟨rfl, (rfl : px_ins pm_law 2778 = some (.ireturn, 1))⟩
  · have ha1 : 0 ≤ a1.toInt ∧ a1.toInt ≤ 2147483647 := ⟨by omega, ha1.2⟩
    refine pt_s (pc1 := 1323) (st1 := []) rfl rfl (fun _ => rfl) ?_
    refine pt_s (pc1 := 1324) (st1 := [.ref 0]) rfl rfl (fun _ => rfl) ?_
    refine pt_s (pc1 := 1325) (st1 := [.retAddr 0, .ref 0]) rfl rfl (fun _ => rfl) ?_
    refine pt_s (pc1 := 1327) (st1 := [.int 0, .retAddr 0, .ref 0]) rfl rfl (fun _ => rfl) ?_
    refine pt_s (pc1 := 1328) (st1 := [.int 1, .int 0, .retAddr 0, .ref 0]) rfl rfl (fun _ => rfl) ?_
    refine pt_s (pc1 := 1329) (st1 := [.int 1, .retAddr 0, .ref 0]) rfl rfl (fun _ => rfl) ?_
    refine pt_s (pc1 := 1330) (st1 := [.int a1, .ref 0]) rfl rfl (fun _ => rfl) ?_
    refine pt_s (pc1 := 1331) (st1 := [.ref 164, .int a1, .ref 0]) rfl rfl (fun _ => rfl) ?_
    refine pt_callv (N := pm_L_conditions) (as := [.ref 0, .int a1, .ref 164]) (rest := []) (f := 2047) (l := 83977) (c1 := 1) (k1 := 6) (c2 := 599836) (k2 := 7274189) (v := some (.int 1)) (h1 := ph_14) rfl rfl (fun _ => rfl) ?_ (Nat.le_of_ble_eq_true rfl) (Nat.le_of_ble_eq_true rfl) ?_
    · refine px_C_of rfl ?_
      refine pr_s (pc1 := 1) (st1 := [.ref 164]) rfl (fun _ => rfl) ?_
      refine pr_s (pc1 := 2) (st1 := [.int 0, .ref 164]) rfl (fun _ => rfl) ?_
      refine pr_s (pc1 := 3) (st1 := [.ref 0, .int 0, .ref 164]) rfl (fun _ => rfl) ?_
      refine pr_s (pc1 := 4) (st1 := [.int a1, .ref 0, .int 0, .ref 164]) rfl (fun _ => rfl) ?_
      refine pr_callx (N := pm_X6_conditions) (as := [.ref 0, .int a1]) (rest := [.int 0, .ref 164]) (f := 2046) (l := 83956) (c1 := 1) (k1 := 6) (c2 := 0) (k2 := 0) (E := 11) (h1 := ph_14) (a := 12) (y1 := 3) (y2 := 1) rfl (fun ex => px_inv_hs ex rfl rfl rfl pg_0 rfl rfl rfl rfl) ?_ (Nat.le_of_ble_eq_true rfl) (Nat.le_of_ble_eq_true rfl) rfl rfl rfl rfl ?_
      · refine px_C_of rfl ?_
        refine pr_s (pc1 := 1) (st1 := [.ref 0]) rfl (fun _ => rfl) ?_
        refine pr_s (pc1 := 2) (st1 := [.int a1, .ref 0]) rfl (fun _ => rfl) ?_
        refine pr_callo (N := pm_X6_needRule) (as := [.ref 0, .int a1]) (rest := []) (f := 2045) (l := 83935) (E := 11) (h1 := ph_14) rfl (fun ex => px_inv_hs ex rfl rfl rfl pg_0 rfl rfl rfl rfl) ?_ rfl ⟨rfl, rfl⟩
        · refine px_C_of rfl ?_
          refine pr_s (pc1 := 1) (st1 := [.int a1]) rfl (fun _ => rfl) ?_
          refine pr_bf (t := 12) (off := 11) (bb := decide (a1 < 0)) (st1 := []) rfl rfl rfl rfl (pb_ltF ha1.1 (show (0 : Int32).toInt ≤ 0 by decide) (by decide)) ?_
          refine pr_s (pc1 := 5) (st1 := [.int a1]) rfl (fun _ => rfl) ?_
          refine pr_s (pc1 := 6) (st1 := [.ref 0, .int a1]) rfl (fun _ => rfl) ?_
          refine pr_getf (pc1 := 9) (v := .int 0) rfl rfl pg_0 rfl rfl ?_
          refine pr_bf (t := 23) (off := 14) (bb := decide (a1 < 0)) (st1 := []) rfl rfl rfl rfl (pb_ltF ha1.1 (show (0 : Int32).toInt ≤ 0 by decide) (by decide)) ?_
          refine pr_mh (z1 := 1) (z2 := 6) (c1 := 0) (k1 := 0) (pc1 := 22) (n := 165) (r := []) (h1 := ph_14) (es := fun n => [.inr (11, [])]) rfl (fun _ => rfl) pl_0 rfl (Nat.le_of_ble_eq_true rfl) (Nat.le_of_ble_eq_true rfl) ?_
          exact pr_e rfl (fun _ => rfl) ⟨rfl, rfl⟩
      show px_R _ _ _ _ (13, [(0, .ref 0), (1, .int a1), (2, .ref 164)], [], _) _ _ _
      refine pr_s (pc1 := 14) (st1 := [.int 1]) rfl (fun _ => rfl) ?_
      exact pr_e rfl (fun _ => rfl) ⟨rfl, rfl⟩
    show px_T _ _ _ _ (1334, [(4, .int 0), (3, .ref 164), (2, .ref 136), (1, .ref 0), (0, .retAddr 0)], [.int 1], _) _ _ _
    refine pt_s (pc1 := 1336) (lv1 := [(5, .int 1), (4, .int 0), (3, .ref 164), (2, .ref 136), (1, .ref 0), (0, .retAddr 0)]) (st1 := []) rfl rfl (fun _ => rfl) ?_
    refine pt_s (pc1 := 1337) (st1 := [.ref 136]) rfl rfl (fun _ => rfl) ?_
    refine pt_s (pc1 := 1338) (st1 := [.retAddr 0, .ref 136]) rfl rfl (fun _ => rfl) ?_
    refine pt_s (pc1 := 1340) (st1 := [.int 0, .retAddr 0, .ref 136]) rfl rfl (fun _ => rfl) ?_
    refine pt_s (pc1 := 1341) (st1 := [.int 1, .int 0, .retAddr 0, .ref 136]) rfl rfl (fun _ => rfl) ?_
    refine pt_s (pc1 := 1342) (st1 := [.int 1, .retAddr 0, .ref 136]) rfl rfl (fun _ => rfl) ?_
    refine pt_s (pc1 := 1343) (st1 := [.int a1, .ref 136]) rfl rfl (fun _ => rfl) ?_
    refine pt_callv (N := pm_X10_conditions) (as := [.ref 136, .int a1]) (rest := []) (f := 2047) (l := 83979) (c1 := 0) (k1 := 0) (c2 := 599836) (k2 := 7274189) (v := some (.int 0)) (h1 := ph_15) rfl rfl (fun ex => px_inv_hs ex rfl rfl rfl pg_20 rfl rfl rfl rfl) ?_ (Nat.le_of_ble_eq_true rfl) (Nat.le_of_ble_eq_true rfl) ?_
    · refine px_C_of rfl ?_
      refine pr_s (pc1 := 1) (st1 := [.ref 136]) rfl (fun _ => rfl) ?_
      refine pr_s (pc1 := 2) (st1 := [.int a1, .ref 136]) rfl (fun _ => rfl) ?_
      refine pr_callv (N := pm_X10_has) (as := [.ref 136, .int a1]) (rest := []) (f := 2046) (l := 83958) (c1 := 0) (k1 := 0) (c2 := 0) (k2 := 0) (v := some (.int 0)) (h1 := ph_15) rfl (fun ex => px_inv_hs ex rfl rfl rfl pg_20 rfl rfl rfl rfl) ?_ (Nat.le_of_ble_eq_true rfl) (Nat.le_of_ble_eq_true rfl) ?_
      · refine px_C_of rfl ?_
        refine pr_s (pc1 := 1) (st1 := [.ref 136]) rfl (fun _ => rfl) ?_
        refine pr_s (pc1 := 2) (st1 := [.ref 136, .ref 136]) rfl (fun _ => rfl) ?_
        refine pr_s (pc1 := 3) (st1 := [.int a1, .ref 136, .ref 136]) rfl (fun _ => rfl) ?_
        refine pr_callv (N := pm_X10_isRule) (as := [.ref 136, .int a1]) (rest := [.ref 136]) (f := 2045) (l := 83937) (c1 := 0) (k1 := 0) (c2 := 0) (k2 := 0) (v := some (.int 0)) (h1 := ph_14) rfl (fun ex => px_inv_hs ex rfl rfl rfl pg_20 rfl rfl rfl rfl) ?_ (Nat.le_of_ble_eq_true rfl) (Nat.le_of_ble_eq_true rfl) ?_
        · refine px_C_of rfl ?_
          refine pr_s (pc1 := 1) (st1 := [.int a1]) rfl (fun _ => rfl) ?_
          refine pr_s (pc1 := 2) (st1 := [.int 0, .int a1]) rfl (fun _ => rfl) ?_
          refine pr_s (pc1 := 3) (st1 := [.ref 136, .int 0, .int a1]) rfl (fun _ => rfl) ?_
          refine pr_getf (pc1 := 6) (v := .int 0) rfl rfl pg_20 rfl rfl ?_
          refine pr_s (pc1 := 7) (st1 := [.int 1, .int 0, .int 0, .int a1]) rfl (fun _ => rfl) ?_
          refine pr_s (pc1 := 8) (st1 := [.int (-1), .int 0, .int a1]) rfl (fun _ => rfl) ?_
          refine pr_callv (N := pm_X10_is) (as := [.int a1, .int 0, .int (-1)]) (rest := []) (f := 2044) (l := 83915) (c1 := 0) (k1 := 0) (c2 := 0) (k2 := 0) (v := some (.int 0)) (h1 := ph_14) rfl (fun _ => rfl) ?_ (Nat.le_of_ble_eq_true rfl) (Nat.le_of_ble_eq_true rfl) ?_
          · refine px_C_of rfl ?_
            refine pr_s (pc1 := 1) (st1 := [.int a1]) rfl (fun _ => rfl) ?_
            refine pr_s (pc1 := 2) (st1 := [.int 0, .int a1]) rfl (fun _ => rfl) ?_
            refine pr_bf (t := 14) (off := 12) (bb := decide (a1 < 0)) (st1 := []) rfl rfl rfl rfl (pb_ltF ha1.1 (show (0 : Int32).toInt ≤ 0 by decide) (by decide)) ?_
            refine pr_s (pc1 := 6) (st1 := [.int a1]) rfl (fun _ => rfl) ?_
            refine pr_s (pc1 := 7) (st1 := [.int (-1), .int a1]) rfl (fun _ => rfl) ?_
            refine pr_bt (t := 14) (off := 7) (bb := decide (((-1) : Int32) < a1)) (st1 := []) rfl rfl rfl rfl (pb_ltT (show ((-1) : Int32).toInt ≤ (-1) by decide) ha1.1 (by decide)) ?_
            refine pr_s (pc1 := 15) (st1 := [.int 0]) rfl (fun _ => rfl) ?_
            exact pr_e rfl (fun _ => rfl) ⟨rfl, rfl⟩
          show px_R _ _ _ _ (11, [(0, .ref 136), (1, .int a1)], [.int 0], _) _ _ _
          exact pr_e rfl (fun _ => rfl) ⟨rfl, rfl⟩
        show px_R _ _ _ _ (6, [(0, .ref 136), (1, .int a1)], [.int 0, .ref 136], _) _ _ _
        refine pr_bt (t := 13) (off := 7) (bb := decide ((0 : Int32) = 0)) (st1 := [.ref 136]) rfl rfl rfl rfl (by decide) ?_
        refine pr_s (pc1 := 14) (st1 := [.int 1, .ref 136]) rfl (fun _ => rfl) ?_
        refine pr_putf (pc1 := 17) (h1 := ph_15) rfl rfl pg_20 rfl rfl rfl rfl rfl rfl rfl ?_
        refine pr_s (pc1 := 18) (st1 := [.ref 136]) rfl (fun _ => rfl) ?_
        refine pr_getf (pc1 := 21) (v := .int 1) rfl rfl pg_21 rfl rfl ?_
        refine pr_bt (t := 28) (off := 7) (bb := !decide ((1 : Int32) = 0)) (st1 := []) rfl rfl rfl rfl (px_not_t (by decide)) ?_
        refine pr_s (pc1 := 29) (st1 := [.int 0]) rfl (fun _ => rfl) ?_
        exact pr_e rfl (fun _ => rfl) ⟨rfl, rfl⟩
      show px_R _ _ _ _ (5, [(0, .ref 136), (1, .int a1)], [.int 0], _) _ _ _
      refine pr_bt (t := 20) (off := 15) (bb := decide ((0 : Int32) = 0)) (st1 := []) rfl rfl rfl rfl (by decide) ?_
      refine pr_s (pc1 := 21) (st1 := [.int 0]) rfl (fun _ => rfl) ?_
      exact pr_e rfl (fun _ => rfl) ⟨rfl, rfl⟩
    show px_T _ _ _ _ (1346, [(5, .int 1), (4, .int 0), (3, .ref 164), (2, .ref 136), (1, .ref 0), (0, .retAddr 0)], [.int 0], _) _ _ _
    refine pt_s (pc1 := 1348) (lv1 := [(6, .int 0), (5, .int 1), (4, .int 0), (3, .ref 164), (2, .ref 136), (1, .ref 0), (0, .retAddr 0)]) (st1 := []) rfl rfl (fun _ => rfl) ?_
    refine pt_s (pc1 := 1349) (st1 := [.ref 136]) rfl rfl (fun _ => rfl) ?_
    refine pt_callv (N := pm_X10_thrown) (as := [.ref 136]) (rest := []) (f := 2047) (l := 83980) (c1 := 0) (k1 := 0) (c2 := 599836) (k2 := 7274189) (v := some (.int 1)) (h1 := ph_15) rfl rfl (fun ex => px_inv_hs ex rfl rfl rfl pg_21 rfl rfl rfl rfl) ?_ (Nat.le_of_ble_eq_true rfl) (Nat.le_of_ble_eq_true rfl) ?_
    · refine px_C_of rfl ?_
      refine pr_s (pc1 := 1) (st1 := [.ref 136]) rfl (fun _ => rfl) ?_
      refine pr_getf (pc1 := 4) (v := .int 1) rfl rfl pg_21 rfl rfl ?_
      exact pr_e rfl (fun _ => rfl) ⟨rfl, rfl⟩
    show px_T _ _ _ _ (1352, [(6, .int 0), (5, .int 1), (4, .int 0), (3, .ref 164), (2, .ref 136), (1, .ref 0), (0, .retAddr 0)], [.int 1], _) _ _ _
    refine pt_s (pc1 := 1354) (st1 := [.int 1, .int 1]) rfl rfl (fun _ => rfl) ?_
    refine pt_bt (t := 1359) (off := 5) (bb := decide ((1 : Int32) = 1)) (st1 := []) rfl rfl rfl rfl rfl (by decide) ?_
    refine pt_s (pc1 := 1361) (st1 := [.int 1]) rfl rfl (fun _ => rfl) ?_
    refine pt_bt (t := 1376) (off := 15) (bb := !decide ((1 : Int32) = 0)) (st1 := []) rfl rfl rfl rfl rfl (px_not_t (by decide)) ?_
    refine pt_s (pc1 := 2771) (st1 := []) rfl rfl (fun _ => rfl) ?_
    refine pt_s (pc1 := 2774) (lv1 := [(4, .int 6), (6, .int 0), (5, .int 1), (3, .ref 164), (2, .ref 136), (1, .ref 0), (0, .retAddr 0)]) (st1 := []) rfl rfl (fun _ => rfl) ?_
    refine pt_s (pc1 := 23) (st1 := []) rfl rfl (fun _ => rfl) ?_
    refine pt_s (pc1 := 25) (st1 := [.int 6]) rfl rfl (fun _ => rfl) ?_
    refine pt_s (pc1 := 26) (st1 := [.retAddr 0, .int 6]) rfl rfl (fun _ => rfl) ?_
    refine pt_s (pc1 := 27) (st1 := [.int 6, .int 6]) rfl rfl (fun _ => rfl) ?_
    refine pt_s (pc1 := 29) (st1 := [.int 6, .int 6, .int 6]) rfl rfl (fun _ => rfl) ?_
    refine pt_s (pc1 := 30) (st1 := [.int 0, .int 6]) rfl rfl (fun _ => rfl) ?_
    refine pt_bt (t := 2777) (off := 2747) (bb := decide ((0 : Int32) < (6 : Int32))) (st1 := []) rfl rfl rfl rfl rfl (by decide) ?_
    refine pt_s (pc1 := 2778) (st1 := [.int 1]) rfl rfl (fun _ => rfl) ?_
    exact pt_e rfl ⟨rfl, (rfl : px_ins pm_law 2778 = some (.ireturn, 1))⟩
set_option maxRecDepth 100000 in
set_option maxHeartbeats 40000000 in
theorem px_op_17 (a0 a1 a2 a3 a4 a5 : Int32) : px_T (some [a0, a1, a2, a3, a4, a5]) pm_law 2048 84000 (40, [(4, .int 0), (3, .ref 164), (2, .ref 136), (1, .ref 0), (0, .retAddr 0)], [.int 17], px_hs) 599837 7274195 (fun s1 => s1.2.2.1 = [.int 1] ∧ px_ins pm_law s1.1 = some (.ireturn, 1)) := by
  have ha1 : (-2147483648) ≤ a1.toInt ∧ a1.toInt ≤ 2147483647 := ⟨Int32.le_toInt a1, Int32.toInt_le a1⟩
  by_cases hs : a1.toInt < 0
  · have ha1 : (-2147483648) ≤ a1.toInt ∧ a1.toInt ≤ (-1) := ⟨ha1.1, by omega⟩
    refine pt_s (pc1 := 1379) (st1 := []) rfl rfl (fun _ => rfl) ?_
    refine pt_s (pc1 := 1380) (st1 := [.ref 0]) rfl rfl (fun _ => rfl) ?_
    refine pt_s (pc1 := 1381) (st1 := [.retAddr 0, .ref 0]) rfl rfl (fun _ => rfl) ?_
    refine pt_s (pc1 := 1383) (st1 := [.int 0, .retAddr 0, .ref 0]) rfl rfl (fun _ => rfl) ?_
    refine pt_s (pc1 := 1384) (st1 := [.int 1, .int 0, .retAddr 0, .ref 0]) rfl rfl (fun _ => rfl) ?_
    refine pt_s (pc1 := 1385) (st1 := [.int 1, .retAddr 0, .ref 0]) rfl rfl (fun _ => rfl) ?_
    refine pt_s (pc1 := 1386) (st1 := [.int a1, .ref 0]) rfl rfl (fun _ => rfl) ?_
    refine pt_s (pc1 := 1387) (st1 := [.ref 164, .int a1, .ref 0]) rfl rfl (fun _ => rfl) ?_
    refine pt_callv (N := pm_L_actions) (as := [.ref 0, .int a1, .ref 164]) (rest := []) (f := 2047) (l := 83977) (c1 := 1) (k1 := 6) (c2 := 599836) (k2 := 7274189) (v := some (.int 1)) (h1 := ph_14) rfl rfl (fun _ => rfl) ?_ (Nat.le_of_ble_eq_true rfl) (Nat.le_of_ble_eq_true rfl) ?_
    · refine px_C_of rfl ?_
      refine pr_s (pc1 := 1) (st1 := [.ref 164]) rfl (fun _ => rfl) ?_
      refine pr_s (pc1 := 2) (st1 := [.int 0, .ref 164]) rfl (fun _ => rfl) ?_
      refine pr_s (pc1 := 3) (st1 := [.ref 0, .int 0, .ref 164]) rfl (fun _ => rfl) ?_
      refine pr_s (pc1 := 4) (st1 := [.int a1, .ref 0, .int 0, .ref 164]) rfl (fun _ => rfl) ?_
      refine pr_callx (N := pm_X6_actions) (as := [.ref 0, .int a1]) (rest := [.int 0, .ref 164]) (f := 2046) (l := 83956) (c1 := 1) (k1 := 6) (c2 := 0) (k2 := 0) (E := 11) (h1 := ph_14) (a := 12) (y1 := 3) (y2 := 1) rfl (fun ex => px_inv_hs ex rfl rfl rfl pg_0 rfl rfl rfl rfl) ?_ (Nat.le_of_ble_eq_true rfl) (Nat.le_of_ble_eq_true rfl) rfl rfl rfl rfl ?_
      · refine px_C_of rfl ?_
        refine pr_s (pc1 := 1) (st1 := [.ref 0]) rfl (fun _ => rfl) ?_
        refine pr_s (pc1 := 2) (st1 := [.int a1, .ref 0]) rfl (fun _ => rfl) ?_
        refine pr_callo (N := pm_X6_needRule) (as := [.ref 0, .int a1]) (rest := []) (f := 2045) (l := 83935) (E := 11) (h1 := ph_14) rfl (fun ex => px_inv_hs ex rfl rfl rfl pg_0 rfl rfl rfl rfl) ?_ rfl ⟨rfl, rfl⟩
        · refine px_C_of rfl ?_
          refine pr_s (pc1 := 1) (st1 := [.int a1]) rfl (fun _ => rfl) ?_
          refine pr_bt (t := 12) (off := 11) (bb := decide (a1 < 0)) (st1 := []) rfl rfl rfl rfl (pb_ltT ha1.2 (show 0 ≤ (0 : Int32).toInt by decide) (by decide)) ?_
          refine pr_mh (z1 := 1) (z2 := 6) (c1 := 0) (k1 := 0) (pc1 := 22) (n := 165) (r := []) (h1 := ph_14) (es := fun n => [.inr (11, [])]) rfl (fun _ => rfl) pl_0 rfl (Nat.le_of_ble_eq_true rfl) (Nat.le_of_ble_eq_true rfl) ?_
          exact pr_e rfl (fun _ => rfl) ⟨rfl, rfl⟩
      show px_R _ _ _ _ (13, [(0, .ref 0), (1, .int a1), (2, .ref 164)], [], _) _ _ _
      refine pr_s (pc1 := 14) (st1 := [.int 1]) rfl (fun _ => rfl) ?_
      exact pr_e rfl (fun _ => rfl) ⟨rfl, rfl⟩
    show px_T _ _ _ _ (1390, [(4, .int 0), (3, .ref 164), (2, .ref 136), (1, .ref 0), (0, .retAddr 0)], [.int 1], _) _ _ _
    refine pt_s (pc1 := 1392) (lv1 := [(5, .int 1), (4, .int 0), (3, .ref 164), (2, .ref 136), (1, .ref 0), (0, .retAddr 0)]) (st1 := []) rfl rfl (fun _ => rfl) ?_
    refine pt_s (pc1 := 1393) (st1 := [.ref 136]) rfl rfl (fun _ => rfl) ?_
    refine pt_s (pc1 := 1394) (st1 := [.retAddr 0, .ref 136]) rfl rfl (fun _ => rfl) ?_
    refine pt_s (pc1 := 1396) (st1 := [.int 0, .retAddr 0, .ref 136]) rfl rfl (fun _ => rfl) ?_
    refine pt_s (pc1 := 1397) (st1 := [.int 1, .int 0, .retAddr 0, .ref 136]) rfl rfl (fun _ => rfl) ?_
    refine pt_s (pc1 := 1398) (st1 := [.int 1, .retAddr 0, .ref 136]) rfl rfl (fun _ => rfl) ?_
    refine pt_s (pc1 := 1399) (st1 := [.int a1, .ref 136]) rfl rfl (fun _ => rfl) ?_
    refine pt_callv (N := pm_X10_actions) (as := [.ref 136, .int a1]) (rest := []) (f := 2047) (l := 83979) (c1 := 0) (k1 := 0) (c2 := 599836) (k2 := 7274189) (v := some (.int 0)) (h1 := ph_15) rfl rfl (fun ex => px_inv_hs ex rfl rfl rfl pg_20 rfl rfl rfl rfl) ?_ (Nat.le_of_ble_eq_true rfl) (Nat.le_of_ble_eq_true rfl) ?_
    · refine px_C_of rfl ?_
      refine pr_s (pc1 := 1) (st1 := [.ref 136]) rfl (fun _ => rfl) ?_
      refine pr_s (pc1 := 2) (st1 := [.int a1, .ref 136]) rfl (fun _ => rfl) ?_
      refine pr_callv (N := pm_X10_has) (as := [.ref 136, .int a1]) (rest := []) (f := 2046) (l := 83958) (c1 := 0) (k1 := 0) (c2 := 0) (k2 := 0) (v := some (.int 0)) (h1 := ph_15) rfl (fun ex => px_inv_hs ex rfl rfl rfl pg_20 rfl rfl rfl rfl) ?_ (Nat.le_of_ble_eq_true rfl) (Nat.le_of_ble_eq_true rfl) ?_
      · refine px_C_of rfl ?_
        refine pr_s (pc1 := 1) (st1 := [.ref 136]) rfl (fun _ => rfl) ?_
        refine pr_s (pc1 := 2) (st1 := [.ref 136, .ref 136]) rfl (fun _ => rfl) ?_
        refine pr_s (pc1 := 3) (st1 := [.int a1, .ref 136, .ref 136]) rfl (fun _ => rfl) ?_
        refine pr_callv (N := pm_X10_isRule) (as := [.ref 136, .int a1]) (rest := [.ref 136]) (f := 2045) (l := 83937) (c1 := 0) (k1 := 0) (c2 := 0) (k2 := 0) (v := some (.int 0)) (h1 := ph_14) rfl (fun ex => px_inv_hs ex rfl rfl rfl pg_20 rfl rfl rfl rfl) ?_ (Nat.le_of_ble_eq_true rfl) (Nat.le_of_ble_eq_true rfl) ?_
        · refine px_C_of rfl ?_
          refine pr_s (pc1 := 1) (st1 := [.int a1]) rfl (fun _ => rfl) ?_
          refine pr_s (pc1 := 2) (st1 := [.int 0, .int a1]) rfl (fun _ => rfl) ?_
          refine pr_s (pc1 := 3) (st1 := [.ref 136, .int 0, .int a1]) rfl (fun _ => rfl) ?_
          refine pr_getf (pc1 := 6) (v := .int 0) rfl rfl pg_20 rfl rfl ?_
          refine pr_s (pc1 := 7) (st1 := [.int 1, .int 0, .int 0, .int a1]) rfl (fun _ => rfl) ?_
          refine pr_s (pc1 := 8) (st1 := [.int (-1), .int 0, .int a1]) rfl (fun _ => rfl) ?_
          refine pr_callv (N := pm_X10_is) (as := [.int a1, .int 0, .int (-1)]) (rest := []) (f := 2044) (l := 83915) (c1 := 0) (k1 := 0) (c2 := 0) (k2 := 0) (v := some (.int 0)) (h1 := ph_14) rfl (fun _ => rfl) ?_ (Nat.le_of_ble_eq_true rfl) (Nat.le_of_ble_eq_true rfl) ?_
          · refine px_C_of rfl ?_
            refine pr_s (pc1 := 1) (st1 := [.int a1]) rfl (fun _ => rfl) ?_
            refine pr_s (pc1 := 2) (st1 := [.int 0, .int a1]) rfl (fun _ => rfl) ?_
            refine pr_bt (t := 14) (off := 12) (bb := decide (a1 < 0)) (st1 := []) rfl rfl rfl rfl (pb_ltT ha1.2 (show 0 ≤ (0 : Int32).toInt by decide) (by decide)) ?_
            refine pr_s (pc1 := 15) (st1 := [.int 0]) rfl (fun _ => rfl) ?_
            exact pr_e rfl (fun _ => rfl) ⟨rfl, rfl⟩
          show px_R _ _ _ _ (11, [(0, .ref 136), (1, .int a1)], [.int 0], _) _ _ _
          exact pr_e rfl (fun _ => rfl) ⟨rfl, rfl⟩
        show px_R _ _ _ _ (6, [(0, .ref 136), (1, .int a1)], [.int 0, .ref 136], _) _ _ _
        refine pr_bt (t := 13) (off := 7) (bb := decide ((0 : Int32) = 0)) (st1 := [.ref 136]) rfl rfl rfl rfl (by decide) ?_
        refine pr_s (pc1 := 14) (st1 := [.int 1, .ref 136]) rfl (fun _ => rfl) ?_
        refine pr_putf (pc1 := 17) (h1 := ph_15) rfl rfl pg_20 rfl rfl rfl rfl rfl rfl rfl ?_
        refine pr_s (pc1 := 18) (st1 := [.ref 136]) rfl (fun _ => rfl) ?_
        refine pr_getf (pc1 := 21) (v := .int 1) rfl rfl pg_21 rfl rfl ?_
        refine pr_bt (t := 28) (off := 7) (bb := !decide ((1 : Int32) = 0)) (st1 := []) rfl rfl rfl rfl (px_not_t (by decide)) ?_
        refine pr_s (pc1 := 29) (st1 := [.int 0]) rfl (fun _ => rfl) ?_
        exact pr_e rfl (fun _ => rfl) ⟨rfl, rfl⟩
      show px_R _ _ _ _ (5, [(0, .ref 136), (1, .int a1)], [.int 0], _) _ _ _
      refine pr_bt (t := 20) (off := 15) (bb := decide ((0 : Int32) = 0)) (st1 := []) rfl rfl rfl rfl (by decide) ?_
      refine pr_s (pc1 := 21) (st1 := [.int 0]) rfl (fun _ => rfl) ?_
      exact pr_e rfl (fun _ => rfl) ⟨rfl, rfl⟩
    show px_T _ _ _ _ (1402, [(5, .int 1), (4, .int 0), (3, .ref 164), (2, .ref 136), (1, .ref 0), (0, .retAddr 0)], [.int 0], _) _ _ _
    refine pt_s (pc1 := 1404) (lv1 := [(6, .int 0), (5, .int 1), (4, .int 0), (3, .ref 164), (2, .ref 136), (1, .ref 0), (0, .retAddr 0)]) (st1 := []) rfl rfl (fun _ => rfl) ?_
    refine pt_s (pc1 := 1405) (st1 := [.ref 136]) rfl rfl (fun _ => rfl) ?_
    refine pt_callv (N := pm_X10_thrown) (as := [.ref 136]) (rest := []) (f := 2047) (l := 83980) (c1 := 0) (k1 := 0) (c2 := 599836) (k2 := 7274189) (v := some (.int 1)) (h1 := ph_15) rfl rfl (fun ex => px_inv_hs ex rfl rfl rfl pg_21 rfl rfl rfl rfl) ?_ (Nat.le_of_ble_eq_true rfl) (Nat.le_of_ble_eq_true rfl) ?_
    · refine px_C_of rfl ?_
      refine pr_s (pc1 := 1) (st1 := [.ref 136]) rfl (fun _ => rfl) ?_
      refine pr_getf (pc1 := 4) (v := .int 1) rfl rfl pg_21 rfl rfl ?_
      exact pr_e rfl (fun _ => rfl) ⟨rfl, rfl⟩
    show px_T _ _ _ _ (1408, [(6, .int 0), (5, .int 1), (4, .int 0), (3, .ref 164), (2, .ref 136), (1, .ref 0), (0, .retAddr 0)], [.int 1], _) _ _ _
    refine pt_s (pc1 := 1410) (st1 := [.int 1, .int 1]) rfl rfl (fun _ => rfl) ?_
    refine pt_bt (t := 1415) (off := 5) (bb := decide ((1 : Int32) = 1)) (st1 := []) rfl rfl rfl rfl rfl (by decide) ?_
    refine pt_s (pc1 := 1417) (st1 := [.int 1]) rfl rfl (fun _ => rfl) ?_
    refine pt_bt (t := 1432) (off := 15) (bb := !decide ((1 : Int32) = 0)) (st1 := []) rfl rfl rfl rfl rfl (px_not_t (by decide)) ?_
    refine pt_s (pc1 := 2771) (st1 := []) rfl rfl (fun _ => rfl) ?_
    refine pt_s (pc1 := 2774) (lv1 := [(4, .int 6), (6, .int 0), (5, .int 1), (3, .ref 164), (2, .ref 136), (1, .ref 0), (0, .retAddr 0)]) (st1 := []) rfl rfl (fun _ => rfl) ?_
    refine pt_s (pc1 := 23) (st1 := []) rfl rfl (fun _ => rfl) ?_
    refine pt_s (pc1 := 25) (st1 := [.int 6]) rfl rfl (fun _ => rfl) ?_
    refine pt_s (pc1 := 26) (st1 := [.retAddr 0, .int 6]) rfl rfl (fun _ => rfl) ?_
    refine pt_s (pc1 := 27) (st1 := [.int 6, .int 6]) rfl rfl (fun _ => rfl) ?_
    refine pt_s (pc1 := 29) (st1 := [.int 6, .int 6, .int 6]) rfl rfl (fun _ => rfl) ?_
    refine pt_s (pc1 := 30) (st1 := [.int 0, .int 6]) rfl rfl (fun _ => rfl) ?_
    refine pt_bt (t := 2777) (off := 2747) (bb := decide ((0 : Int32) < (6 : Int32))) (st1 := []) rfl rfl rfl rfl rfl (by decide) ?_
    refine pt_s (pc1 := 2778) (st1 := [.int 1]) rfl rfl (fun _ => rfl) ?_
    exact pt_e rfl ⟨rfl, (rfl : px_ins pm_law 2778 = some (.ireturn, 1))⟩
  · have ha1 : 0 ≤ a1.toInt ∧ a1.toInt ≤ 2147483647 := ⟨by omega, ha1.2⟩
    refine pt_s (pc1 := 1379) (st1 := []) rfl rfl (fun _ => rfl) ?_
    refine pt_s (pc1 := 1380) (st1 := [.ref 0]) rfl rfl (fun _ => rfl) ?_
    refine pt_s (pc1 := 1381) (st1 := [.retAddr 0, .ref 0]) rfl rfl (fun _ => rfl) ?_
    refine pt_s (pc1 := 1383) (st1 := [.int 0, .retAddr 0, .ref 0]) rfl rfl (fun _ => rfl) ?_
    refine pt_s (pc1 := 1384) (st1 := [.int 1, .int 0, .retAddr 0, .ref 0]) rfl rfl (fun _ => rfl) ?_
    refine pt_s (pc1 := 1385) (st1 := [.int 1, .retAddr 0, .ref 0]) rfl rfl (fun _ => rfl) ?_
    refine pt_s (pc1 := 1386) (st1 := [.int a1, .ref 0]) rfl rfl (fun _ => rfl) ?_
    refine pt_s (pc1 := 1387) (st1 := [.ref 164, .int a1, .ref 0]) rfl rfl (fun _ => rfl) ?_
    refine pt_callv (N := pm_L_actions) (as := [.ref 0, .int a1, .ref 164]) (rest := []) (f := 2047) (l := 83977) (c1 := 1) (k1 := 6) (c2 := 599836) (k2 := 7274189) (v := some (.int 1)) (h1 := ph_14) rfl rfl (fun _ => rfl) ?_ (Nat.le_of_ble_eq_true rfl) (Nat.le_of_ble_eq_true rfl) ?_
    · refine px_C_of rfl ?_
      refine pr_s (pc1 := 1) (st1 := [.ref 164]) rfl (fun _ => rfl) ?_
      refine pr_s (pc1 := 2) (st1 := [.int 0, .ref 164]) rfl (fun _ => rfl) ?_
      refine pr_s (pc1 := 3) (st1 := [.ref 0, .int 0, .ref 164]) rfl (fun _ => rfl) ?_
      refine pr_s (pc1 := 4) (st1 := [.int a1, .ref 0, .int 0, .ref 164]) rfl (fun _ => rfl) ?_
      refine pr_callx (N := pm_X6_actions) (as := [.ref 0, .int a1]) (rest := [.int 0, .ref 164]) (f := 2046) (l := 83956) (c1 := 1) (k1 := 6) (c2 := 0) (k2 := 0) (E := 11) (h1 := ph_14) (a := 12) (y1 := 3) (y2 := 1) rfl (fun ex => px_inv_hs ex rfl rfl rfl pg_0 rfl rfl rfl rfl) ?_ (Nat.le_of_ble_eq_true rfl) (Nat.le_of_ble_eq_true rfl) rfl rfl rfl rfl ?_
      · refine px_C_of rfl ?_
        refine pr_s (pc1 := 1) (st1 := [.ref 0]) rfl (fun _ => rfl) ?_
        refine pr_s (pc1 := 2) (st1 := [.int a1, .ref 0]) rfl (fun _ => rfl) ?_
        refine pr_callo (N := pm_X6_needRule) (as := [.ref 0, .int a1]) (rest := []) (f := 2045) (l := 83935) (E := 11) (h1 := ph_14) rfl (fun ex => px_inv_hs ex rfl rfl rfl pg_0 rfl rfl rfl rfl) ?_ rfl ⟨rfl, rfl⟩
        · refine px_C_of rfl ?_
          refine pr_s (pc1 := 1) (st1 := [.int a1]) rfl (fun _ => rfl) ?_
          refine pr_bf (t := 12) (off := 11) (bb := decide (a1 < 0)) (st1 := []) rfl rfl rfl rfl (pb_ltF ha1.1 (show (0 : Int32).toInt ≤ 0 by decide) (by decide)) ?_
          refine pr_s (pc1 := 5) (st1 := [.int a1]) rfl (fun _ => rfl) ?_
          refine pr_s (pc1 := 6) (st1 := [.ref 0, .int a1]) rfl (fun _ => rfl) ?_
          refine pr_getf (pc1 := 9) (v := .int 0) rfl rfl pg_0 rfl rfl ?_
          refine pr_bf (t := 23) (off := 14) (bb := decide (a1 < 0)) (st1 := []) rfl rfl rfl rfl (pb_ltF ha1.1 (show (0 : Int32).toInt ≤ 0 by decide) (by decide)) ?_
          refine pr_mh (z1 := 1) (z2 := 6) (c1 := 0) (k1 := 0) (pc1 := 22) (n := 165) (r := []) (h1 := ph_14) (es := fun n => [.inr (11, [])]) rfl (fun _ => rfl) pl_0 rfl (Nat.le_of_ble_eq_true rfl) (Nat.le_of_ble_eq_true rfl) ?_
          exact pr_e rfl (fun _ => rfl) ⟨rfl, rfl⟩
      show px_R _ _ _ _ (13, [(0, .ref 0), (1, .int a1), (2, .ref 164)], [], _) _ _ _
      refine pr_s (pc1 := 14) (st1 := [.int 1]) rfl (fun _ => rfl) ?_
      exact pr_e rfl (fun _ => rfl) ⟨rfl, rfl⟩
    show px_T _ _ _ _ (1390, [(4, .int 0), (3, .ref 164), (2, .ref 136), (1, .ref 0), (0, .retAddr 0)], [.int 1], _) _ _ _
    refine pt_s (pc1 := 1392) (lv1 := [(5, .int 1), (4, .int 0), (3, .ref 164), (2, .ref 136), (1, .ref 0), (0, .retAddr 0)]) (st1 := []) rfl rfl (fun _ => rfl) ?_
    refine pt_s (pc1 := 1393) (st1 := [.ref 136]) rfl rfl (fun _ => rfl) ?_
    refine pt_s (pc1 := 1394) (st1 := [.retAddr 0, .ref 136]) rfl rfl (fun _ => rfl) ?_
    refine pt_s (pc1 := 1396) (st1 := [.int 0, .retAddr 0, .ref 136]) rfl rfl (fun _ => rfl) ?_
    refine pt_s (pc1 := 1397) (st1 := [.int 1, .int 0, .retAddr 0, .ref 136]) rfl rfl (fun _ => rfl) ?_
    refine pt_s (pc1 := 1398) (st1 := [.int 1, .retAddr 0, .ref 136]) rfl rfl (fun _ => rfl) ?_
    refine pt_s (pc1 := 1399) (st1 := [.int a1, .ref 136]) rfl rfl (fun _ => rfl) ?_
    refine pt_callv (N := pm_X10_actions) (as := [.ref 136, .int a1]) (rest := []) (f := 2047) (l := 83979) (c1 := 0) (k1 := 0) (c2 := 599836) (k2 := 7274189) (v := some (.int 0)) (h1 := ph_15) rfl rfl (fun ex => px_inv_hs ex rfl rfl rfl pg_20 rfl rfl rfl rfl) ?_ (Nat.le_of_ble_eq_true rfl) (Nat.le_of_ble_eq_true rfl) ?_
    · refine px_C_of rfl ?_
      refine pr_s (pc1 := 1) (st1 := [.ref 136]) rfl (fun _ => rfl) ?_
      refine pr_s (pc1 := 2) (st1 := [.int a1, .ref 136]) rfl (fun _ => rfl) ?_
      refine pr_callv (N := pm_X10_has) (as := [.ref 136, .int a1]) (rest := []) (f := 2046) (l := 83958) (c1 := 0) (k1 := 0) (c2 := 0) (k2 := 0) (v := some (.int 0)) (h1 := ph_15) rfl (fun ex => px_inv_hs ex rfl rfl rfl pg_20 rfl rfl rfl rfl) ?_ (Nat.le_of_ble_eq_true rfl) (Nat.le_of_ble_eq_true rfl) ?_
      · refine px_C_of rfl ?_
        refine pr_s (pc1 := 1) (st1 := [.ref 136]) rfl (fun _ => rfl) ?_
        refine pr_s (pc1 := 2) (st1 := [.ref 136, .ref 136]) rfl (fun _ => rfl) ?_
        refine pr_s (pc1 := 3) (st1 := [.int a1, .ref 136, .ref 136]) rfl (fun _ => rfl) ?_
        refine pr_callv (N := pm_X10_isRule) (as := [.ref 136, .int a1]) (rest := [.ref 136]) (f := 2045) (l := 83937) (c1 := 0) (k1 := 0) (c2 := 0) (k2 := 0) (v := some (.int 0)) (h1 := ph_14) rfl (fun ex => px_inv_hs ex rfl rfl rfl pg_20 rfl rfl rfl rfl) ?_ (Nat.le_of_ble_eq_true rfl) (Nat.le_of_ble_eq_true rfl) ?_
        · refine px_C_of rfl ?_
          refine pr_s (pc1 := 1) (st1 := [.int a1]) rfl (fun _ => rfl) ?_
          refine pr_s (pc1 := 2) (st1 := [.int 0, .int a1]) rfl (fun _ => rfl) ?_
          refine pr_s (pc1 := 3) (st1 := [.ref 136, .int 0, .int a1]) rfl (fun _ => rfl) ?_
          refine pr_getf (pc1 := 6) (v := .int 0) rfl rfl pg_20 rfl rfl ?_
          refine pr_s (pc1 := 7) (st1 := [.int 1, .int 0, .int 0, .int a1]) rfl (fun _ => rfl) ?_
          refine pr_s (pc1 := 8) (st1 := [.int (-1), .int 0, .int a1]) rfl (fun _ => rfl) ?_
          refine pr_callv (N := pm_X10_is) (as := [.int a1, .int 0, .int (-1)]) (rest := []) (f := 2044) (l := 83915) (c1 := 0) (k1 := 0) (c2 := 0) (k2 := 0) (v := some (.int 0)) (h1 := ph_14) rfl (fun _ => rfl) ?_ (Nat.le_of_ble_eq_true rfl) (Nat.le_of_ble_eq_true rfl) ?_
          · refine px_C_of rfl ?_
            refine pr_s (pc1 := 1) (st1 := [.int a1]) rfl (fun _ => rfl) ?_
            refine pr_s (pc1 := 2) (st1 := [.int 0, .int a1]) rfl (fun _ => rfl) ?_
            refine pr_bf (t := 14) (off := 12) (bb := decide (a1 < 0)) (st1 := []) rfl rfl rfl rfl (pb_ltF ha1.1 (show (0 : Int32).toInt ≤ 0 by decide) (by decide)) ?_
            refine pr_s (pc1 := 6) (st1 := [.int a1]) rfl (fun _ => rfl) ?_
            refine pr_s (pc1 := 7) (st1 := [.int (-1), .int a1]) rfl (fun _ => rfl) ?_
            refine pr_bt (t := 14) (off := 7) (bb := decide (((-1) : Int32) < a1)) (st1 := []) rfl rfl rfl rfl (pb_ltT (show ((-1) : Int32).toInt ≤ (-1) by decide) ha1.1 (by decide)) ?_
            refine pr_s (pc1 := 15) (st1 := [.int 0]) rfl (fun _ => rfl) ?_
            exact pr_e rfl (fun _ => rfl) ⟨rfl, rfl⟩
          show px_R _ _ _ _ (11, [(0, .ref 136), (1, .int a1)], [.int 0], _) _ _ _
          exact pr_e rfl (fun _ => rfl) ⟨rfl, rfl⟩
        show px_R _ _ _ _ (6, [(0, .ref 136), (1, .int a1)], [.int 0, .ref 136], _) _ _ _
        refine pr_bt (t := 13) (off := 7) (bb := decide ((0 : Int32) = 0)) (st1 := [.ref 136]) rfl rfl rfl rfl (by decide) ?_
        refine pr_s (pc1 := 14) (st1 := [.int 1, .ref 136]) rfl (fun _ => rfl) ?_
        refine pr_putf (pc1 := 17) (h1 := ph_15) rfl rfl pg_20 rfl rfl rfl rfl rfl rfl rfl ?_
        refine pr_s (pc1 := 18) (st1 := [.ref 136]) rfl (fun _ => rfl) ?_
        refine pr_getf (pc1 := 21) (v := .int 1) rfl rfl pg_21 rfl rfl ?_
        refine pr_bt (t := 28) (off := 7) (bb := !decide ((1 : Int32) = 0)) (st1 := []) rfl rfl rfl rfl (px_not_t (by decide)) ?_
        refine pr_s (pc1 := 29) (st1 := [.int 0]) rfl (fun _ => rfl) ?_
        exact pr_e rfl (fun _ => rfl) ⟨rfl, rfl⟩
      show px_R _ _ _ _ (5, [(0, .ref 136), (1, .int a1)], [.int 0], _) _ _ _
      refine pr_bt (t := 20) (off := 15) (bb := decide ((0 : Int32) = 0)) (st1 := []) rfl rfl rfl rfl (by decide) ?_
      refine pr_s (pc1 := 21) (st1 := [.int 0]) rfl (fun _ => rfl) ?_
      exact pr_e rfl (fun _ => rfl) ⟨rfl, rfl⟩
    show px_T _ _ _ _ (1402, [(5, .int 1), (4, .int 0), (3, .ref 164), (2, .ref 136), (1, .ref 0), (0, .retAddr 0)], [.int 0], _) _ _ _
    refine pt_s (pc1 := 1404) (lv1 := [(6, .int 0), (5, .int 1), (4, .int 0), (3, .ref 164), (2, .ref 136), (1, .ref 0), (0, .retAddr 0)]) (st1 := []) rfl rfl (fun _ => rfl) ?_
    refine pt_s (pc1 := 1405) (st1 := [.ref 136]) rfl rfl (fun _ => rfl) ?_
    refine pt_callv (N := pm_X10_thrown) (as := [.ref 136]) (rest := []) (f := 2047) (l := 83980) (c1 := 0) (k1 := 0) (c2 := 599836) (k2 := 7274189) (v := some (.int 1)) (h1 := ph_15) rfl rfl (fun ex => px_inv_hs ex rfl rfl rfl pg_21 rfl rfl rfl rfl) ?_ (Nat.le_of_ble_eq_true rfl) (Nat.le_of_ble_eq_true rfl) ?_
    · refine px_C_of rfl ?_
      refine pr_s (pc1 := 1) (st1 := [.ref 136]) rfl (fun _ => rfl) ?_
      refine pr_getf (pc1 := 4) (v := .int 1) rfl rfl pg_21 rfl rfl ?_
      exact pr_e rfl (fun _ => rfl) ⟨rfl, rfl⟩
    show px_T _ _ _ _ (1408, [(6, .int 0), (5, .int 1), (4, .int 0), (3, .ref 164), (2, .ref 136), (1, .ref 0), (0, .retAddr 0)], [.int 1], _) _ _ _
    refine pt_s (pc1 := 1410) (st1 := [.int 1, .int 1]) rfl rfl (fun _ => rfl) ?_
    refine pt_bt (t := 1415) (off := 5) (bb := decide ((1 : Int32) = 1)) (st1 := []) rfl rfl rfl rfl rfl (by decide) ?_
    refine pt_s (pc1 := 1417) (st1 := [.int 1]) rfl rfl (fun _ => rfl) ?_
    refine pt_bt (t := 1432) (off := 15) (bb := !decide ((1 : Int32) = 0)) (st1 := []) rfl rfl rfl rfl rfl (px_not_t (by decide)) ?_
    refine pt_s (pc1 := 2771) (st1 := []) rfl rfl (fun _ => rfl) ?_
    refine pt_s (pc1 := 2774) (lv1 := [(4, .int 6), (6, .int 0), (5, .int 1), (3, .ref 164), (2, .ref 136), (1, .ref 0), (0, .retAddr 0)]) (st1 := []) rfl rfl (fun _ => rfl) ?_
    refine pt_s (pc1 := 23) (st1 := []) rfl rfl (fun _ => rfl) ?_
    refine pt_s (pc1 := 25) (st1 := [.int 6]) rfl rfl (fun _ => rfl) ?_
    refine pt_s (pc1 := 26) (st1 := [.retAddr 0, .int 6]) rfl rfl (fun _ => rfl) ?_
    refine pt_s (pc1 := 27) (st1 := [.int 6, .int 6]) rfl rfl (fun _ => rfl) ?_
    refine pt_s (pc1 := 29) (st1 := [.int 6, .int 6, .int 6]) rfl rfl (fun _ => rfl) ?_
    refine pt_s (pc1 := 30) (st1 := [.int 0, .int 6]) rfl rfl (fun _ => rfl) ?_
    refine pt_bt (t := 2777) (off := 2747) (bb := decide ((0 : Int32) < (6 : Int32))) (st1 := []) rfl rfl rfl rfl rfl (by decide) ?_
    refine pt_s (pc1 := 2778) (st1 := [.int 1]) rfl rfl (fun _ => rfl) ?_
    exact pt_e rfl ⟨rfl, (rfl : px_ins pm_law 2778 = some (.ireturn, 1))⟩
set_option maxRecDepth 100000 in
set_option maxHeartbeats 40000000 in
theorem px_op_18 (a0 a1 a2 a3 a4 a5 : Int32) : px_T (some [a0, a1, a2, a3, a4, a5]) pm_law 2048 84000 (40, [(4, .int 0), (3, .ref 164), (2, .ref 136), (1, .ref 0), (0, .retAddr 0)], [.int 18], px_hs) 599837 7274195 (fun s1 => s1.2.2.1 = [.int 1] ∧ px_ins pm_law s1.1 = some (.ireturn, 1)) := by
  have ha1 : (-2147483648) ≤ a1.toInt ∧ a1.toInt ≤ 2147483647 := ⟨Int32.le_toInt a1, Int32.toInt_le a1⟩
  by_cases hs : a1.toInt < 0
  · have ha1 : (-2147483648) ≤ a1.toInt ∧ a1.toInt ≤ (-1) := ⟨ha1.1, by omega⟩
    refine pt_s (pc1 := 1435) (st1 := []) rfl rfl (fun _ => rfl) ?_
    refine pt_s (pc1 := 1436) (st1 := [.ref 0]) rfl rfl (fun _ => rfl) ?_
    refine pt_s (pc1 := 1437) (st1 := [.retAddr 0, .ref 0]) rfl rfl (fun _ => rfl) ?_
    refine pt_s (pc1 := 1439) (st1 := [.int 0, .retAddr 0, .ref 0]) rfl rfl (fun _ => rfl) ?_
    refine pt_s (pc1 := 1440) (st1 := [.int 1, .int 0, .retAddr 0, .ref 0]) rfl rfl (fun _ => rfl) ?_
    refine pt_s (pc1 := 1441) (st1 := [.int 1, .retAddr 0, .ref 0]) rfl rfl (fun _ => rfl) ?_
    refine pt_s (pc1 := 1442) (st1 := [.int a1, .ref 0]) rfl rfl (fun _ => rfl) ?_
    refine pt_s (pc1 := 1443) (st1 := [.retAddr 0, .int a1, .ref 0]) rfl rfl (fun _ => rfl) ?_
    refine pt_s (pc1 := 1445) (st1 := [.int 0, .retAddr 0, .int a1, .ref 0]) rfl rfl (fun _ => rfl) ?_
    refine pt_s (pc1 := 1446) (st1 := [.int 2, .int 0, .retAddr 0, .int a1, .ref 0]) rfl rfl (fun _ => rfl) ?_
    refine pt_s (pc1 := 1447) (st1 := [.int 2, .retAddr 0, .int a1, .ref 0]) rfl rfl (fun _ => rfl) ?_
    refine pt_s (pc1 := 1448) (st1 := [.int a2, .int a1, .ref 0]) rfl rfl (fun _ => rfl) ?_
    refine pt_s (pc1 := 1449) (st1 := [.ref 164, .int a2, .int a1, .ref 0]) rfl rfl (fun _ => rfl) ?_
    refine pt_callv (N := pm_L_candidates) (as := [.ref 0, .int a1, .int a2, .ref 164]) (rest := []) (f := 2047) (l := 83976) (c1 := 1) (k1 := 6) (c2 := 599836) (k2 := 7274189) (v := some (.int 1)) (h1 := ph_14) rfl rfl (fun _ => rfl) ?_ (Nat.le_of_ble_eq_true rfl) (Nat.le_of_ble_eq_true rfl) ?_
    · refine px_C_of rfl ?_
      refine pr_s (pc1 := 1) (st1 := [.ref 164]) rfl (fun _ => rfl) ?_
      refine pr_s (pc1 := 2) (st1 := [.int 0, .ref 164]) rfl (fun _ => rfl) ?_
      refine pr_s (pc1 := 3) (st1 := [.ref 0, .int 0, .ref 164]) rfl (fun _ => rfl) ?_
      refine pr_s (pc1 := 4) (st1 := [.int a1, .ref 0, .int 0, .ref 164]) rfl (fun _ => rfl) ?_
      refine pr_s (pc1 := 5) (st1 := [.int a2, .int a1, .ref 0, .int 0, .ref 164]) rfl (fun _ => rfl) ?_
      refine pr_callx (N := pm_X6_candidates) (as := [.ref 0, .int a1, .int a2]) (rest := [.int 0, .ref 164]) (f := 2046) (l := 83953) (c1 := 1) (k1 := 6) (c2 := 0) (k2 := 0) (E := 11) (h1 := ph_14) (a := 13) (y1 := 4) (y2 := 2) rfl (fun ex => px_inv_hs ex rfl rfl rfl pg_0 rfl rfl rfl rfl) ?_ (Nat.le_of_ble_eq_true rfl) (Nat.le_of_ble_eq_true rfl) rfl rfl rfl rfl ?_
      · refine px_C_of rfl ?_
        refine pr_s (pc1 := 1) (st1 := [.ref 0]) rfl (fun _ => rfl) ?_
        refine pr_s (pc1 := 2) (st1 := [.int a1, .ref 0]) rfl (fun _ => rfl) ?_
        refine pr_callo (N := pm_X6_needRule) (as := [.ref 0, .int a1]) (rest := []) (f := 2045) (l := 83932) (E := 11) (h1 := ph_14) rfl (fun ex => px_inv_hs ex rfl rfl rfl pg_0 rfl rfl rfl rfl) ?_ rfl ⟨rfl, rfl⟩
        · refine px_C_of rfl ?_
          refine pr_s (pc1 := 1) (st1 := [.int a1]) rfl (fun _ => rfl) ?_
          refine pr_bt (t := 12) (off := 11) (bb := decide (a1 < 0)) (st1 := []) rfl rfl rfl rfl (pb_ltT ha1.2 (show 0 ≤ (0 : Int32).toInt by decide) (by decide)) ?_
          refine pr_mh (z1 := 1) (z2 := 6) (c1 := 0) (k1 := 0) (pc1 := 22) (n := 165) (r := []) (h1 := ph_14) (es := fun n => [.inr (11, [])]) rfl (fun _ => rfl) pl_0 rfl (Nat.le_of_ble_eq_true rfl) (Nat.le_of_ble_eq_true rfl) ?_
          exact pr_e rfl (fun _ => rfl) ⟨rfl, rfl⟩
      show px_R _ _ _ _ (15, [(0, .ref 0), (1, .int a1), (2, .int a2), (3, .ref 164)], [], _) _ _ _
      refine pr_s (pc1 := 16) (st1 := [.int 1]) rfl (fun _ => rfl) ?_
      exact pr_e rfl (fun _ => rfl) ⟨rfl, rfl⟩
    show px_T _ _ _ _ (1452, [(4, .int 0), (3, .ref 164), (2, .ref 136), (1, .ref 0), (0, .retAddr 0)], [.int 1], _) _ _ _
    refine pt_s (pc1 := 1454) (lv1 := [(5, .int 1), (4, .int 0), (3, .ref 164), (2, .ref 136), (1, .ref 0), (0, .retAddr 0)]) (st1 := []) rfl rfl (fun _ => rfl) ?_
    refine pt_s (pc1 := 1455) (st1 := [.ref 136]) rfl rfl (fun _ => rfl) ?_
    refine pt_s (pc1 := 1456) (st1 := [.retAddr 0, .ref 136]) rfl rfl (fun _ => rfl) ?_
    refine pt_s (pc1 := 1458) (st1 := [.int 0, .retAddr 0, .ref 136]) rfl rfl (fun _ => rfl) ?_
    refine pt_s (pc1 := 1459) (st1 := [.int 1, .int 0, .retAddr 0, .ref 136]) rfl rfl (fun _ => rfl) ?_
    refine pt_s (pc1 := 1460) (st1 := [.int 1, .retAddr 0, .ref 136]) rfl rfl (fun _ => rfl) ?_
    refine pt_s (pc1 := 1461) (st1 := [.int a1, .ref 136]) rfl rfl (fun _ => rfl) ?_
    refine pt_s (pc1 := 1462) (st1 := [.retAddr 0, .int a1, .ref 136]) rfl rfl (fun _ => rfl) ?_
    refine pt_s (pc1 := 1464) (st1 := [.int 0, .retAddr 0, .int a1, .ref 136]) rfl rfl (fun _ => rfl) ?_
    refine pt_s (pc1 := 1465) (st1 := [.int 2, .int 0, .retAddr 0, .int a1, .ref 136]) rfl rfl (fun _ => rfl) ?_
    refine pt_s (pc1 := 1466) (st1 := [.int 2, .retAddr 0, .int a1, .ref 136]) rfl rfl (fun _ => rfl) ?_
    refine pt_s (pc1 := 1467) (st1 := [.int a2, .int a1, .ref 136]) rfl rfl (fun _ => rfl) ?_
    refine pt_callv (N := pm_X10_candidates) (as := [.ref 136, .int a1, .int a2]) (rest := []) (f := 2047) (l := 83976) (c1 := 0) (k1 := 0) (c2 := 599836) (k2 := 7274189) (v := some (.int 0)) (h1 := ph_15) rfl rfl (fun ex => px_inv_hs ex rfl rfl rfl pg_20 rfl rfl rfl rfl) ?_ (Nat.le_of_ble_eq_true rfl) (Nat.le_of_ble_eq_true rfl) ?_
    · refine px_C_of rfl ?_
      refine pr_s (pc1 := 1) (st1 := [.ref 136]) rfl (fun _ => rfl) ?_
      refine pr_s (pc1 := 2) (st1 := [.ref 136, .ref 136]) rfl (fun _ => rfl) ?_
      refine pr_s (pc1 := 3) (st1 := [.int a1, .ref 136, .ref 136]) rfl (fun _ => rfl) ?_
      refine pr_s (pc1 := 4) (st1 := [.int a2, .int a1, .ref 136, .ref 136]) rfl (fun _ => rfl) ?_
      refine pr_callv (N := pm_X10_isCondition) (as := [.ref 136, .int a1, .int a2]) (rest := [.ref 136]) (f := 2046) (l := 83954) (c1 := 0) (k1 := 0) (c2 := 0) (k2 := 0) (v := some (.int 0)) (h1 := ph_14) rfl (fun ex => px_inv_hs ex rfl rfl rfl pg_20 rfl rfl rfl rfl) ?_ (Nat.le_of_ble_eq_true rfl) (Nat.le_of_ble_eq_true rfl) ?_
      · refine px_C_of rfl ?_
        refine pr_s (pc1 := 1) (st1 := [.ref 136]) rfl (fun _ => rfl) ?_
        refine pr_s (pc1 := 2) (st1 := [.int a1, .ref 136]) rfl (fun _ => rfl) ?_
        refine pr_callv (N := pm_X10_isRule) (as := [.ref 136, .int a1]) (rest := []) (f := 2045) (l := 83933) (c1 := 0) (k1 := 0) (c2 := 0) (k2 := 0) (v := some (.int 0)) (h1 := ph_14) rfl (fun ex => px_inv_hs ex rfl rfl rfl pg_20 rfl rfl rfl rfl) ?_ (Nat.le_of_ble_eq_true rfl) (Nat.le_of_ble_eq_true rfl) ?_
        · refine px_C_of rfl ?_
          refine pr_s (pc1 := 1) (st1 := [.int a1]) rfl (fun _ => rfl) ?_
          refine pr_s (pc1 := 2) (st1 := [.int 0, .int a1]) rfl (fun _ => rfl) ?_
          refine pr_s (pc1 := 3) (st1 := [.ref 136, .int 0, .int a1]) rfl (fun _ => rfl) ?_
          refine pr_getf (pc1 := 6) (v := .int 0) rfl rfl pg_20 rfl rfl ?_
          refine pr_s (pc1 := 7) (st1 := [.int 1, .int 0, .int 0, .int a1]) rfl (fun _ => rfl) ?_
          refine pr_s (pc1 := 8) (st1 := [.int (-1), .int 0, .int a1]) rfl (fun _ => rfl) ?_
          refine pr_callv (N := pm_X10_is) (as := [.int a1, .int 0, .int (-1)]) (rest := []) (f := 2044) (l := 83911) (c1 := 0) (k1 := 0) (c2 := 0) (k2 := 0) (v := some (.int 0)) (h1 := ph_14) rfl (fun _ => rfl) ?_ (Nat.le_of_ble_eq_true rfl) (Nat.le_of_ble_eq_true rfl) ?_
          · refine px_C_of rfl ?_
            refine pr_s (pc1 := 1) (st1 := [.int a1]) rfl (fun _ => rfl) ?_
            refine pr_s (pc1 := 2) (st1 := [.int 0, .int a1]) rfl (fun _ => rfl) ?_
            refine pr_bt (t := 14) (off := 12) (bb := decide (a1 < 0)) (st1 := []) rfl rfl rfl rfl (pb_ltT ha1.2 (show 0 ≤ (0 : Int32).toInt by decide) (by decide)) ?_
            refine pr_s (pc1 := 15) (st1 := [.int 0]) rfl (fun _ => rfl) ?_
            exact pr_e rfl (fun _ => rfl) ⟨rfl, rfl⟩
          show px_R _ _ _ _ (11, [(0, .ref 136), (1, .int a1)], [.int 0], _) _ _ _
          exact pr_e rfl (fun _ => rfl) ⟨rfl, rfl⟩
        show px_R _ _ _ _ (5, [(0, .ref 136), (1, .int a1), (2, .int a2)], [.int 0], _) _ _ _
        refine pr_bt (t := 31) (off := 26) (bb := decide ((0 : Int32) = 0)) (st1 := []) rfl rfl rfl rfl (by decide) ?_
        refine pr_s (pc1 := 32) (st1 := [.int 0]) rfl (fun _ => rfl) ?_
        exact pr_e rfl (fun _ => rfl) ⟨rfl, rfl⟩
      show px_R _ _ _ _ (7, [(0, .ref 136), (1, .int a1), (2, .int a2)], [.int 0, .ref 136], _) _ _ _
      refine pr_bt (t := 14) (off := 7) (bb := decide ((0 : Int32) = 0)) (st1 := [.ref 136]) rfl rfl rfl rfl (by decide) ?_
      refine pr_s (pc1 := 15) (st1 := [.int 1, .ref 136]) rfl (fun _ => rfl) ?_
      refine pr_putf (pc1 := 18) (h1 := ph_15) rfl rfl pg_20 rfl rfl rfl rfl rfl rfl rfl ?_
      refine pr_s (pc1 := 19) (st1 := [.ref 136]) rfl (fun _ => rfl) ?_
      refine pr_getf (pc1 := 22) (v := .int 1) rfl rfl pg_21 rfl rfl ?_
      refine pr_bf (t := 27) (off := 5) (bb := decide ((1 : Int32) ≤ 0)) (st1 := []) rfl rfl rfl rfl (by decide) ?_
      refine pr_s (pc1 := 26) (st1 := [.int 0]) rfl (fun _ => rfl) ?_
      exact pr_e rfl (fun _ => rfl) ⟨rfl, rfl⟩
    show px_T _ _ _ _ (1470, [(5, .int 1), (4, .int 0), (3, .ref 164), (2, .ref 136), (1, .ref 0), (0, .retAddr 0)], [.int 0], _) _ _ _
    refine pt_s (pc1 := 1472) (lv1 := [(6, .int 0), (5, .int 1), (4, .int 0), (3, .ref 164), (2, .ref 136), (1, .ref 0), (0, .retAddr 0)]) (st1 := []) rfl rfl (fun _ => rfl) ?_
    refine pt_s (pc1 := 1473) (st1 := [.ref 136]) rfl rfl (fun _ => rfl) ?_
    refine pt_callv (N := pm_X10_thrown) (as := [.ref 136]) (rest := []) (f := 2047) (l := 83980) (c1 := 0) (k1 := 0) (c2 := 599836) (k2 := 7274189) (v := some (.int 1)) (h1 := ph_15) rfl rfl (fun ex => px_inv_hs ex rfl rfl rfl pg_21 rfl rfl rfl rfl) ?_ (Nat.le_of_ble_eq_true rfl) (Nat.le_of_ble_eq_true rfl) ?_
    · refine px_C_of rfl ?_
      refine pr_s (pc1 := 1) (st1 := [.ref 136]) rfl (fun _ => rfl) ?_
      refine pr_getf (pc1 := 4) (v := .int 1) rfl rfl pg_21 rfl rfl ?_
      exact pr_e rfl (fun _ => rfl) ⟨rfl, rfl⟩
    show px_T _ _ _ _ (1476, [(6, .int 0), (5, .int 1), (4, .int 0), (3, .ref 164), (2, .ref 136), (1, .ref 0), (0, .retAddr 0)], [.int 1], _) _ _ _
    refine pt_s (pc1 := 1478) (st1 := [.int 1, .int 1]) rfl rfl (fun _ => rfl) ?_
    refine pt_bt (t := 1483) (off := 5) (bb := decide ((1 : Int32) = 1)) (st1 := []) rfl rfl rfl rfl rfl (by decide) ?_
    refine pt_s (pc1 := 1485) (st1 := [.int 1]) rfl rfl (fun _ => rfl) ?_
    refine pt_bt (t := 1500) (off := 15) (bb := !decide ((1 : Int32) = 0)) (st1 := []) rfl rfl rfl rfl rfl (px_not_t (by decide)) ?_
    refine pt_s (pc1 := 2771) (st1 := []) rfl rfl (fun _ => rfl) ?_
    refine pt_s (pc1 := 2774) (lv1 := [(4, .int 6), (6, .int 0), (5, .int 1), (3, .ref 164), (2, .ref 136), (1, .ref 0), (0, .retAddr 0)]) (st1 := []) rfl rfl (fun _ => rfl) ?_
    refine pt_s (pc1 := 23) (st1 := []) rfl rfl (fun _ => rfl) ?_
    refine pt_s (pc1 := 25) (st1 := [.int 6]) rfl rfl (fun _ => rfl) ?_
    refine pt_s (pc1 := 26) (st1 := [.retAddr 0, .int 6]) rfl rfl (fun _ => rfl) ?_
    refine pt_s (pc1 := 27) (st1 := [.int 6, .int 6]) rfl rfl (fun _ => rfl) ?_
    refine pt_s (pc1 := 29) (st1 := [.int 6, .int 6, .int 6]) rfl rfl (fun _ => rfl) ?_
    refine pt_s (pc1 := 30) (st1 := [.int 0, .int 6]) rfl rfl (fun _ => rfl) ?_
    refine pt_bt (t := 2777) (off := 2747) (bb := decide ((0 : Int32) < (6 : Int32))) (st1 := []) rfl rfl rfl rfl rfl (by decide) ?_
    refine pt_s (pc1 := 2778) (st1 := [.int 1]) rfl rfl (fun _ => rfl) ?_
    exact pt_e rfl ⟨rfl, (rfl : px_ins pm_law 2778 = some (.ireturn, 1))⟩
  · have ha1 : 0 ≤ a1.toInt ∧ a1.toInt ≤ 2147483647 := ⟨by omega, ha1.2⟩
    refine pt_s (pc1 := 1435) (st1 := []) rfl rfl (fun _ => rfl) ?_
    refine pt_s (pc1 := 1436) (st1 := [.ref 0]) rfl rfl (fun _ => rfl) ?_
    refine pt_s (pc1 := 1437) (st1 := [.retAddr 0, .ref 0]) rfl rfl (fun _ => rfl) ?_
    refine pt_s (pc1 := 1439) (st1 := [.int 0, .retAddr 0, .ref 0]) rfl rfl (fun _ => rfl) ?_
    refine pt_s (pc1 := 1440) (st1 := [.int 1, .int 0, .retAddr 0, .ref 0]) rfl rfl (fun _ => rfl) ?_
    refine pt_s (pc1 := 1441) (st1 := [.int 1, .retAddr 0, .ref 0]) rfl rfl (fun _ => rfl) ?_
    refine pt_s (pc1 := 1442) (st1 := [.int a1, .ref 0]) rfl rfl (fun _ => rfl) ?_
    refine pt_s (pc1 := 1443) (st1 := [.retAddr 0, .int a1, .ref 0]) rfl rfl (fun _ => rfl) ?_
    refine pt_s (pc1 := 1445) (st1 := [.int 0, .retAddr 0, .int a1, .ref 0]) rfl rfl (fun _ => rfl) ?_
    refine pt_s (pc1 := 1446) (st1 := [.int 2, .int 0, .retAddr 0, .int a1, .ref 0]) rfl rfl (fun _ => rfl) ?_
    refine pt_s (pc1 := 1447) (st1 := [.int 2, .retAddr 0, .int a1, .ref 0]) rfl rfl (fun _ => rfl) ?_
    refine pt_s (pc1 := 1448) (st1 := [.int a2, .int a1, .ref 0]) rfl rfl (fun _ => rfl) ?_
    refine pt_s (pc1 := 1449) (st1 := [.ref 164, .int a2, .int a1, .ref 0]) rfl rfl (fun _ => rfl) ?_
    refine pt_callv (N := pm_L_candidates) (as := [.ref 0, .int a1, .int a2, .ref 164]) (rest := []) (f := 2047) (l := 83976) (c1 := 1) (k1 := 6) (c2 := 599836) (k2 := 7274189) (v := some (.int 1)) (h1 := ph_14) rfl rfl (fun _ => rfl) ?_ (Nat.le_of_ble_eq_true rfl) (Nat.le_of_ble_eq_true rfl) ?_
    · refine px_C_of rfl ?_
      refine pr_s (pc1 := 1) (st1 := [.ref 164]) rfl (fun _ => rfl) ?_
      refine pr_s (pc1 := 2) (st1 := [.int 0, .ref 164]) rfl (fun _ => rfl) ?_
      refine pr_s (pc1 := 3) (st1 := [.ref 0, .int 0, .ref 164]) rfl (fun _ => rfl) ?_
      refine pr_s (pc1 := 4) (st1 := [.int a1, .ref 0, .int 0, .ref 164]) rfl (fun _ => rfl) ?_
      refine pr_s (pc1 := 5) (st1 := [.int a2, .int a1, .ref 0, .int 0, .ref 164]) rfl (fun _ => rfl) ?_
      refine pr_callx (N := pm_X6_candidates) (as := [.ref 0, .int a1, .int a2]) (rest := [.int 0, .ref 164]) (f := 2046) (l := 83953) (c1 := 1) (k1 := 6) (c2 := 0) (k2 := 0) (E := 11) (h1 := ph_14) (a := 13) (y1 := 4) (y2 := 2) rfl (fun ex => px_inv_hs ex rfl rfl rfl pg_0 rfl rfl rfl rfl) ?_ (Nat.le_of_ble_eq_true rfl) (Nat.le_of_ble_eq_true rfl) rfl rfl rfl rfl ?_
      · refine px_C_of rfl ?_
        refine pr_s (pc1 := 1) (st1 := [.ref 0]) rfl (fun _ => rfl) ?_
        refine pr_s (pc1 := 2) (st1 := [.int a1, .ref 0]) rfl (fun _ => rfl) ?_
        refine pr_callo (N := pm_X6_needRule) (as := [.ref 0, .int a1]) (rest := []) (f := 2045) (l := 83932) (E := 11) (h1 := ph_14) rfl (fun ex => px_inv_hs ex rfl rfl rfl pg_0 rfl rfl rfl rfl) ?_ rfl ⟨rfl, rfl⟩
        · refine px_C_of rfl ?_
          refine pr_s (pc1 := 1) (st1 := [.int a1]) rfl (fun _ => rfl) ?_
          refine pr_bf (t := 12) (off := 11) (bb := decide (a1 < 0)) (st1 := []) rfl rfl rfl rfl (pb_ltF ha1.1 (show (0 : Int32).toInt ≤ 0 by decide) (by decide)) ?_
          refine pr_s (pc1 := 5) (st1 := [.int a1]) rfl (fun _ => rfl) ?_
          refine pr_s (pc1 := 6) (st1 := [.ref 0, .int a1]) rfl (fun _ => rfl) ?_
          refine pr_getf (pc1 := 9) (v := .int 0) rfl rfl pg_0 rfl rfl ?_
          refine pr_bf (t := 23) (off := 14) (bb := decide (a1 < 0)) (st1 := []) rfl rfl rfl rfl (pb_ltF ha1.1 (show (0 : Int32).toInt ≤ 0 by decide) (by decide)) ?_
          refine pr_mh (z1 := 1) (z2 := 6) (c1 := 0) (k1 := 0) (pc1 := 22) (n := 165) (r := []) (h1 := ph_14) (es := fun n => [.inr (11, [])]) rfl (fun _ => rfl) pl_0 rfl (Nat.le_of_ble_eq_true rfl) (Nat.le_of_ble_eq_true rfl) ?_
          exact pr_e rfl (fun _ => rfl) ⟨rfl, rfl⟩
      show px_R _ _ _ _ (15, [(0, .ref 0), (1, .int a1), (2, .int a2), (3, .ref 164)], [], _) _ _ _
      refine pr_s (pc1 := 16) (st1 := [.int 1]) rfl (fun _ => rfl) ?_
      exact pr_e rfl (fun _ => rfl) ⟨rfl, rfl⟩
    show px_T _ _ _ _ (1452, [(4, .int 0), (3, .ref 164), (2, .ref 136), (1, .ref 0), (0, .retAddr 0)], [.int 1], _) _ _ _
    refine pt_s (pc1 := 1454) (lv1 := [(5, .int 1), (4, .int 0), (3, .ref 164), (2, .ref 136), (1, .ref 0), (0, .retAddr 0)]) (st1 := []) rfl rfl (fun _ => rfl) ?_
    refine pt_s (pc1 := 1455) (st1 := [.ref 136]) rfl rfl (fun _ => rfl) ?_
    refine pt_s (pc1 := 1456) (st1 := [.retAddr 0, .ref 136]) rfl rfl (fun _ => rfl) ?_
    refine pt_s (pc1 := 1458) (st1 := [.int 0, .retAddr 0, .ref 136]) rfl rfl (fun _ => rfl) ?_
    refine pt_s (pc1 := 1459) (st1 := [.int 1, .int 0, .retAddr 0, .ref 136]) rfl rfl (fun _ => rfl) ?_
    refine pt_s (pc1 := 1460) (st1 := [.int 1, .retAddr 0, .ref 136]) rfl rfl (fun _ => rfl) ?_
    refine pt_s (pc1 := 1461) (st1 := [.int a1, .ref 136]) rfl rfl (fun _ => rfl) ?_
    refine pt_s (pc1 := 1462) (st1 := [.retAddr 0, .int a1, .ref 136]) rfl rfl (fun _ => rfl) ?_
    refine pt_s (pc1 := 1464) (st1 := [.int 0, .retAddr 0, .int a1, .ref 136]) rfl rfl (fun _ => rfl) ?_
    refine pt_s (pc1 := 1465) (st1 := [.int 2, .int 0, .retAddr 0, .int a1, .ref 136]) rfl rfl (fun _ => rfl) ?_
    refine pt_s (pc1 := 1466) (st1 := [.int 2, .retAddr 0, .int a1, .ref 136]) rfl rfl (fun _ => rfl) ?_
    refine pt_s (pc1 := 1467) (st1 := [.int a2, .int a1, .ref 136]) rfl rfl (fun _ => rfl) ?_
    refine pt_callv (N := pm_X10_candidates) (as := [.ref 136, .int a1, .int a2]) (rest := []) (f := 2047) (l := 83976) (c1 := 0) (k1 := 0) (c2 := 599836) (k2 := 7274189) (v := some (.int 0)) (h1 := ph_15) rfl rfl (fun ex => px_inv_hs ex rfl rfl rfl pg_20 rfl rfl rfl rfl) ?_ (Nat.le_of_ble_eq_true rfl) (Nat.le_of_ble_eq_true rfl) ?_
    · refine px_C_of rfl ?_
      refine pr_s (pc1 := 1) (st1 := [.ref 136]) rfl (fun _ => rfl) ?_
      refine pr_s (pc1 := 2) (st1 := [.ref 136, .ref 136]) rfl (fun _ => rfl) ?_
      refine pr_s (pc1 := 3) (st1 := [.int a1, .ref 136, .ref 136]) rfl (fun _ => rfl) ?_
      refine pr_s (pc1 := 4) (st1 := [.int a2, .int a1, .ref 136, .ref 136]) rfl (fun _ => rfl) ?_
      refine pr_callv (N := pm_X10_isCondition) (as := [.ref 136, .int a1, .int a2]) (rest := [.ref 136]) (f := 2046) (l := 83954) (c1 := 0) (k1 := 0) (c2 := 0) (k2 := 0) (v := some (.int 0)) (h1 := ph_14) rfl (fun ex => px_inv_hs ex rfl rfl rfl pg_20 rfl rfl rfl rfl) ?_ (Nat.le_of_ble_eq_true rfl) (Nat.le_of_ble_eq_true rfl) ?_
      · refine px_C_of rfl ?_
        refine pr_s (pc1 := 1) (st1 := [.ref 136]) rfl (fun _ => rfl) ?_
        refine pr_s (pc1 := 2) (st1 := [.int a1, .ref 136]) rfl (fun _ => rfl) ?_
        refine pr_callv (N := pm_X10_isRule) (as := [.ref 136, .int a1]) (rest := []) (f := 2045) (l := 83933) (c1 := 0) (k1 := 0) (c2 := 0) (k2 := 0) (v := some (.int 0)) (h1 := ph_14) rfl (fun ex => px_inv_hs ex rfl rfl rfl pg_20 rfl rfl rfl rfl) ?_ (Nat.le_of_ble_eq_true rfl) (Nat.le_of_ble_eq_true rfl) ?_
        · refine px_C_of rfl ?_
          refine pr_s (pc1 := 1) (st1 := [.int a1]) rfl (fun _ => rfl) ?_
          refine pr_s (pc1 := 2) (st1 := [.int 0, .int a1]) rfl (fun _ => rfl) ?_
          refine pr_s (pc1 := 3) (st1 := [.ref 136, .int 0, .int a1]) rfl (fun _ => rfl) ?_
          refine pr_getf (pc1 := 6) (v := .int 0) rfl rfl pg_20 rfl rfl ?_
          refine pr_s (pc1 := 7) (st1 := [.int 1, .int 0, .int 0, .int a1]) rfl (fun _ => rfl) ?_
          refine pr_s (pc1 := 8) (st1 := [.int (-1), .int 0, .int a1]) rfl (fun _ => rfl) ?_
          refine pr_callv (N := pm_X10_is) (as := [.int a1, .int 0, .int (-1)]) (rest := []) (f := 2044) (l := 83911) (c1 := 0) (k1 := 0) (c2 := 0) (k2 := 0) (v := some (.int 0)) (h1 := ph_14) rfl (fun _ => rfl) ?_ (Nat.le_of_ble_eq_true rfl) (Nat.le_of_ble_eq_true rfl) ?_
          · refine px_C_of rfl ?_
            refine pr_s (pc1 := 1) (st1 := [.int a1]) rfl (fun _ => rfl) ?_
            refine pr_s (pc1 := 2) (st1 := [.int 0, .int a1]) rfl (fun _ => rfl) ?_
            refine pr_bf (t := 14) (off := 12) (bb := decide (a1 < 0)) (st1 := []) rfl rfl rfl rfl (pb_ltF ha1.1 (show (0 : Int32).toInt ≤ 0 by decide) (by decide)) ?_
            refine pr_s (pc1 := 6) (st1 := [.int a1]) rfl (fun _ => rfl) ?_
            refine pr_s (pc1 := 7) (st1 := [.int (-1), .int a1]) rfl (fun _ => rfl) ?_
            refine pr_bt (t := 14) (off := 7) (bb := decide (((-1) : Int32) < a1)) (st1 := []) rfl rfl rfl rfl (pb_ltT (show ((-1) : Int32).toInt ≤ (-1) by decide) ha1.1 (by decide)) ?_
            refine pr_s (pc1 := 15) (st1 := [.int 0]) rfl (fun _ => rfl) ?_
            exact pr_e rfl (fun _ => rfl) ⟨rfl, rfl⟩
          show px_R _ _ _ _ (11, [(0, .ref 136), (1, .int a1)], [.int 0], _) _ _ _
          exact pr_e rfl (fun _ => rfl) ⟨rfl, rfl⟩
        show px_R _ _ _ _ (5, [(0, .ref 136), (1, .int a1), (2, .int a2)], [.int 0], _) _ _ _
        refine pr_bt (t := 31) (off := 26) (bb := decide ((0 : Int32) = 0)) (st1 := []) rfl rfl rfl rfl (by decide) ?_
        refine pr_s (pc1 := 32) (st1 := [.int 0]) rfl (fun _ => rfl) ?_
        exact pr_e rfl (fun _ => rfl) ⟨rfl, rfl⟩
      show px_R _ _ _ _ (7, [(0, .ref 136), (1, .int a1), (2, .int a2)], [.int 0, .ref 136], _) _ _ _
      refine pr_bt (t := 14) (off := 7) (bb := decide ((0 : Int32) = 0)) (st1 := [.ref 136]) rfl rfl rfl rfl (by decide) ?_
      refine pr_s (pc1 := 15) (st1 := [.int 1, .ref 136]) rfl (fun _ => rfl) ?_
      refine pr_putf (pc1 := 18) (h1 := ph_15) rfl rfl pg_20 rfl rfl rfl rfl rfl rfl rfl ?_
      refine pr_s (pc1 := 19) (st1 := [.ref 136]) rfl (fun _ => rfl) ?_
      refine pr_getf (pc1 := 22) (v := .int 1) rfl rfl pg_21 rfl rfl ?_
      refine pr_bf (t := 27) (off := 5) (bb := decide ((1 : Int32) ≤ 0)) (st1 := []) rfl rfl rfl rfl (by decide) ?_
      refine pr_s (pc1 := 26) (st1 := [.int 0]) rfl (fun _ => rfl) ?_
      exact pr_e rfl (fun _ => rfl) ⟨rfl, rfl⟩
    show px_T _ _ _ _ (1470, [(5, .int 1), (4, .int 0), (3, .ref 164), (2, .ref 136), (1, .ref 0), (0, .retAddr 0)], [.int 0], _) _ _ _
    refine pt_s (pc1 := 1472) (lv1 := [(6, .int 0), (5, .int 1), (4, .int 0), (3, .ref 164), (2, .ref 136), (1, .ref 0), (0, .retAddr 0)]) (st1 := []) rfl rfl (fun _ => rfl) ?_
    refine pt_s (pc1 := 1473) (st1 := [.ref 136]) rfl rfl (fun _ => rfl) ?_
    refine pt_callv (N := pm_X10_thrown) (as := [.ref 136]) (rest := []) (f := 2047) (l := 83980) (c1 := 0) (k1 := 0) (c2 := 599836) (k2 := 7274189) (v := some (.int 1)) (h1 := ph_15) rfl rfl (fun ex => px_inv_hs ex rfl rfl rfl pg_21 rfl rfl rfl rfl) ?_ (Nat.le_of_ble_eq_true rfl) (Nat.le_of_ble_eq_true rfl) ?_
    · refine px_C_of rfl ?_
      refine pr_s (pc1 := 1) (st1 := [.ref 136]) rfl (fun _ => rfl) ?_
      refine pr_getf (pc1 := 4) (v := .int 1) rfl rfl pg_21 rfl rfl ?_
      exact pr_e rfl (fun _ => rfl) ⟨rfl, rfl⟩
    show px_T _ _ _ _ (1476, [(6, .int 0), (5, .int 1), (4, .int 0), (3, .ref 164), (2, .ref 136), (1, .ref 0), (0, .retAddr 0)], [.int 1], _) _ _ _
    refine pt_s (pc1 := 1478) (st1 := [.int 1, .int 1]) rfl rfl (fun _ => rfl) ?_
    refine pt_bt (t := 1483) (off := 5) (bb := decide ((1 : Int32) = 1)) (st1 := []) rfl rfl rfl rfl rfl (by decide) ?_
    refine pt_s (pc1 := 1485) (st1 := [.int 1]) rfl rfl (fun _ => rfl) ?_
    refine pt_bt (t := 1500) (off := 15) (bb := !decide ((1 : Int32) = 0)) (st1 := []) rfl rfl rfl rfl rfl (px_not_t (by decide)) ?_
    refine pt_s (pc1 := 2771) (st1 := []) rfl rfl (fun _ => rfl) ?_
    refine pt_s (pc1 := 2774) (lv1 := [(4, .int 6), (6, .int 0), (5, .int 1), (3, .ref 164), (2, .ref 136), (1, .ref 0), (0, .retAddr 0)]) (st1 := []) rfl rfl (fun _ => rfl) ?_
    refine pt_s (pc1 := 23) (st1 := []) rfl rfl (fun _ => rfl) ?_
    refine pt_s (pc1 := 25) (st1 := [.int 6]) rfl rfl (fun _ => rfl) ?_
    refine pt_s (pc1 := 26) (st1 := [.retAddr 0, .int 6]) rfl rfl (fun _ => rfl) ?_
    refine pt_s (pc1 := 27) (st1 := [.int 6, .int 6]) rfl rfl (fun _ => rfl) ?_
    refine pt_s (pc1 := 29) (st1 := [.int 6, .int 6, .int 6]) rfl rfl (fun _ => rfl) ?_
    refine pt_s (pc1 := 30) (st1 := [.int 0, .int 6]) rfl rfl (fun _ => rfl) ?_
    refine pt_bt (t := 2777) (off := 2747) (bb := decide ((0 : Int32) < (6 : Int32))) (st1 := []) rfl rfl rfl rfl rfl (by decide) ?_
    refine pt_s (pc1 := 2778) (st1 := [.int 1]) rfl rfl (fun _ => rfl) ?_
    exact pt_e rfl ⟨rfl, (rfl : px_ins pm_law 2778 = some (.ireturn, 1))⟩
set_option maxRecDepth 100000 in
set_option maxHeartbeats 40000000 in
theorem px_op_19 (a0 a1 a2 a3 a4 a5 : Int32) : px_T (some [a0, a1, a2, a3, a4, a5]) pm_law 2048 84000 (40, [(4, .int 0), (3, .ref 164), (2, .ref 136), (1, .ref 0), (0, .retAddr 0)], [.int 19], px_hs) 599837 7274195 (fun s1 => s1.2.2.1 = [.int 1] ∧ px_ins pm_law s1.1 = some (.ireturn, 1)) := by
  have ha1 : (-2147483648) ≤ a1.toInt ∧ a1.toInt ≤ 2147483647 := ⟨Int32.le_toInt a1, Int32.toInt_le a1⟩
  by_cases hs : a1.toInt < 0
  · have ha1 : (-2147483648) ≤ a1.toInt ∧ a1.toInt ≤ (-1) := ⟨ha1.1, by omega⟩
    refine pt_s (pc1 := 1503) (st1 := []) rfl rfl (fun _ => rfl) ?_
    refine pt_s (pc1 := 1504) (st1 := [.ref 0]) rfl rfl (fun _ => rfl) ?_
    refine pt_s (pc1 := 1505) (st1 := [.retAddr 0, .ref 0]) rfl rfl (fun _ => rfl) ?_
    refine pt_s (pc1 := 1507) (st1 := [.int 0, .retAddr 0, .ref 0]) rfl rfl (fun _ => rfl) ?_
    refine pt_s (pc1 := 1508) (st1 := [.int 1, .int 0, .retAddr 0, .ref 0]) rfl rfl (fun _ => rfl) ?_
    refine pt_s (pc1 := 1509) (st1 := [.int 1, .retAddr 0, .ref 0]) rfl rfl (fun _ => rfl) ?_
    refine pt_s (pc1 := 1510) (st1 := [.int a1, .ref 0]) rfl rfl (fun _ => rfl) ?_
    refine pt_s (pc1 := 1511) (st1 := [.ref 164, .int a1, .ref 0]) rfl rfl (fun _ => rfl) ?_
    refine pt_callv (N := pm_L_firings) (as := [.ref 0, .int a1, .ref 164]) (rest := []) (f := 2047) (l := 83977) (c1 := 1) (k1 := 6) (c2 := 599836) (k2 := 7274189) (v := some (.int 1)) (h1 := ph_14) rfl rfl (fun _ => rfl) ?_ (Nat.le_of_ble_eq_true rfl) (Nat.le_of_ble_eq_true rfl) ?_
    · refine px_C_of rfl ?_
      refine pr_s (pc1 := 1) (st1 := [.ref 164]) rfl (fun _ => rfl) ?_
      refine pr_s (pc1 := 2) (st1 := [.int 0, .ref 164]) rfl (fun _ => rfl) ?_
      refine pr_s (pc1 := 3) (st1 := [.ref 0, .int 0, .ref 164]) rfl (fun _ => rfl) ?_
      refine pr_s (pc1 := 4) (st1 := [.int a1, .ref 0, .int 0, .ref 164]) rfl (fun _ => rfl) ?_
      refine pr_callx (N := pm_X6_firings) (as := [.ref 0, .int a1]) (rest := [.int 0, .ref 164]) (f := 2046) (l := 83956) (c1 := 1) (k1 := 6) (c2 := 0) (k2 := 0) (E := 11) (h1 := ph_14) (a := 12) (y1 := 3) (y2 := 1) rfl (fun ex => px_inv_hs ex rfl rfl rfl pg_0 rfl rfl rfl rfl) ?_ (Nat.le_of_ble_eq_true rfl) (Nat.le_of_ble_eq_true rfl) rfl rfl rfl rfl ?_
      · refine px_C_of rfl ?_
        refine pr_s (pc1 := 1) (st1 := [.ref 0]) rfl (fun _ => rfl) ?_
        refine pr_s (pc1 := 2) (st1 := [.int a1, .ref 0]) rfl (fun _ => rfl) ?_
        refine pr_callo (N := pm_X6_needRule) (as := [.ref 0, .int a1]) (rest := []) (f := 2045) (l := 83935) (E := 11) (h1 := ph_14) rfl (fun ex => px_inv_hs ex rfl rfl rfl pg_0 rfl rfl rfl rfl) ?_ rfl ⟨rfl, rfl⟩
        · refine px_C_of rfl ?_
          refine pr_s (pc1 := 1) (st1 := [.int a1]) rfl (fun _ => rfl) ?_
          refine pr_bt (t := 12) (off := 11) (bb := decide (a1 < 0)) (st1 := []) rfl rfl rfl rfl (pb_ltT ha1.2 (show 0 ≤ (0 : Int32).toInt by decide) (by decide)) ?_
          refine pr_mh (z1 := 1) (z2 := 6) (c1 := 0) (k1 := 0) (pc1 := 22) (n := 165) (r := []) (h1 := ph_14) (es := fun n => [.inr (11, [])]) rfl (fun _ => rfl) pl_0 rfl (Nat.le_of_ble_eq_true rfl) (Nat.le_of_ble_eq_true rfl) ?_
          exact pr_e rfl (fun _ => rfl) ⟨rfl, rfl⟩
      show px_R _ _ _ _ (13, [(0, .ref 0), (1, .int a1), (2, .ref 164)], [], _) _ _ _
      refine pr_s (pc1 := 14) (st1 := [.int 1]) rfl (fun _ => rfl) ?_
      exact pr_e rfl (fun _ => rfl) ⟨rfl, rfl⟩
    show px_T _ _ _ _ (1514, [(4, .int 0), (3, .ref 164), (2, .ref 136), (1, .ref 0), (0, .retAddr 0)], [.int 1], _) _ _ _
    refine pt_s (pc1 := 1516) (lv1 := [(5, .int 1), (4, .int 0), (3, .ref 164), (2, .ref 136), (1, .ref 0), (0, .retAddr 0)]) (st1 := []) rfl rfl (fun _ => rfl) ?_
    refine pt_s (pc1 := 1517) (st1 := [.ref 136]) rfl rfl (fun _ => rfl) ?_
    refine pt_s (pc1 := 1518) (st1 := [.retAddr 0, .ref 136]) rfl rfl (fun _ => rfl) ?_
    refine pt_s (pc1 := 1520) (st1 := [.int 0, .retAddr 0, .ref 136]) rfl rfl (fun _ => rfl) ?_
    refine pt_s (pc1 := 1521) (st1 := [.int 1, .int 0, .retAddr 0, .ref 136]) rfl rfl (fun _ => rfl) ?_
    refine pt_s (pc1 := 1522) (st1 := [.int 1, .retAddr 0, .ref 136]) rfl rfl (fun _ => rfl) ?_
    refine pt_s (pc1 := 1523) (st1 := [.int a1, .ref 136]) rfl rfl (fun _ => rfl) ?_
    refine pt_callv (N := pm_X10_firings) (as := [.ref 136, .int a1]) (rest := []) (f := 2047) (l := 83979) (c1 := 0) (k1 := 0) (c2 := 599836) (k2 := 7274189) (v := some (.int 0)) (h1 := ph_15) rfl rfl (fun ex => px_inv_hs ex rfl rfl rfl pg_20 rfl rfl rfl rfl) ?_ (Nat.le_of_ble_eq_true rfl) (Nat.le_of_ble_eq_true rfl) ?_
    · refine px_C_of rfl ?_
      refine pr_s (pc1 := 1) (st1 := [.ref 136]) rfl (fun _ => rfl) ?_
      refine pr_s (pc1 := 2) (st1 := [.int a1, .ref 136]) rfl (fun _ => rfl) ?_
      refine pr_callv (N := pm_X10_has) (as := [.ref 136, .int a1]) (rest := []) (f := 2046) (l := 83958) (c1 := 0) (k1 := 0) (c2 := 0) (k2 := 0) (v := some (.int 0)) (h1 := ph_15) rfl (fun ex => px_inv_hs ex rfl rfl rfl pg_20 rfl rfl rfl rfl) ?_ (Nat.le_of_ble_eq_true rfl) (Nat.le_of_ble_eq_true rfl) ?_
      · refine px_C_of rfl ?_
        refine pr_s (pc1 := 1) (st1 := [.ref 136]) rfl (fun _ => rfl) ?_
        refine pr_s (pc1 := 2) (st1 := [.ref 136, .ref 136]) rfl (fun _ => rfl) ?_
        refine pr_s (pc1 := 3) (st1 := [.int a1, .ref 136, .ref 136]) rfl (fun _ => rfl) ?_
        refine pr_callv (N := pm_X10_isRule) (as := [.ref 136, .int a1]) (rest := [.ref 136]) (f := 2045) (l := 83937) (c1 := 0) (k1 := 0) (c2 := 0) (k2 := 0) (v := some (.int 0)) (h1 := ph_14) rfl (fun ex => px_inv_hs ex rfl rfl rfl pg_20 rfl rfl rfl rfl) ?_ (Nat.le_of_ble_eq_true rfl) (Nat.le_of_ble_eq_true rfl) ?_
        · refine px_C_of rfl ?_
          refine pr_s (pc1 := 1) (st1 := [.int a1]) rfl (fun _ => rfl) ?_
          refine pr_s (pc1 := 2) (st1 := [.int 0, .int a1]) rfl (fun _ => rfl) ?_
          refine pr_s (pc1 := 3) (st1 := [.ref 136, .int 0, .int a1]) rfl (fun _ => rfl) ?_
          refine pr_getf (pc1 := 6) (v := .int 0) rfl rfl pg_20 rfl rfl ?_
          refine pr_s (pc1 := 7) (st1 := [.int 1, .int 0, .int 0, .int a1]) rfl (fun _ => rfl) ?_
          refine pr_s (pc1 := 8) (st1 := [.int (-1), .int 0, .int a1]) rfl (fun _ => rfl) ?_
          refine pr_callv (N := pm_X10_is) (as := [.int a1, .int 0, .int (-1)]) (rest := []) (f := 2044) (l := 83915) (c1 := 0) (k1 := 0) (c2 := 0) (k2 := 0) (v := some (.int 0)) (h1 := ph_14) rfl (fun _ => rfl) ?_ (Nat.le_of_ble_eq_true rfl) (Nat.le_of_ble_eq_true rfl) ?_
          · refine px_C_of rfl ?_
            refine pr_s (pc1 := 1) (st1 := [.int a1]) rfl (fun _ => rfl) ?_
            refine pr_s (pc1 := 2) (st1 := [.int 0, .int a1]) rfl (fun _ => rfl) ?_
            refine pr_bt (t := 14) (off := 12) (bb := decide (a1 < 0)) (st1 := []) rfl rfl rfl rfl (pb_ltT ha1.2 (show 0 ≤ (0 : Int32).toInt by decide) (by decide)) ?_
            refine pr_s (pc1 := 15) (st1 := [.int 0]) rfl (fun _ => rfl) ?_
            exact pr_e rfl (fun _ => rfl) ⟨rfl, rfl⟩
          show px_R _ _ _ _ (11, [(0, .ref 136), (1, .int a1)], [.int 0], _) _ _ _
          exact pr_e rfl (fun _ => rfl) ⟨rfl, rfl⟩
        show px_R _ _ _ _ (6, [(0, .ref 136), (1, .int a1)], [.int 0, .ref 136], _) _ _ _
        refine pr_bt (t := 13) (off := 7) (bb := decide ((0 : Int32) = 0)) (st1 := [.ref 136]) rfl rfl rfl rfl (by decide) ?_
        refine pr_s (pc1 := 14) (st1 := [.int 1, .ref 136]) rfl (fun _ => rfl) ?_
        refine pr_putf (pc1 := 17) (h1 := ph_15) rfl rfl pg_20 rfl rfl rfl rfl rfl rfl rfl ?_
        refine pr_s (pc1 := 18) (st1 := [.ref 136]) rfl (fun _ => rfl) ?_
        refine pr_getf (pc1 := 21) (v := .int 1) rfl rfl pg_21 rfl rfl ?_
        refine pr_bt (t := 28) (off := 7) (bb := !decide ((1 : Int32) = 0)) (st1 := []) rfl rfl rfl rfl (px_not_t (by decide)) ?_
        refine pr_s (pc1 := 29) (st1 := [.int 0]) rfl (fun _ => rfl) ?_
        exact pr_e rfl (fun _ => rfl) ⟨rfl, rfl⟩
      show px_R _ _ _ _ (5, [(0, .ref 136), (1, .int a1)], [.int 0], _) _ _ _
      refine pr_bt (t := 20) (off := 15) (bb := decide ((0 : Int32) = 0)) (st1 := []) rfl rfl rfl rfl (by decide) ?_
      refine pr_s (pc1 := 21) (st1 := [.int 0]) rfl (fun _ => rfl) ?_
      exact pr_e rfl (fun _ => rfl) ⟨rfl, rfl⟩
    show px_T _ _ _ _ (1526, [(5, .int 1), (4, .int 0), (3, .ref 164), (2, .ref 136), (1, .ref 0), (0, .retAddr 0)], [.int 0], _) _ _ _
    refine pt_s (pc1 := 1528) (lv1 := [(6, .int 0), (5, .int 1), (4, .int 0), (3, .ref 164), (2, .ref 136), (1, .ref 0), (0, .retAddr 0)]) (st1 := []) rfl rfl (fun _ => rfl) ?_
    refine pt_s (pc1 := 1529) (st1 := [.ref 136]) rfl rfl (fun _ => rfl) ?_
    refine pt_callv (N := pm_X10_thrown) (as := [.ref 136]) (rest := []) (f := 2047) (l := 83980) (c1 := 0) (k1 := 0) (c2 := 599836) (k2 := 7274189) (v := some (.int 1)) (h1 := ph_15) rfl rfl (fun ex => px_inv_hs ex rfl rfl rfl pg_21 rfl rfl rfl rfl) ?_ (Nat.le_of_ble_eq_true rfl) (Nat.le_of_ble_eq_true rfl) ?_
    · refine px_C_of rfl ?_
      refine pr_s (pc1 := 1) (st1 := [.ref 136]) rfl (fun _ => rfl) ?_
      refine pr_getf (pc1 := 4) (v := .int 1) rfl rfl pg_21 rfl rfl ?_
      exact pr_e rfl (fun _ => rfl) ⟨rfl, rfl⟩
    show px_T _ _ _ _ (1532, [(6, .int 0), (5, .int 1), (4, .int 0), (3, .ref 164), (2, .ref 136), (1, .ref 0), (0, .retAddr 0)], [.int 1], _) _ _ _
    refine pt_s (pc1 := 1534) (st1 := [.int 1, .int 1]) rfl rfl (fun _ => rfl) ?_
    refine pt_bt (t := 1539) (off := 5) (bb := decide ((1 : Int32) = 1)) (st1 := []) rfl rfl rfl rfl rfl (by decide) ?_
    refine pt_s (pc1 := 1541) (st1 := [.int 1]) rfl rfl (fun _ => rfl) ?_
    refine pt_bt (t := 1556) (off := 15) (bb := !decide ((1 : Int32) = 0)) (st1 := []) rfl rfl rfl rfl rfl (px_not_t (by decide)) ?_
    refine pt_s (pc1 := 2771) (st1 := []) rfl rfl (fun _ => rfl) ?_
    refine pt_s (pc1 := 2774) (lv1 := [(4, .int 6), (6, .int 0), (5, .int 1), (3, .ref 164), (2, .ref 136), (1, .ref 0), (0, .retAddr 0)]) (st1 := []) rfl rfl (fun _ => rfl) ?_
    refine pt_s (pc1 := 23) (st1 := []) rfl rfl (fun _ => rfl) ?_
    refine pt_s (pc1 := 25) (st1 := [.int 6]) rfl rfl (fun _ => rfl) ?_
    refine pt_s (pc1 := 26) (st1 := [.retAddr 0, .int 6]) rfl rfl (fun _ => rfl) ?_
    refine pt_s (pc1 := 27) (st1 := [.int 6, .int 6]) rfl rfl (fun _ => rfl) ?_
    refine pt_s (pc1 := 29) (st1 := [.int 6, .int 6, .int 6]) rfl rfl (fun _ => rfl) ?_
    refine pt_s (pc1 := 30) (st1 := [.int 0, .int 6]) rfl rfl (fun _ => rfl) ?_
    refine pt_bt (t := 2777) (off := 2747) (bb := decide ((0 : Int32) < (6 : Int32))) (st1 := []) rfl rfl rfl rfl rfl (by decide) ?_
    refine pt_s (pc1 := 2778) (st1 := [.int 1]) rfl rfl (fun _ => rfl) ?_
    exact pt_e rfl ⟨rfl, (rfl : px_ins pm_law 2778 = some (.ireturn, 1))⟩
  · have ha1 : 0 ≤ a1.toInt ∧ a1.toInt ≤ 2147483647 := ⟨by omega, ha1.2⟩
    refine pt_s (pc1 := 1503) (st1 := []) rfl rfl (fun _ => rfl) ?_
    refine pt_s (pc1 := 1504) (st1 := [.ref 0]) rfl rfl (fun _ => rfl) ?_
    refine pt_s (pc1 := 1505) (st1 := [.retAddr 0, .ref 0]) rfl rfl (fun _ => rfl) ?_
    refine pt_s (pc1 := 1507) (st1 := [.int 0, .retAddr 0, .ref 0]) rfl rfl (fun _ => rfl) ?_
    refine pt_s (pc1 := 1508) (st1 := [.int 1, .int 0, .retAddr 0, .ref 0]) rfl rfl (fun _ => rfl) ?_
    refine pt_s (pc1 := 1509) (st1 := [.int 1, .retAddr 0, .ref 0]) rfl rfl (fun _ => rfl) ?_
    refine pt_s (pc1 := 1510) (st1 := [.int a1, .ref 0]) rfl rfl (fun _ => rfl) ?_
    refine pt_s (pc1 := 1511) (st1 := [.ref 164, .int a1, .ref 0]) rfl rfl (fun _ => rfl) ?_
    refine pt_callv (N := pm_L_firings) (as := [.ref 0, .int a1, .ref 164]) (rest := []) (f := 2047) (l := 83977) (c1 := 1) (k1 := 6) (c2 := 599836) (k2 := 7274189) (v := some (.int 1)) (h1 := ph_14) rfl rfl (fun _ => rfl) ?_ (Nat.le_of_ble_eq_true rfl) (Nat.le_of_ble_eq_true rfl) ?_
    · refine px_C_of rfl ?_
      refine pr_s (pc1 := 1) (st1 := [.ref 164]) rfl (fun _ => rfl) ?_
      refine pr_s (pc1 := 2) (st1 := [.int 0, .ref 164]) rfl (fun _ => rfl) ?_
      refine pr_s (pc1 := 3) (st1 := [.ref 0, .int 0, .ref 164]) rfl (fun _ => rfl) ?_
      refine pr_s (pc1 := 4) (st1 := [.int a1, .ref 0, .int 0, .ref 164]) rfl (fun _ => rfl) ?_
      refine pr_callx (N := pm_X6_firings) (as := [.ref 0, .int a1]) (rest := [.int 0, .ref 164]) (f := 2046) (l := 83956) (c1 := 1) (k1 := 6) (c2 := 0) (k2 := 0) (E := 11) (h1 := ph_14) (a := 12) (y1 := 3) (y2 := 1) rfl (fun ex => px_inv_hs ex rfl rfl rfl pg_0 rfl rfl rfl rfl) ?_ (Nat.le_of_ble_eq_true rfl) (Nat.le_of_ble_eq_true rfl) rfl rfl rfl rfl ?_
      · refine px_C_of rfl ?_
        refine pr_s (pc1 := 1) (st1 := [.ref 0]) rfl (fun _ => rfl) ?_
        refine pr_s (pc1 := 2) (st1 := [.int a1, .ref 0]) rfl (fun _ => rfl) ?_
        refine pr_callo (N := pm_X6_needRule) (as := [.ref 0, .int a1]) (rest := []) (f := 2045) (l := 83935) (E := 11) (h1 := ph_14) rfl (fun ex => px_inv_hs ex rfl rfl rfl pg_0 rfl rfl rfl rfl) ?_ rfl ⟨rfl, rfl⟩
        · refine px_C_of rfl ?_
          refine pr_s (pc1 := 1) (st1 := [.int a1]) rfl (fun _ => rfl) ?_
          refine pr_bf (t := 12) (off := 11) (bb := decide (a1 < 0)) (st1 := []) rfl rfl rfl rfl (pb_ltF ha1.1 (show (0 : Int32).toInt ≤ 0 by decide) (by decide)) ?_
          refine pr_s (pc1 := 5) (st1 := [.int a1]) rfl (fun _ => rfl) ?_
          refine pr_s (pc1 := 6) (st1 := [.ref 0, .int a1]) rfl (fun _ => rfl) ?_
          refine pr_getf (pc1 := 9) (v := .int 0) rfl rfl pg_0 rfl rfl ?_
          refine pr_bf (t := 23) (off := 14) (bb := decide (a1 < 0)) (st1 := []) rfl rfl rfl rfl (pb_ltF ha1.1 (show (0 : Int32).toInt ≤ 0 by decide) (by decide)) ?_
          refine pr_mh (z1 := 1) (z2 := 6) (c1 := 0) (k1 := 0) (pc1 := 22) (n := 165) (r := []) (h1 := ph_14) (es := fun n => [.inr (11, [])]) rfl (fun _ => rfl) pl_0 rfl (Nat.le_of_ble_eq_true rfl) (Nat.le_of_ble_eq_true rfl) ?_
          exact pr_e rfl (fun _ => rfl) ⟨rfl, rfl⟩
      show px_R _ _ _ _ (13, [(0, .ref 0), (1, .int a1), (2, .ref 164)], [], _) _ _ _
      refine pr_s (pc1 := 14) (st1 := [.int 1]) rfl (fun _ => rfl) ?_
      exact pr_e rfl (fun _ => rfl) ⟨rfl, rfl⟩
    show px_T _ _ _ _ (1514, [(4, .int 0), (3, .ref 164), (2, .ref 136), (1, .ref 0), (0, .retAddr 0)], [.int 1], _) _ _ _
    refine pt_s (pc1 := 1516) (lv1 := [(5, .int 1), (4, .int 0), (3, .ref 164), (2, .ref 136), (1, .ref 0), (0, .retAddr 0)]) (st1 := []) rfl rfl (fun _ => rfl) ?_
    refine pt_s (pc1 := 1517) (st1 := [.ref 136]) rfl rfl (fun _ => rfl) ?_
    refine pt_s (pc1 := 1518) (st1 := [.retAddr 0, .ref 136]) rfl rfl (fun _ => rfl) ?_
    refine pt_s (pc1 := 1520) (st1 := [.int 0, .retAddr 0, .ref 136]) rfl rfl (fun _ => rfl) ?_
    refine pt_s (pc1 := 1521) (st1 := [.int 1, .int 0, .retAddr 0, .ref 136]) rfl rfl (fun _ => rfl) ?_
    refine pt_s (pc1 := 1522) (st1 := [.int 1, .retAddr 0, .ref 136]) rfl rfl (fun _ => rfl) ?_
    refine pt_s (pc1 := 1523) (st1 := [.int a1, .ref 136]) rfl rfl (fun _ => rfl) ?_
    refine pt_callv (N := pm_X10_firings) (as := [.ref 136, .int a1]) (rest := []) (f := 2047) (l := 83979) (c1 := 0) (k1 := 0) (c2 := 599836) (k2 := 7274189) (v := some (.int 0)) (h1 := ph_15) rfl rfl (fun ex => px_inv_hs ex rfl rfl rfl pg_20 rfl rfl rfl rfl) ?_ (Nat.le_of_ble_eq_true rfl) (Nat.le_of_ble_eq_true rfl) ?_
    · refine px_C_of rfl ?_
      refine pr_s (pc1 := 1) (st1 := [.ref 136]) rfl (fun _ => rfl) ?_
      refine pr_s (pc1 := 2) (st1 := [.int a1, .ref 136]) rfl (fun _ => rfl) ?_
      refine pr_callv (N := pm_X10_has) (as := [.ref 136, .int a1]) (rest := []) (f := 2046) (l := 83958) (c1 := 0) (k1 := 0) (c2 := 0) (k2 := 0) (v := some (.int 0)) (h1 := ph_15) rfl (fun ex => px_inv_hs ex rfl rfl rfl pg_20 rfl rfl rfl rfl) ?_ (Nat.le_of_ble_eq_true rfl) (Nat.le_of_ble_eq_true rfl) ?_
      · refine px_C_of rfl ?_
        refine pr_s (pc1 := 1) (st1 := [.ref 136]) rfl (fun _ => rfl) ?_
        refine pr_s (pc1 := 2) (st1 := [.ref 136, .ref 136]) rfl (fun _ => rfl) ?_
        refine pr_s (pc1 := 3) (st1 := [.int a1, .ref 136, .ref 136]) rfl (fun _ => rfl) ?_
        refine pr_callv (N := pm_X10_isRule) (as := [.ref 136, .int a1]) (rest := [.ref 136]) (f := 2045) (l := 83937) (c1 := 0) (k1 := 0) (c2 := 0) (k2 := 0) (v := some (.int 0)) (h1 := ph_14) rfl (fun ex => px_inv_hs ex rfl rfl rfl pg_20 rfl rfl rfl rfl) ?_ (Nat.le_of_ble_eq_true rfl) (Nat.le_of_ble_eq_true rfl) ?_
        · refine px_C_of rfl ?_
          refine pr_s (pc1 := 1) (st1 := [.int a1]) rfl (fun _ => rfl) ?_
          refine pr_s (pc1 := 2) (st1 := [.int 0, .int a1]) rfl (fun _ => rfl) ?_
          refine pr_s (pc1 := 3) (st1 := [.ref 136, .int 0, .int a1]) rfl (fun _ => rfl) ?_
          refine pr_getf (pc1 := 6) (v := .int 0) rfl rfl pg_20 rfl rfl ?_
          refine pr_s (pc1 := 7) (st1 := [.int 1, .int 0, .int 0, .int a1]) rfl (fun _ => rfl) ?_
          refine pr_s (pc1 := 8) (st1 := [.int (-1), .int 0, .int a1]) rfl (fun _ => rfl) ?_
          refine pr_callv (N := pm_X10_is) (as := [.int a1, .int 0, .int (-1)]) (rest := []) (f := 2044) (l := 83915) (c1 := 0) (k1 := 0) (c2 := 0) (k2 := 0) (v := some (.int 0)) (h1 := ph_14) rfl (fun _ => rfl) ?_ (Nat.le_of_ble_eq_true rfl) (Nat.le_of_ble_eq_true rfl) ?_
          · refine px_C_of rfl ?_
            refine pr_s (pc1 := 1) (st1 := [.int a1]) rfl (fun _ => rfl) ?_
            refine pr_s (pc1 := 2) (st1 := [.int 0, .int a1]) rfl (fun _ => rfl) ?_
            refine pr_bf (t := 14) (off := 12) (bb := decide (a1 < 0)) (st1 := []) rfl rfl rfl rfl (pb_ltF ha1.1 (show (0 : Int32).toInt ≤ 0 by decide) (by decide)) ?_
            refine pr_s (pc1 := 6) (st1 := [.int a1]) rfl (fun _ => rfl) ?_
            refine pr_s (pc1 := 7) (st1 := [.int (-1), .int a1]) rfl (fun _ => rfl) ?_
            refine pr_bt (t := 14) (off := 7) (bb := decide (((-1) : Int32) < a1)) (st1 := []) rfl rfl rfl rfl (pb_ltT (show ((-1) : Int32).toInt ≤ (-1) by decide) ha1.1 (by decide)) ?_
            refine pr_s (pc1 := 15) (st1 := [.int 0]) rfl (fun _ => rfl) ?_
            exact pr_e rfl (fun _ => rfl) ⟨rfl, rfl⟩
          show px_R _ _ _ _ (11, [(0, .ref 136), (1, .int a1)], [.int 0], _) _ _ _
          exact pr_e rfl (fun _ => rfl) ⟨rfl, rfl⟩
        show px_R _ _ _ _ (6, [(0, .ref 136), (1, .int a1)], [.int 0, .ref 136], _) _ _ _
        refine pr_bt (t := 13) (off := 7) (bb := decide ((0 : Int32) = 0)) (st1 := [.ref 136]) rfl rfl rfl rfl (by decide) ?_
        refine pr_s (pc1 := 14) (st1 := [.int 1, .ref 136]) rfl (fun _ => rfl) ?_
        refine pr_putf (pc1 := 17) (h1 := ph_15) rfl rfl pg_20 rfl rfl rfl rfl rfl rfl rfl ?_
        refine pr_s (pc1 := 18) (st1 := [.ref 136]) rfl (fun _ => rfl) ?_
        refine pr_getf (pc1 := 21) (v := .int 1) rfl rfl pg_21 rfl rfl ?_
        refine pr_bt (t := 28) (off := 7) (bb := !decide ((1 : Int32) = 0)) (st1 := []) rfl rfl rfl rfl (px_not_t (by decide)) ?_
        refine pr_s (pc1 := 29) (st1 := [.int 0]) rfl (fun _ => rfl) ?_
        exact pr_e rfl (fun _ => rfl) ⟨rfl, rfl⟩
      show px_R _ _ _ _ (5, [(0, .ref 136), (1, .int a1)], [.int 0], _) _ _ _
      refine pr_bt (t := 20) (off := 15) (bb := decide ((0 : Int32) = 0)) (st1 := []) rfl rfl rfl rfl (by decide) ?_
      refine pr_s (pc1 := 21) (st1 := [.int 0]) rfl (fun _ => rfl) ?_
      exact pr_e rfl (fun _ => rfl) ⟨rfl, rfl⟩
    show px_T _ _ _ _ (1526, [(5, .int 1), (4, .int 0), (3, .ref 164), (2, .ref 136), (1, .ref 0), (0, .retAddr 0)], [.int 0], _) _ _ _
    refine pt_s (pc1 := 1528) (lv1 := [(6, .int 0), (5, .int 1), (4, .int 0), (3, .ref 164), (2, .ref 136), (1, .ref 0), (0, .retAddr 0)]) (st1 := []) rfl rfl (fun _ => rfl) ?_
    refine pt_s (pc1 := 1529) (st1 := [.ref 136]) rfl rfl (fun _ => rfl) ?_
    refine pt_callv (N := pm_X10_thrown) (as := [.ref 136]) (rest := []) (f := 2047) (l := 83980) (c1 := 0) (k1 := 0) (c2 := 599836) (k2 := 7274189) (v := some (.int 1)) (h1 := ph_15) rfl rfl (fun ex => px_inv_hs ex rfl rfl rfl pg_21 rfl rfl rfl rfl) ?_ (Nat.le_of_ble_eq_true rfl) (Nat.le_of_ble_eq_true rfl) ?_
    · refine px_C_of rfl ?_
      refine pr_s (pc1 := 1) (st1 := [.ref 136]) rfl (fun _ => rfl) ?_
      refine pr_getf (pc1 := 4) (v := .int 1) rfl rfl pg_21 rfl rfl ?_
      exact pr_e rfl (fun _ => rfl) ⟨rfl, rfl⟩
    show px_T _ _ _ _ (1532, [(6, .int 0), (5, .int 1), (4, .int 0), (3, .ref 164), (2, .ref 136), (1, .ref 0), (0, .retAddr 0)], [.int 1], _) _ _ _
    refine pt_s (pc1 := 1534) (st1 := [.int 1, .int 1]) rfl rfl (fun _ => rfl) ?_
    refine pt_bt (t := 1539) (off := 5) (bb := decide ((1 : Int32) = 1)) (st1 := []) rfl rfl rfl rfl rfl (by decide) ?_
    refine pt_s (pc1 := 1541) (st1 := [.int 1]) rfl rfl (fun _ => rfl) ?_
    refine pt_bt (t := 1556) (off := 15) (bb := !decide ((1 : Int32) = 0)) (st1 := []) rfl rfl rfl rfl rfl (px_not_t (by decide)) ?_
    refine pt_s (pc1 := 2771) (st1 := []) rfl rfl (fun _ => rfl) ?_
    refine pt_s (pc1 := 2774) (lv1 := [(4, .int 6), (6, .int 0), (5, .int 1), (3, .ref 164), (2, .ref 136), (1, .ref 0), (0, .retAddr 0)]) (st1 := []) rfl rfl (fun _ => rfl) ?_
    refine pt_s (pc1 := 23) (st1 := []) rfl rfl (fun _ => rfl) ?_
    refine pt_s (pc1 := 25) (st1 := [.int 6]) rfl rfl (fun _ => rfl) ?_
    refine pt_s (pc1 := 26) (st1 := [.retAddr 0, .int 6]) rfl rfl (fun _ => rfl) ?_
    refine pt_s (pc1 := 27) (st1 := [.int 6, .int 6]) rfl rfl (fun _ => rfl) ?_
    refine pt_s (pc1 := 29) (st1 := [.int 6, .int 6, .int 6]) rfl rfl (fun _ => rfl) ?_
    refine pt_s (pc1 := 30) (st1 := [.int 0, .int 6]) rfl rfl (fun _ => rfl) ?_
    refine pt_bt (t := 2777) (off := 2747) (bb := decide ((0 : Int32) < (6 : Int32))) (st1 := []) rfl rfl rfl rfl rfl (by decide) ?_
    refine pt_s (pc1 := 2778) (st1 := [.int 1]) rfl rfl (fun _ => rfl) ?_
    exact pt_e rfl ⟨rfl, (rfl : px_ins pm_law 2778 = some (.ireturn, 1))⟩
set_option maxRecDepth 100000 in
set_option maxHeartbeats 40000000 in
theorem px_op_20 (a0 a1 a2 a3 a4 a5 : Int32) : px_T (some [a0, a1, a2, a3, a4, a5]) pm_law 2048 84000 (40, [(4, .int 0), (3, .ref 164), (2, .ref 136), (1, .ref 0), (0, .retAddr 0)], [.int 20], px_hs) 599837 7274195 (fun s1 => s1.2.2.1 = [.int 1] ∧ px_ins pm_law s1.1 = some (.ireturn, 1)) := by
  refine pt_s (pc1 := 1559) (st1 := []) rfl rfl (fun _ => rfl) ?_
  refine pt_s (pc1 := 1560) (st1 := [.ref 0]) rfl rfl (fun _ => rfl) ?_
  refine pt_callv (N := pm_X6_facts) (as := [.ref 0]) (rest := []) (f := 2047) (l := 83980) (c1 := 0) (k1 := 0) (c2 := 599837) (k2 := 7274195) (v := some (.int 0)) (h1 := px_hs) rfl rfl (fun ex => px_inv_hs ex rfl rfl rfl pg_0 rfl rfl rfl rfl) ?_ (Nat.le_of_ble_eq_true rfl) (Nat.le_of_ble_eq_true rfl) ?_
  · refine px_C_of rfl ?_
    refine pr_s (pc1 := 1) (st1 := [.ref 0]) rfl (fun _ => rfl) ?_
    refine pr_getf (pc1 := 4) (v := .ref 92) rfl rfl pg_0 rfl rfl ?_
    refine pr_getf (pc1 := 7) (v := .ref 93) rfl rfl pg_22 rfl rfl ?_
    refine pr_getf (pc1 := 10) (v := .int 0) rfl rfl pg_23 rfl rfl ?_
    exact pr_e rfl (fun _ => rfl) ⟨rfl, rfl⟩
  show px_T _ _ _ _ (1563, [(4, .int 0), (3, .ref 164), (2, .ref 136), (1, .ref 0), (0, .retAddr 0)], [.int 0], _) _ _ _
  refine pt_s (pc1 := 1564) (st1 := [.ref 136, .int 0]) rfl rfl (fun _ => rfl) ?_
  refine pt_callv (N := pm_X10_facts) (as := [.ref 136]) (rest := [.int 0]) (f := 2047) (l := 83980) (c1 := 0) (k1 := 0) (c2 := 599837) (k2 := 7274195) (v := some (.int 0)) (h1 := px_hs) rfl rfl (fun ex => px_inv_hs ex rfl rfl rfl pg_1 rfl rfl rfl rfl) ?_ (Nat.le_of_ble_eq_true rfl) (Nat.le_of_ble_eq_true rfl) ?_
  · refine px_C_of rfl ?_
    refine pr_s (pc1 := 1) (st1 := [.ref 136]) rfl (fun _ => rfl) ?_
    refine pr_s (pc1 := 2) (st1 := [.int 0, .ref 136]) rfl (fun _ => rfl) ?_
    refine pr_putf (pc1 := 5) (h1 := px_hs) rfl rfl pg_1 rfl rfl rfl rfl rfl (px_set_same pg_1 rfl) rfl ?_
    refine pr_s (pc1 := 6) (st1 := [.ref 136]) rfl (fun _ => rfl) ?_
    refine pr_getf (pc1 := 9) (v := .ref 138) rfl rfl pg_1 rfl rfl ?_
    refine pr_getf (pc1 := 12) (v := .ref 141) rfl rfl pg_66 rfl rfl ?_
    refine pr_getf (pc1 := 15) (v := .int 0) rfl rfl pg_68 rfl rfl ?_
    exact pr_e rfl (fun _ => rfl) ⟨rfl, rfl⟩
  show px_T _ _ _ _ (1567, [(4, .int 0), (3, .ref 164), (2, .ref 136), (1, .ref 0), (0, .retAddr 0)], [.int 0, .int 0], _) _ _ _
  refine pt_bt (t := 2771) (off := 1204) (bb := decide ((0 : Int32) = 0)) (st1 := []) rfl rfl rfl rfl rfl (by decide) ?_
  refine pt_s (pc1 := 2774) (lv1 := [(4, .int 6), (3, .ref 164), (2, .ref 136), (1, .ref 0), (0, .retAddr 0)]) (st1 := []) rfl rfl (fun _ => rfl) ?_
  refine pt_s (pc1 := 23) (st1 := []) rfl rfl (fun _ => rfl) ?_
  refine pt_s (pc1 := 25) (st1 := [.int 6]) rfl rfl (fun _ => rfl) ?_
  refine pt_s (pc1 := 26) (st1 := [.retAddr 0, .int 6]) rfl rfl (fun _ => rfl) ?_
  refine pt_s (pc1 := 27) (st1 := [.int 6, .int 6]) rfl rfl (fun _ => rfl) ?_
  refine pt_s (pc1 := 29) (st1 := [.int 6, .int 6, .int 6]) rfl rfl (fun _ => rfl) ?_
  refine pt_s (pc1 := 30) (st1 := [.int 0, .int 6]) rfl rfl (fun _ => rfl) ?_
  refine pt_bt (t := 2777) (off := 2747) (bb := decide ((0 : Int32) < (6 : Int32))) (st1 := []) rfl rfl rfl rfl rfl (by decide) ?_
  refine pt_s (pc1 := 2778) (st1 := [.int 1]) rfl rfl (fun _ => rfl) ?_
  exact pt_e rfl ⟨rfl, (rfl : px_ins pm_law 2778 = some (.ireturn, 1))⟩
set_option maxRecDepth 100000 in
set_option maxHeartbeats 40000000 in
theorem px_op_21 (a0 a1 a2 a3 a4 a5 : Int32) : px_T (some [a0, a1, a2, a3, a4, a5]) pm_law 2048 84000 (40, [(4, .int 0), (3, .ref 164), (2, .ref 136), (1, .ref 0), (0, .retAddr 0)], [.int 21], px_hs) 599837 7274195 (fun s1 => s1.2.2.1 = [.int 1] ∧ px_ins pm_law s1.1 = some (.ireturn, 1)) := by
  refine pt_s (pc1 := 1572) (st1 := []) rfl rfl (fun _ => rfl) ?_
  refine pt_s (pc1 := 1573) (st1 := [.ref 0]) rfl rfl (fun _ => rfl) ?_
  refine pt_callv (N := pm_X6_next) (as := [.ref 0]) (rest := []) (f := 2047) (l := 83980) (c1 := 0) (k1 := 0) (c2 := 599837) (k2 := 7274195) (v := some (.int 0)) (h1 := px_hs) rfl rfl (fun ex => px_inv_hs ex rfl rfl rfl pg_0 rfl rfl rfl rfl) ?_ (Nat.le_of_ble_eq_true rfl) (Nat.le_of_ble_eq_true rfl) ?_
  · refine px_C_of rfl ?_
    refine pr_s (pc1 := 1) (st1 := [.ref 0]) rfl (fun _ => rfl) ?_
    refine pr_getf (pc1 := 4) (v := .ref 92) rfl rfl pg_0 rfl rfl ?_
    refine pr_getf (pc1 := 7) (v := .ref 93) rfl rfl pg_22 rfl rfl ?_
    refine pr_getf (pc1 := 10) (v := .int 0) rfl rfl pg_23 rfl rfl ?_
    exact pr_e rfl (fun _ => rfl) ⟨rfl, rfl⟩
  show px_T _ _ _ _ (1576, [(4, .int 0), (3, .ref 164), (2, .ref 136), (1, .ref 0), (0, .retAddr 0)], [.int 0], _) _ _ _
  refine pt_s (pc1 := 1577) (st1 := [.ref 136, .int 0]) rfl rfl (fun _ => rfl) ?_
  refine pt_callv (N := pm_X10_next) (as := [.ref 136]) (rest := [.int 0]) (f := 2047) (l := 83980) (c1 := 0) (k1 := 0) (c2 := 599837) (k2 := 7274195) (v := some (.int 0)) (h1 := px_hs) rfl rfl (fun ex => px_inv_hs ex rfl rfl rfl pg_1 rfl rfl rfl rfl) ?_ (Nat.le_of_ble_eq_true rfl) (Nat.le_of_ble_eq_true rfl) ?_
  · refine px_C_of rfl ?_
    refine pr_s (pc1 := 1) (st1 := [.ref 136]) rfl (fun _ => rfl) ?_
    refine pr_s (pc1 := 2) (st1 := [.int 0, .ref 136]) rfl (fun _ => rfl) ?_
    refine pr_putf (pc1 := 5) (h1 := px_hs) rfl rfl pg_1 rfl rfl rfl rfl rfl (px_set_same pg_1 rfl) rfl ?_
    refine pr_s (pc1 := 6) (st1 := [.ref 136]) rfl (fun _ => rfl) ?_
    refine pr_getf (pc1 := 9) (v := .ref 138) rfl rfl pg_1 rfl rfl ?_
    refine pr_getf (pc1 := 12) (v := .int 0) rfl rfl pg_66 rfl rfl ?_
    exact pr_e rfl (fun _ => rfl) ⟨rfl, rfl⟩
  show px_T _ _ _ _ (1580, [(4, .int 0), (3, .ref 164), (2, .ref 136), (1, .ref 0), (0, .retAddr 0)], [.int 0, .int 0], _) _ _ _
  refine pt_bt (t := 2771) (off := 1191) (bb := decide ((0 : Int32) = 0)) (st1 := []) rfl rfl rfl rfl rfl (by decide) ?_
  refine pt_s (pc1 := 2774) (lv1 := [(4, .int 6), (3, .ref 164), (2, .ref 136), (1, .ref 0), (0, .retAddr 0)]) (st1 := []) rfl rfl (fun _ => rfl) ?_
  refine pt_s (pc1 := 23) (st1 := []) rfl rfl (fun _ => rfl) ?_
  refine pt_s (pc1 := 25) (st1 := [.int 6]) rfl rfl (fun _ => rfl) ?_
  refine pt_s (pc1 := 26) (st1 := [.retAddr 0, .int 6]) rfl rfl (fun _ => rfl) ?_
  refine pt_s (pc1 := 27) (st1 := [.int 6, .int 6]) rfl rfl (fun _ => rfl) ?_
  refine pt_s (pc1 := 29) (st1 := [.int 6, .int 6, .int 6]) rfl rfl (fun _ => rfl) ?_
  refine pt_s (pc1 := 30) (st1 := [.int 0, .int 6]) rfl rfl (fun _ => rfl) ?_
  refine pt_bt (t := 2777) (off := 2747) (bb := decide ((0 : Int32) < (6 : Int32))) (st1 := []) rfl rfl rfl rfl rfl (by decide) ?_
  refine pt_s (pc1 := 2778) (st1 := [.int 1]) rfl rfl (fun _ => rfl) ?_
  exact pt_e rfl ⟨rfl, (rfl : px_ins pm_law 2778 = some (.ireturn, 1))⟩
set_option maxRecDepth 100000 in
set_option maxHeartbeats 40000000 in
theorem px_op_22 (a0 a1 a2 a3 a4 a5 : Int32) : px_T (some [a0, a1, a2, a3, a4, a5]) pm_law 2048 84000 (40, [(4, .int 0), (3, .ref 164), (2, .ref 136), (1, .ref 0), (0, .retAddr 0)], [.int 22], px_hs) 599837 7274195 (fun s1 => s1.2.2.1 = [.int 1] ∧ px_ins pm_law s1.1 = some (.ireturn, 1)) := by
  have ha1 : (-2147483648) ≤ a1.toInt ∧ a1.toInt ≤ 2147483647 := ⟨Int32.le_toInt a1, Int32.toInt_le a1⟩
  by_cases hs : a1.toInt < 0
  · have ha1 : (-2147483648) ≤ a1.toInt ∧ a1.toInt ≤ (-1) := ⟨ha1.1, by omega⟩
    refine pt_s (pc1 := 1585) (st1 := []) rfl rfl (fun _ => rfl) ?_
    refine pt_s (pc1 := 1586) (st1 := [.ref 0]) rfl rfl (fun _ => rfl) ?_
    refine pt_s (pc1 := 1587) (st1 := [.retAddr 0, .ref 0]) rfl rfl (fun _ => rfl) ?_
    refine pt_s (pc1 := 1589) (st1 := [.int 0, .retAddr 0, .ref 0]) rfl rfl (fun _ => rfl) ?_
    refine pt_s (pc1 := 1590) (st1 := [.int 1, .int 0, .retAddr 0, .ref 0]) rfl rfl (fun _ => rfl) ?_
    refine pt_s (pc1 := 1591) (st1 := [.int 1, .retAddr 0, .ref 0]) rfl rfl (fun _ => rfl) ?_
    refine pt_s (pc1 := 1592) (st1 := [.int a1, .ref 0]) rfl rfl (fun _ => rfl) ?_
    refine pt_callv (N := pm_X6_isThere) (as := [.ref 0, .int a1]) (rest := []) (f := 2047) (l := 83979) (c1 := 0) (k1 := 0) (c2 := 599837) (k2 := 7274195) (v := some (.int 0)) (h1 := px_hs) rfl rfl (fun ex => px_inv_hs ex rfl rfl rfl pg_0 rfl rfl rfl rfl) ?_ (Nat.le_of_ble_eq_true rfl) (Nat.le_of_ble_eq_true rfl) ?_
    · refine px_C_of rfl ?_
      refine pr_s (pc1 := 1) (st1 := [.ref 0]) rfl (fun _ => rfl) ?_
      refine pr_getf (pc1 := 4) (v := .ref 92) rfl rfl pg_0 rfl rfl ?_
      refine pr_getf (pc1 := 7) (v := .ref 93) rfl rfl pg_22 rfl rfl ?_
      refine pr_s (pc1 := 8) (st1 := [.int a1, .ref 93]) rfl (fun _ => rfl) ?_
      refine pr_callv (N := pm_X2_placeOf) (as := [.ref 93, .int a1]) (rest := []) (f := 2046) (l := 83957) (c1 := 0) (k1 := 0) (c2 := 0) (k2 := 0) (v := some (.int (-1))) (h1 := px_hs) rfl (fun ex => px_inv_hs ex rfl rfl rfl pg_23 rfl rfl rfl rfl) ?_ (Nat.le_of_ble_eq_true rfl) (Nat.le_of_ble_eq_true rfl) ?_
      · refine px_C_of rfl ?_
        refine pr_s (pc1 := 1) (st1 := [.int a1]) rfl (fun _ => rfl) ?_
        refine pr_bt (t := 12) (off := 11) (bb := decide (a1 < 0)) (st1 := []) rfl rfl rfl rfl (pb_ltT ha1.2 (show 0 ≤ (0 : Int32).toInt by decide) (by decide)) ?_
        refine pr_s (pc1 := 13) (st1 := [.int (-1)]) rfl (fun _ => rfl) ?_
        exact pr_e rfl (fun _ => rfl) ⟨rfl, rfl⟩
      show px_R _ _ _ _ (11, [(0, .ref 0), (1, .int a1)], [.int (-1)], _) _ _ _
      refine pr_bt (t := 18) (off := 7) (bb := decide (((-1) : Int32) < 0)) (st1 := []) rfl rfl rfl rfl (by decide) ?_
      refine pr_s (pc1 := 19) (st1 := [.int 0]) rfl (fun _ => rfl) ?_
      exact pr_e rfl (fun _ => rfl) ⟨rfl, rfl⟩
    show px_T _ _ _ _ (1595, [(4, .int 0), (3, .ref 164), (2, .ref 136), (1, .ref 0), (0, .retAddr 0)], [.int 0], _) _ _ _
    refine pt_s (pc1 := 1596) (st1 := [.ref 136, .int 0]) rfl rfl (fun _ => rfl) ?_
    refine pt_s (pc1 := 1597) (st1 := [.retAddr 0, .ref 136, .int 0]) rfl rfl (fun _ => rfl) ?_
    refine pt_s (pc1 := 1599) (st1 := [.int 0, .retAddr 0, .ref 136, .int 0]) rfl rfl (fun _ => rfl) ?_
    refine pt_s (pc1 := 1600) (st1 := [.int 1, .int 0, .retAddr 0, .ref 136, .int 0]) rfl rfl (fun _ => rfl) ?_
    refine pt_s (pc1 := 1601) (st1 := [.int 1, .retAddr 0, .ref 136, .int 0]) rfl rfl (fun _ => rfl) ?_
    refine pt_s (pc1 := 1602) (st1 := [.int a1, .ref 136, .int 0]) rfl rfl (fun _ => rfl) ?_
    refine pt_callv (N := pm_X10_isThere) (as := [.ref 136, .int a1]) (rest := [.int 0]) (f := 2047) (l := 83978) (c1 := 0) (k1 := 0) (c2 := 599837) (k2 := 7274195) (v := some (.int 0)) (h1 := ph_194) rfl rfl (fun ex => px_inv_hs ex rfl rfl rfl pg_1 rfl rfl rfl rfl) ?_ (Nat.le_of_ble_eq_true rfl) (Nat.le_of_ble_eq_true rfl) ?_
    · refine px_C_of rfl ?_
      refine pr_s (pc1 := 1) (st1 := [.ref 136]) rfl (fun _ => rfl) ?_
      refine pr_s (pc1 := 2) (st1 := [.int a1, .ref 136]) rfl (fun _ => rfl) ?_
      refine pr_callv (N := pm_X10_isFact) (as := [.ref 136, .int a1]) (rest := []) (f := 2046) (l := 83957) (c1 := 0) (k1 := 0) (c2 := 0) (k2 := 0) (v := some (.int 0)) (h1 := ph_193) rfl (fun ex => px_inv_hs ex rfl rfl rfl pg_1 rfl rfl rfl rfl) ?_ (Nat.le_of_ble_eq_true rfl) (Nat.le_of_ble_eq_true rfl) ?_
      · refine px_C_of rfl ?_
        refine pr_s (pc1 := 1) (st1 := [.ref 136]) rfl (fun _ => rfl) ?_
        refine pr_s (pc1 := 2) (st1 := [.ref 136, .ref 136]) rfl (fun _ => rfl) ?_
        refine pr_getf (pc1 := 5) (v := .ref 138) rfl rfl pg_1 rfl rfl ?_
        refine pr_s (pc1 := 6) (st1 := [.int a1, .ref 138, .ref 136]) rfl (fun _ => rfl) ?_
        refine pr_callv (N := pm_X9_place) (as := [.ref 138, .int a1]) (rest := [.ref 136]) (f := 2045) (l := 83935) (c1 := 0) (k1 := 0) (c2 := 0) (k2 := 0) (v := some (.int (-1))) (h1 := px_hs) rfl (fun ex => px_inv_hs ex rfl rfl rfl pg_66 rfl rfl rfl rfl) ?_ (Nat.le_of_ble_eq_true rfl) (Nat.le_of_ble_eq_true rfl) ?_
        · refine px_C_of rfl ?_
          refine pr_s (pc1 := 1) (st1 := [.ref 138]) rfl (fun _ => rfl) ?_
          refine pr_getf (pc1 := 4) (v := .ref 141) rfl rfl pg_66 rfl rfl ?_
          refine pr_getf (pc1 := 7) (v := .int 0) rfl rfl pg_68 rfl rfl ?_
          refine pr_s (pc1 := 8) (st1 := [.int 1, .int 0]) rfl (fun _ => rfl) ?_
          refine pr_s (pc1 := 9) (st1 := [.int (-1)]) rfl (fun _ => rfl) ?_
          refine pr_s (pc1 := 10) (lv1 := [(2, .int (-1)), (0, .ref 138), (1, .int a1)]) (st1 := []) rfl (fun _ => rfl) ?_
          refine pr_s (pc1 := 11) (st1 := [.int (-1)]) rfl (fun _ => rfl) ?_
          refine pr_bt (t := 33) (off := 22) (bb := decide (((-1) : Int32) < 0)) (st1 := []) rfl rfl rfl rfl (by decide) ?_
          refine pr_s (pc1 := 34) (st1 := [.int (-1)]) rfl (fun _ => rfl) ?_
          exact pr_e rfl (fun _ => rfl) ⟨rfl, rfl⟩
        show px_R _ _ _ _ (9, [(0, .ref 136), (1, .int a1)], [.int (-1), .ref 136], _) _ _ _
        refine pr_s (pc1 := 10) (st1 := [.int (-1), .int (-1), .ref 136]) rfl (fun _ => rfl) ?_
        refine pr_bt (t := 17) (off := 7) (bb := decide (((-1) : Int32) = (-1))) (st1 := [.ref 136]) rfl rfl rfl rfl (by decide) ?_
        refine pr_s (pc1 := 18) (st1 := [.int 1, .ref 136]) rfl (fun _ => rfl) ?_
        refine pr_putf (pc1 := 21) (h1 := ph_193) rfl rfl pg_1 rfl rfl rfl rfl rfl rfl rfl ?_
        refine pr_s (pc1 := 22) (st1 := [.ref 136]) rfl (fun _ => rfl) ?_
        refine pr_getf (pc1 := 25) (v := .int 1) rfl rfl pg_512 rfl rfl ?_
        refine pr_bt (t := 32) (off := 7) (bb := !decide ((1 : Int32) = 0)) (st1 := []) rfl rfl rfl rfl (px_not_t (by decide)) ?_
        refine pr_s (pc1 := 33) (st1 := [.int 0]) rfl (fun _ => rfl) ?_
        exact pr_e rfl (fun _ => rfl) ⟨rfl, rfl⟩
      show px_R _ _ _ _ (5, [(0, .ref 136), (1, .int a1)], [.int 0], _) _ _ _
      refine pr_s (pc1 := 6) (lv1 := [(2, .int 0), (0, .ref 136), (1, .int a1)]) (st1 := []) rfl (fun _ => rfl) ?_
      refine pr_s (pc1 := 7) (st1 := [.ref 136]) rfl (fun _ => rfl) ?_
      refine pr_s (pc1 := 8) (st1 := [.int 0, .ref 136]) rfl (fun _ => rfl) ?_
      refine pr_putf (pc1 := 11) (h1 := ph_194) rfl rfl pg_512 rfl rfl rfl rfl rfl rfl rfl ?_
      refine pr_s (pc1 := 12) (st1 := [.int 0]) rfl (fun _ => rfl) ?_
      exact pr_e rfl (fun _ => rfl) ⟨rfl, rfl⟩
    show px_T _ _ _ _ (1605, [(4, .int 0), (3, .ref 164), (2, .ref 136), (1, .ref 0), (0, .retAddr 0)], [.int 0, .int 0], _) _ _ _
    refine pt_bt (t := 2771) (off := 1166) (bb := decide ((0 : Int32) = 0)) (st1 := []) rfl rfl rfl rfl rfl (by decide) ?_
    refine pt_s (pc1 := 2774) (lv1 := [(4, .int 6), (3, .ref 164), (2, .ref 136), (1, .ref 0), (0, .retAddr 0)]) (st1 := []) rfl rfl (fun _ => rfl) ?_
    refine pt_s (pc1 := 23) (st1 := []) rfl rfl (fun _ => rfl) ?_
    refine pt_s (pc1 := 25) (st1 := [.int 6]) rfl rfl (fun _ => rfl) ?_
    refine pt_s (pc1 := 26) (st1 := [.retAddr 0, .int 6]) rfl rfl (fun _ => rfl) ?_
    refine pt_s (pc1 := 27) (st1 := [.int 6, .int 6]) rfl rfl (fun _ => rfl) ?_
    refine pt_s (pc1 := 29) (st1 := [.int 6, .int 6, .int 6]) rfl rfl (fun _ => rfl) ?_
    refine pt_s (pc1 := 30) (st1 := [.int 0, .int 6]) rfl rfl (fun _ => rfl) ?_
    refine pt_bt (t := 2777) (off := 2747) (bb := decide ((0 : Int32) < (6 : Int32))) (st1 := []) rfl rfl rfl rfl rfl (by decide) ?_
    refine pt_s (pc1 := 2778) (st1 := [.int 1]) rfl rfl (fun _ => rfl) ?_
    exact pt_e rfl ⟨rfl, (rfl : px_ins pm_law 2778 = some (.ireturn, 1))⟩
  · have ha1 : 0 ≤ a1.toInt ∧ a1.toInt ≤ 2147483647 := ⟨by omega, ha1.2⟩
    refine pt_s (pc1 := 1585) (st1 := []) rfl rfl (fun _ => rfl) ?_
    refine pt_s (pc1 := 1586) (st1 := [.ref 0]) rfl rfl (fun _ => rfl) ?_
    refine pt_s (pc1 := 1587) (st1 := [.retAddr 0, .ref 0]) rfl rfl (fun _ => rfl) ?_
    refine pt_s (pc1 := 1589) (st1 := [.int 0, .retAddr 0, .ref 0]) rfl rfl (fun _ => rfl) ?_
    refine pt_s (pc1 := 1590) (st1 := [.int 1, .int 0, .retAddr 0, .ref 0]) rfl rfl (fun _ => rfl) ?_
    refine pt_s (pc1 := 1591) (st1 := [.int 1, .retAddr 0, .ref 0]) rfl rfl (fun _ => rfl) ?_
    refine pt_s (pc1 := 1592) (st1 := [.int a1, .ref 0]) rfl rfl (fun _ => rfl) ?_
    refine pt_callv (N := pm_X6_isThere) (as := [.ref 0, .int a1]) (rest := []) (f := 2047) (l := 83979) (c1 := 0) (k1 := 0) (c2 := 599837) (k2 := 7274195) (v := some (.int 0)) (h1 := px_hs) rfl rfl (fun ex => px_inv_hs ex rfl rfl rfl pg_0 rfl rfl rfl rfl) ?_ (Nat.le_of_ble_eq_true rfl) (Nat.le_of_ble_eq_true rfl) ?_
    · refine px_C_of rfl ?_
      refine pr_s (pc1 := 1) (st1 := [.ref 0]) rfl (fun _ => rfl) ?_
      refine pr_getf (pc1 := 4) (v := .ref 92) rfl rfl pg_0 rfl rfl ?_
      refine pr_getf (pc1 := 7) (v := .ref 93) rfl rfl pg_22 rfl rfl ?_
      refine pr_s (pc1 := 8) (st1 := [.int a1, .ref 93]) rfl (fun _ => rfl) ?_
      refine pr_callv (N := pm_X2_placeOf) (as := [.ref 93, .int a1]) (rest := []) (f := 2046) (l := 83957) (c1 := 0) (k1 := 0) (c2 := 0) (k2 := 0) (v := some (.int (-1))) (h1 := px_hs) rfl (fun ex => px_inv_hs ex rfl rfl rfl pg_23 rfl rfl rfl rfl) ?_ (Nat.le_of_ble_eq_true rfl) (Nat.le_of_ble_eq_true rfl) ?_
      · refine px_C_of rfl ?_
        refine pr_s (pc1 := 1) (st1 := [.int a1]) rfl (fun _ => rfl) ?_
        refine pr_bf (t := 12) (off := 11) (bb := decide (a1 < 0)) (st1 := []) rfl rfl rfl rfl (pb_ltF ha1.1 (show (0 : Int32).toInt ≤ 0 by decide) (by decide)) ?_
        refine pr_s (pc1 := 5) (st1 := [.int a1]) rfl (fun _ => rfl) ?_
        refine pr_s (pc1 := 6) (st1 := [.ref 93, .int a1]) rfl (fun _ => rfl) ?_
        refine pr_getf (pc1 := 9) (v := .int 0) rfl rfl pg_23 rfl rfl ?_
        refine pr_bf (t := 14) (off := 5) (bb := decide (a1 < 0)) (st1 := []) rfl rfl rfl rfl (pb_ltF ha1.1 (show (0 : Int32).toInt ≤ 0 by decide) (by decide)) ?_
        refine pr_s (pc1 := 13) (st1 := [.int (-1)]) rfl (fun _ => rfl) ?_
        exact pr_e rfl (fun _ => rfl) ⟨rfl, rfl⟩
      show px_R _ _ _ _ (11, [(0, .ref 0), (1, .int a1)], [.int (-1)], _) _ _ _
      refine pr_bt (t := 18) (off := 7) (bb := decide (((-1) : Int32) < 0)) (st1 := []) rfl rfl rfl rfl (by decide) ?_
      refine pr_s (pc1 := 19) (st1 := [.int 0]) rfl (fun _ => rfl) ?_
      exact pr_e rfl (fun _ => rfl) ⟨rfl, rfl⟩
    show px_T _ _ _ _ (1595, [(4, .int 0), (3, .ref 164), (2, .ref 136), (1, .ref 0), (0, .retAddr 0)], [.int 0], _) _ _ _
    refine pt_s (pc1 := 1596) (st1 := [.ref 136, .int 0]) rfl rfl (fun _ => rfl) ?_
    refine pt_s (pc1 := 1597) (st1 := [.retAddr 0, .ref 136, .int 0]) rfl rfl (fun _ => rfl) ?_
    refine pt_s (pc1 := 1599) (st1 := [.int 0, .retAddr 0, .ref 136, .int 0]) rfl rfl (fun _ => rfl) ?_
    refine pt_s (pc1 := 1600) (st1 := [.int 1, .int 0, .retAddr 0, .ref 136, .int 0]) rfl rfl (fun _ => rfl) ?_
    refine pt_s (pc1 := 1601) (st1 := [.int 1, .retAddr 0, .ref 136, .int 0]) rfl rfl (fun _ => rfl) ?_
    refine pt_s (pc1 := 1602) (st1 := [.int a1, .ref 136, .int 0]) rfl rfl (fun _ => rfl) ?_
    refine pt_callv (N := pm_X10_isThere) (as := [.ref 136, .int a1]) (rest := [.int 0]) (f := 2047) (l := 83978) (c1 := 0) (k1 := 0) (c2 := 599837) (k2 := 7274195) (v := some (.int 0)) (h1 := ph_194) rfl rfl (fun ex => px_inv_hs ex rfl rfl rfl pg_1 rfl rfl rfl rfl) ?_ (Nat.le_of_ble_eq_true rfl) (Nat.le_of_ble_eq_true rfl) ?_
    · refine px_C_of rfl ?_
      refine pr_s (pc1 := 1) (st1 := [.ref 136]) rfl (fun _ => rfl) ?_
      refine pr_s (pc1 := 2) (st1 := [.int a1, .ref 136]) rfl (fun _ => rfl) ?_
      refine pr_callv (N := pm_X10_isFact) (as := [.ref 136, .int a1]) (rest := []) (f := 2046) (l := 83957) (c1 := 0) (k1 := 0) (c2 := 0) (k2 := 0) (v := some (.int 0)) (h1 := ph_193) rfl (fun ex => px_inv_hs ex rfl rfl rfl pg_1 rfl rfl rfl rfl) ?_ (Nat.le_of_ble_eq_true rfl) (Nat.le_of_ble_eq_true rfl) ?_
      · refine px_C_of rfl ?_
        refine pr_s (pc1 := 1) (st1 := [.ref 136]) rfl (fun _ => rfl) ?_
        refine pr_s (pc1 := 2) (st1 := [.ref 136, .ref 136]) rfl (fun _ => rfl) ?_
        refine pr_getf (pc1 := 5) (v := .ref 138) rfl rfl pg_1 rfl rfl ?_
        refine pr_s (pc1 := 6) (st1 := [.int a1, .ref 138, .ref 136]) rfl (fun _ => rfl) ?_
        refine pr_callv (N := pm_X9_place) (as := [.ref 138, .int a1]) (rest := [.ref 136]) (f := 2045) (l := 83935) (c1 := 0) (k1 := 0) (c2 := 0) (k2 := 0) (v := some (.int (-1))) (h1 := px_hs) rfl (fun ex => px_inv_hs ex rfl rfl rfl pg_66 rfl rfl rfl rfl) ?_ (Nat.le_of_ble_eq_true rfl) (Nat.le_of_ble_eq_true rfl) ?_
        · refine px_C_of rfl ?_
          refine pr_s (pc1 := 1) (st1 := [.ref 138]) rfl (fun _ => rfl) ?_
          refine pr_getf (pc1 := 4) (v := .ref 141) rfl rfl pg_66 rfl rfl ?_
          refine pr_getf (pc1 := 7) (v := .int 0) rfl rfl pg_68 rfl rfl ?_
          refine pr_s (pc1 := 8) (st1 := [.int 1, .int 0]) rfl (fun _ => rfl) ?_
          refine pr_s (pc1 := 9) (st1 := [.int (-1)]) rfl (fun _ => rfl) ?_
          refine pr_s (pc1 := 10) (lv1 := [(2, .int (-1)), (0, .ref 138), (1, .int a1)]) (st1 := []) rfl (fun _ => rfl) ?_
          refine pr_s (pc1 := 11) (st1 := [.int (-1)]) rfl (fun _ => rfl) ?_
          refine pr_bt (t := 33) (off := 22) (bb := decide (((-1) : Int32) < 0)) (st1 := []) rfl rfl rfl rfl (by decide) ?_
          refine pr_s (pc1 := 34) (st1 := [.int (-1)]) rfl (fun _ => rfl) ?_
          exact pr_e rfl (fun _ => rfl) ⟨rfl, rfl⟩
        show px_R _ _ _ _ (9, [(0, .ref 136), (1, .int a1)], [.int (-1), .ref 136], _) _ _ _
        refine pr_s (pc1 := 10) (st1 := [.int (-1), .int (-1), .ref 136]) rfl (fun _ => rfl) ?_
        refine pr_bt (t := 17) (off := 7) (bb := decide (((-1) : Int32) = (-1))) (st1 := [.ref 136]) rfl rfl rfl rfl (by decide) ?_
        refine pr_s (pc1 := 18) (st1 := [.int 1, .ref 136]) rfl (fun _ => rfl) ?_
        refine pr_putf (pc1 := 21) (h1 := ph_193) rfl rfl pg_1 rfl rfl rfl rfl rfl rfl rfl ?_
        refine pr_s (pc1 := 22) (st1 := [.ref 136]) rfl (fun _ => rfl) ?_
        refine pr_getf (pc1 := 25) (v := .int 1) rfl rfl pg_512 rfl rfl ?_
        refine pr_bt (t := 32) (off := 7) (bb := !decide ((1 : Int32) = 0)) (st1 := []) rfl rfl rfl rfl (px_not_t (by decide)) ?_
        refine pr_s (pc1 := 33) (st1 := [.int 0]) rfl (fun _ => rfl) ?_
        exact pr_e rfl (fun _ => rfl) ⟨rfl, rfl⟩
      show px_R _ _ _ _ (5, [(0, .ref 136), (1, .int a1)], [.int 0], _) _ _ _
      refine pr_s (pc1 := 6) (lv1 := [(2, .int 0), (0, .ref 136), (1, .int a1)]) (st1 := []) rfl (fun _ => rfl) ?_
      refine pr_s (pc1 := 7) (st1 := [.ref 136]) rfl (fun _ => rfl) ?_
      refine pr_s (pc1 := 8) (st1 := [.int 0, .ref 136]) rfl (fun _ => rfl) ?_
      refine pr_putf (pc1 := 11) (h1 := ph_194) rfl rfl pg_512 rfl rfl rfl rfl rfl rfl rfl ?_
      refine pr_s (pc1 := 12) (st1 := [.int 0]) rfl (fun _ => rfl) ?_
      exact pr_e rfl (fun _ => rfl) ⟨rfl, rfl⟩
    show px_T _ _ _ _ (1605, [(4, .int 0), (3, .ref 164), (2, .ref 136), (1, .ref 0), (0, .retAddr 0)], [.int 0, .int 0], _) _ _ _
    refine pt_bt (t := 2771) (off := 1166) (bb := decide ((0 : Int32) = 0)) (st1 := []) rfl rfl rfl rfl rfl (by decide) ?_
    refine pt_s (pc1 := 2774) (lv1 := [(4, .int 6), (3, .ref 164), (2, .ref 136), (1, .ref 0), (0, .retAddr 0)]) (st1 := []) rfl rfl (fun _ => rfl) ?_
    refine pt_s (pc1 := 23) (st1 := []) rfl rfl (fun _ => rfl) ?_
    refine pt_s (pc1 := 25) (st1 := [.int 6]) rfl rfl (fun _ => rfl) ?_
    refine pt_s (pc1 := 26) (st1 := [.retAddr 0, .int 6]) rfl rfl (fun _ => rfl) ?_
    refine pt_s (pc1 := 27) (st1 := [.int 6, .int 6]) rfl rfl (fun _ => rfl) ?_
    refine pt_s (pc1 := 29) (st1 := [.int 6, .int 6, .int 6]) rfl rfl (fun _ => rfl) ?_
    refine pt_s (pc1 := 30) (st1 := [.int 0, .int 6]) rfl rfl (fun _ => rfl) ?_
    refine pt_bt (t := 2777) (off := 2747) (bb := decide ((0 : Int32) < (6 : Int32))) (st1 := []) rfl rfl rfl rfl rfl (by decide) ?_
    refine pt_s (pc1 := 2778) (st1 := [.int 1]) rfl rfl (fun _ => rfl) ?_
    exact pt_e rfl ⟨rfl, (rfl : px_ins pm_law 2778 = some (.ireturn, 1))⟩
