/-! THE LAW'S CALLS, ONE BY ONE, ON A NEW OBJECT (wip/gen/p1gen.py) -/
set_option maxRecDepth 100000 in
set_option maxHeartbeats 40000000 in
theorem px_op_41 (a0 a1 a2 a3 a4 a5 : Int32) : px_T (some [a0, a1, a2, a3, a4, a5]) pm_law 2048 84000 (40, [(4, .int 0), (3, .ref 164), (2, .ref 136), (1, .ref 0), (0, .retAddr 0)], [.int 41], px_hs) 599837 7274195 (fun s1 => s1.2.2.1 = [.int 1] ∧ px_ins pm_law s1.1 = some (.ireturn, 1)) := by
  have ha1 : (-2147483648) ≤ a1.toInt ∧ a1.toInt ≤ 2147483647 := ⟨Int32.le_toInt a1, Int32.toInt_le a1⟩
  by_cases hs : a1.toInt < 1
  · have ha1 : (-2147483648) ≤ a1.toInt ∧ a1.toInt ≤ 0 := ⟨ha1.1, by omega⟩
    refine pt_s (pc1 := 2534) (st1 := []) rfl rfl (fun _ => rfl) ?_
    refine pt_s (pc1 := 2535) (st1 := [.ref 0]) rfl rfl (fun _ => rfl) ?_
    refine pt_s (pc1 := 2536) (st1 := [.retAddr 0, .ref 0]) rfl rfl (fun _ => rfl) ?_
    refine pt_s (pc1 := 2538) (st1 := [.int 0, .retAddr 0, .ref 0]) rfl rfl (fun _ => rfl) ?_
    refine pt_s (pc1 := 2539) (st1 := [.int 1, .int 0, .retAddr 0, .ref 0]) rfl rfl (fun _ => rfl) ?_
    refine pt_s (pc1 := 2540) (st1 := [.int 1, .retAddr 0, .ref 0]) rfl rfl (fun _ => rfl) ?_
    refine pt_s (pc1 := 2541) (st1 := [.int a1, .ref 0]) rfl rfl (fun _ => rfl) ?_
    refine pt_s (pc1 := 2542) (st1 := [.ref 164, .int a1, .ref 0]) rfl rfl (fun _ => rfl) ?_
    refine pt_callv (N := pm_L_firingsToRest) (as := [.ref 0, .int a1, .ref 164]) (rest := []) (f := 2047) (l := 83977) (c1 := 1) (k1 := 6) (c2 := 599836) (k2 := 7274189) (v := some (.int 1)) (h1 := ph_1) rfl rfl (fun _ => rfl) ?_ (Nat.le_of_ble_eq_true rfl) (Nat.le_of_ble_eq_true rfl) ?_
    · refine px_C_of rfl ?_
      refine pr_s (pc1 := 1) (st1 := [.ref 164]) rfl (fun _ => rfl) ?_
      refine pr_s (pc1 := 2) (st1 := [.int 0, .ref 164]) rfl (fun _ => rfl) ?_
      refine pr_s (pc1 := 3) (st1 := [.ref 0, .int 0, .ref 164]) rfl (fun _ => rfl) ?_
      refine pr_s (pc1 := 4) (st1 := [.int a1, .ref 0, .int 0, .ref 164]) rfl (fun _ => rfl) ?_
      refine pr_callx (N := pm_X6_firingsToRest) (as := [.ref 0, .int a1]) (rest := [.int 0, .ref 164]) (f := 2046) (l := 83955) (c1 := 1) (k1 := 6) (c2 := 0) (k2 := 0) (E := 12) (h1 := ph_1) (a := 12) (y1 := 3) (y2 := 1) rfl (fun ex => px_inv_hs ex rfl rfl rfl pg_0 rfl rfl rfl rfl) ?_ (Nat.le_of_ble_eq_true rfl) (Nat.le_of_ble_eq_true rfl) rfl rfl rfl rfl ?_
      · refine px_C_of rfl ?_
        refine pr_s (pc1 := 1) (st1 := [.int a1]) rfl (fun _ => rfl) ?_
        refine pr_callo (N := pm_X6_needMost) (as := [.int a1]) (rest := []) (f := 2045) (l := 83935) (E := 12) (h1 := ph_1) rfl (fun _ => rfl) ?_ rfl ⟨rfl, rfl⟩
        · refine px_C_of rfl ?_
          refine pr_s (pc1 := 1) (st1 := [.int a1]) rfl (fun _ => rfl) ?_
          refine pr_s (pc1 := 2) (st1 := [.int 1, .int a1]) rfl (fun _ => rfl) ?_
          refine pr_bt (t := 11) (off := 9) (bb := decide (a1 < 1)) (st1 := []) rfl rfl rfl rfl (pb_ltT ha1.2 (show 1 ≤ (1 : Int32).toInt by decide) (by decide)) ?_
          refine pr_mh (z1 := 1) (z2 := 6) (c1 := 0) (k1 := 0) (pc1 := 21) (n := 165) (r := []) (h1 := ph_1) (es := fun n => [.inr (12, [])]) rfl (fun _ => rfl) pl_0 rfl (Nat.le_of_ble_eq_true rfl) (Nat.le_of_ble_eq_true rfl) ?_
          exact pr_e rfl (fun _ => rfl) ⟨rfl, rfl⟩
      show px_R _ _ _ _ (13, [(0, .ref 0), (1, .int a1), (2, .ref 164)], [], _) _ _ _
      refine pr_s (pc1 := 14) (st1 := [.int 1]) rfl (fun _ => rfl) ?_
      exact pr_e rfl (fun _ => rfl) ⟨rfl, rfl⟩
    show px_T _ _ _ _ (2545, [(4, .int 0), (3, .ref 164), (2, .ref 136), (1, .ref 0), (0, .retAddr 0)], [.int 1], _) _ _ _
    refine pt_s (pc1 := 2547) (lv1 := [(5, .int 1), (4, .int 0), (3, .ref 164), (2, .ref 136), (1, .ref 0), (0, .retAddr 0)]) (st1 := []) rfl rfl (fun _ => rfl) ?_
    refine pt_s (pc1 := 2548) (st1 := [.ref 136]) rfl rfl (fun _ => rfl) ?_
    refine pt_s (pc1 := 2549) (st1 := [.retAddr 0, .ref 136]) rfl rfl (fun _ => rfl) ?_
    refine pt_s (pc1 := 2551) (st1 := [.int 0, .retAddr 0, .ref 136]) rfl rfl (fun _ => rfl) ?_
    refine pt_s (pc1 := 2552) (st1 := [.int 1, .int 0, .retAddr 0, .ref 136]) rfl rfl (fun _ => rfl) ?_
    refine pt_s (pc1 := 2553) (st1 := [.int 1, .retAddr 0, .ref 136]) rfl rfl (fun _ => rfl) ?_
    refine pt_s (pc1 := 2554) (st1 := [.int a1, .ref 136]) rfl rfl (fun _ => rfl) ?_
    refine pt_callv (N := pm_X10_firingsToRest) (as := [.ref 136, .int a1]) (rest := []) (f := 2047) (l := 83978) (c1 := 0) (k1 := 0) (c2 := 599836) (k2 := 7274189) (v := some (.int 0)) (h1 := ph_2) rfl rfl (fun ex => px_inv_hs ex rfl rfl rfl pg_2 rfl rfl rfl rfl) ?_ (Nat.le_of_ble_eq_true rfl) (Nat.le_of_ble_eq_true rfl) ?_
    · refine px_C_of rfl ?_
      refine pr_s (pc1 := 1) (st1 := [.ref 136]) rfl (fun _ => rfl) ?_
      refine pr_s (pc1 := 2) (st1 := [.int 0, .ref 136]) rfl (fun _ => rfl) ?_
      refine pr_putf (pc1 := 5) (h1 := ph_1) rfl rfl pg_2 rfl rfl rfl rfl rfl (px_set_same pg_2 rfl) rfl ?_
      refine pr_s (pc1 := 6) (st1 := [.int a1]) rfl (fun _ => rfl) ?_
      refine pr_s (pc1 := 7) (st1 := [.int 1, .int a1]) rfl (fun _ => rfl) ?_
      refine pr_s (pc1 := 9) (st1 := [.int 20, .int 1, .int a1]) rfl (fun _ => rfl) ?_
      refine pr_callv (N := pm_X10_is) (as := [.int a1, .int 1, .int 20]) (rest := []) (f := 2046) (l := 83956) (c1 := 0) (k1 := 0) (c2 := 0) (k2 := 0) (v := some (.int 0)) (h1 := ph_1) rfl (fun _ => rfl) ?_ (Nat.le_of_ble_eq_true rfl) (Nat.le_of_ble_eq_true rfl) ?_
      · refine px_C_of rfl ?_
        refine pr_s (pc1 := 1) (st1 := [.int a1]) rfl (fun _ => rfl) ?_
        refine pr_s (pc1 := 2) (st1 := [.int 1, .int a1]) rfl (fun _ => rfl) ?_
        refine pr_bt (t := 14) (off := 12) (bb := decide (a1 < 1)) (st1 := []) rfl rfl rfl rfl (pb_ltT ha1.2 (show 1 ≤ (1 : Int32).toInt by decide) (by decide)) ?_
        refine pr_s (pc1 := 15) (st1 := [.int 0]) rfl (fun _ => rfl) ?_
        exact pr_e rfl (fun _ => rfl) ⟨rfl, rfl⟩
      show px_R _ _ _ _ (12, [(0, .ref 136), (1, .int a1)], [.int 0], _) _ _ _
      refine pr_bf (t := 21) (off := 9) (bb := !decide ((0 : Int32) = 0)) (st1 := []) rfl rfl rfl rfl (px_not_f (by decide)) ?_
      refine pr_s (pc1 := 16) (st1 := [.ref 136]) rfl (fun _ => rfl) ?_
      refine pr_s (pc1 := 17) (st1 := [.int 1, .ref 136]) rfl (fun _ => rfl) ?_
      refine pr_callv (N := pm_X10_refuse) (as := [.ref 136, .int 1]) (rest := []) (f := 2046) (l := 83957) (c1 := 0) (k1 := 0) (c2 := 0) (k2 := 0) (v := some (.int 0)) (h1 := ph_2) rfl (fun ex => px_inv_hs ex rfl rfl rfl pg_2 rfl rfl rfl rfl) ?_ (Nat.le_of_ble_eq_true rfl) (Nat.le_of_ble_eq_true rfl) ?_
      · refine px_C_of rfl ?_
        refine pr_s (pc1 := 1) (st1 := [.ref 136]) rfl (fun _ => rfl) ?_
        refine pr_s (pc1 := 2) (st1 := [.int 1, .ref 136]) rfl (fun _ => rfl) ?_
        refine pr_putf (pc1 := 5) (h1 := ph_2) rfl rfl pg_2 rfl rfl rfl rfl rfl rfl rfl ?_
        refine pr_s (pc1 := 6) (st1 := [.int 0]) rfl (fun _ => rfl) ?_
        exact pr_e rfl (fun _ => rfl) ⟨rfl, rfl⟩
      show px_R _ _ _ _ (20, [(0, .ref 136), (1, .int a1)], [.int 0], _) _ _ _
      exact pr_e rfl (fun _ => rfl) ⟨rfl, rfl⟩
    show px_T _ _ _ _ (2557, [(5, .int 1), (4, .int 0), (3, .ref 164), (2, .ref 136), (1, .ref 0), (0, .retAddr 0)], [.int 0], _) _ _ _
    refine pt_s (pc1 := 2559) (lv1 := [(6, .int 0), (5, .int 1), (4, .int 0), (3, .ref 164), (2, .ref 136), (1, .ref 0), (0, .retAddr 0)]) (st1 := []) rfl rfl (fun _ => rfl) ?_
    refine pt_s (pc1 := 2560) (st1 := [.ref 136]) rfl rfl (fun _ => rfl) ?_
    refine pt_callv (N := pm_X10_thrown) (as := [.ref 136]) (rest := []) (f := 2047) (l := 83980) (c1 := 0) (k1 := 0) (c2 := 599836) (k2 := 7274189) (v := some (.int 1)) (h1 := ph_2) rfl rfl (fun ex => px_inv_hs ex rfl rfl rfl pg_3 rfl rfl rfl rfl) ?_ (Nat.le_of_ble_eq_true rfl) (Nat.le_of_ble_eq_true rfl) ?_
    · refine px_C_of rfl ?_
      refine pr_s (pc1 := 1) (st1 := [.ref 136]) rfl (fun _ => rfl) ?_
      refine pr_getf (pc1 := 4) (v := .int 1) rfl rfl pg_3 rfl rfl ?_
      exact pr_e rfl (fun _ => rfl) ⟨rfl, rfl⟩
    show px_T _ _ _ _ (2563, [(6, .int 0), (5, .int 1), (4, .int 0), (3, .ref 164), (2, .ref 136), (1, .ref 0), (0, .retAddr 0)], [.int 1], _) _ _ _
    refine pt_s (pc1 := 2565) (st1 := [.int 1, .int 1]) rfl rfl (fun _ => rfl) ?_
    refine pt_bt (t := 2570) (off := 5) (bb := decide ((1 : Int32) = 1)) (st1 := []) rfl rfl rfl rfl rfl (by decide) ?_
    refine pt_s (pc1 := 2572) (st1 := [.int 1]) rfl rfl (fun _ => rfl) ?_
    refine pt_bt (t := 2587) (off := 15) (bb := !decide ((1 : Int32) = 0)) (st1 := []) rfl rfl rfl rfl rfl (px_not_t (by decide)) ?_
    refine pt_s (pc1 := 2771) (st1 := []) rfl rfl (fun _ => rfl) ?_
    refine pt_s (pc1 := 2774) (lv1 := [(4, .int 6), (6, .int 0), (5, .int 1), (3, .ref 164), (2, .ref 136), (1, .ref 0), (0, .retAddr 0)]) (st1 := []) rfl rfl (fun _ => rfl) ?_
    refine pt_s (pc1 := 23) (st1 := []) rfl rfl (fun _ => rfl) ?_
    refine pt_s (pc1 := 25) (st1 := [.int 6]) rfl rfl (fun _ => rfl) ?_
    refine pt_s (pc1 := 26) (st1 := [.retAddr 0, .int 6]) rfl rfl (fun _ => rfl) ?_
    refine pt_s (pc1 := 27) (st1 := [.int 6, .int 6]) rfl rfl (fun _ => rfl) ?_
    refine pt_s (pc1 := 29) (st1 := [.int 6, .int 6, .int 6]) rfl rfl (fun _ => rfl) ?_
    refine pt_s (pc1 := 30) (st1 := [.int 0, .int 6]) rfl rfl (fun _ => rfl) ?_
    refine pt_bt (t := 2777) (off := 2747) (bb := decide ((0 : Int32) < (6 : Int32))) (st1 := []) rfl rfl rfl rfl rfl (by decide) ?_
    refine pt_s (pc1 := 2778) (st1 := [.int 1]) rfl rfl (fun _ => rfl) ?_
    exact pt_e rfl ⟨rfl, (rfl : px_ins pm_law 2778 = some (.ireturn, 1))⟩
  · have ha1 : 1 ≤ a1.toInt ∧ a1.toInt ≤ 2147483647 := ⟨by omega, ha1.2⟩
    by_cases hs : a1.toInt < 21
    · have ha1 : 1 ≤ a1.toInt ∧ a1.toInt ≤ 20 := ⟨ha1.1, by omega⟩
      refine pt_s (pc1 := 2534) (st1 := []) rfl rfl (fun _ => rfl) ?_
      refine pt_s (pc1 := 2535) (st1 := [.ref 0]) rfl rfl (fun _ => rfl) ?_
      refine pt_s (pc1 := 2536) (st1 := [.retAddr 0, .ref 0]) rfl rfl (fun _ => rfl) ?_
      refine pt_s (pc1 := 2538) (st1 := [.int 0, .retAddr 0, .ref 0]) rfl rfl (fun _ => rfl) ?_
      refine pt_s (pc1 := 2539) (st1 := [.int 1, .int 0, .retAddr 0, .ref 0]) rfl rfl (fun _ => rfl) ?_
      refine pt_s (pc1 := 2540) (st1 := [.int 1, .retAddr 0, .ref 0]) rfl rfl (fun _ => rfl) ?_
      refine pt_s (pc1 := 2541) (st1 := [.int a1, .ref 0]) rfl rfl (fun _ => rfl) ?_
      refine pt_s (pc1 := 2542) (st1 := [.ref 164, .int a1, .ref 0]) rfl rfl (fun _ => rfl) ?_
      refine pt_callv (N := pm_L_firingsToRest) (as := [.ref 0, .int a1, .ref 164]) (rest := []) (f := 2047) (l := 83977) (c1 := 0) (k1 := 0) (c2 := 599837) (k2 := 7274195) (v := some (.int 0)) (h1 := ph_192) rfl rfl (fun _ => rfl) ?_ (Nat.le_of_ble_eq_true rfl) (Nat.le_of_ble_eq_true rfl) ?_
      · refine px_C_of rfl ?_
        refine pr_s (pc1 := 1) (st1 := [.ref 164]) rfl (fun _ => rfl) ?_
        refine pr_s (pc1 := 2) (st1 := [.int 0, .ref 164]) rfl (fun _ => rfl) ?_
        refine pr_s (pc1 := 3) (st1 := [.ref 0, .int 0, .ref 164]) rfl (fun _ => rfl) ?_
        refine pr_s (pc1 := 4) (st1 := [.int a1, .ref 0, .int 0, .ref 164]) rfl (fun _ => rfl) ?_
        refine pr_callv (N := pm_X6_firingsToRest) (as := [.ref 0, .int a1]) (rest := [.int 0, .ref 164]) (f := 2046) (l := 83955) (c1 := 0) (k1 := 0) (c2 := 0) (k2 := 0) (v := some (.int 0)) (h1 := px_hs) rfl (fun ex => px_inv_hs ex rfl rfl rfl pg_0 rfl rfl rfl rfl) ?_ (Nat.le_of_ble_eq_true rfl) (Nat.le_of_ble_eq_true rfl) ?_
        · refine px_C_of rfl ?_
          refine pr_s (pc1 := 1) (st1 := [.int a1]) rfl (fun _ => rfl) ?_
          refine pr_callv (N := pm_X6_needMost) (as := [.int a1]) (rest := []) (f := 2045) (l := 83935) (c1 := 0) (k1 := 0) (c2 := 0) (k2 := 0) (v := none) (h1 := px_hs) rfl (fun _ => rfl) ?_ (Nat.le_of_ble_eq_true rfl) (Nat.le_of_ble_eq_true rfl) ?_
          · refine px_C_of rfl ?_
            refine pr_s (pc1 := 1) (st1 := [.int a1]) rfl (fun _ => rfl) ?_
            refine pr_s (pc1 := 2) (st1 := [.int 1, .int a1]) rfl (fun _ => rfl) ?_
            refine pr_bf (t := 11) (off := 9) (bb := decide (a1 < 1)) (st1 := []) rfl rfl rfl rfl (pb_ltF ha1.1 (show (1 : Int32).toInt ≤ 1 by decide) (by decide)) ?_
            refine pr_s (pc1 := 6) (st1 := [.int a1]) rfl (fun _ => rfl) ?_
            refine pr_s (pc1 := 8) (st1 := [.int 20, .int a1]) rfl (fun _ => rfl) ?_
            refine pr_bt (t := 22) (off := 14) (bb := decide (a1 ≤ 20)) (st1 := []) rfl rfl rfl rfl (pb_leT ha1.2 (show 20 ≤ (20 : Int32).toInt by decide) (by decide)) ?_
            exact pr_e rfl (fun _ => rfl) ⟨rfl, rfl⟩
          show px_R _ _ _ _ (4, [(0, .ref 0), (1, .int a1)], [], _) _ _ _
          refine pr_s (pc1 := 5) (st1 := [.ref 0]) rfl (fun _ => rfl) ?_
          refine pr_getf (pc1 := 8) (v := .ref 114) rfl rfl pg_0 rfl rfl ?_
          refine pr_s (pc1 := 9) (st1 := [.ref 0, .ref 114]) rfl (fun _ => rfl) ?_
          refine pr_getf (pc1 := 12) (v := .ref 92) rfl rfl pg_0 rfl rfl ?_
          refine pr_callv (N := pm_X5_become) (as := [.ref 114, .ref 92]) (rest := []) (f := 2045) (l := 83934) (c1 := 0) (k1 := 0) (c2 := 0) (k2 := 0) (v := none) (h1 := px_hs) rfl (fun ex => px_inv_hs ex rfl rfl rfl pg_514 rfl rfl rfl rfl) ?_ (Nat.le_of_ble_eq_true rfl) (Nat.le_of_ble_eq_true rfl) ?_
          · exact px_C_mono pb_become (Nat.le_of_ble_eq_true rfl) (Nat.le_of_ble_eq_true rfl) (Nat.le_refl _) (Nat.le_refl _) (fun _ _ h => h)
          show px_R _ _ _ _ (15, [(0, .ref 0), (1, .int a1)], [], _) _ _ _
          refine pr_s (pc1 := 16) (st1 := [.ref 0]) rfl (fun _ => rfl) ?_
          refine pr_getf (pc1 := 19) (v := .ref 114) rfl rfl pg_0 rfl rfl ?_
          refine pr_s (pc1 := 20) (st1 := [.int a1, .ref 114]) rfl (fun _ => rfl) ?_
          refine pr_callv (N := pm_X5_fireUpTo) (as := [.ref 114, .int a1]) (rest := []) (f := 2045) (l := 83928) (c1 := 0) (k1 := 0) (c2 := 0) (k2 := 0) (v := some (.int 0)) (h1 := px_hs) rfl (fun ex => px_inv_hs ex rfl rfl rfl pg_514 rfl rfl rfl rfl) ?_ (Nat.le_of_ble_eq_true rfl) (Nat.le_of_ble_eq_true rfl) ?_
          · refine px_C_of rfl ?_
            refine pr_s (pc1 := 1) (st1 := [.int 0]) rfl (fun _ => rfl) ?_
            refine pr_s (pc1 := 2) (lv1 := [(2, .int 0), (0, .ref 114), (1, .int a1)]) (st1 := []) rfl (fun _ => rfl) ?_
            refine pr_s (pc1 := 3) (st1 := [.int 0]) rfl (fun _ => rfl) ?_
            refine pr_s (pc1 := 4) (st1 := [.int a1, .int 0]) rfl (fun _ => rfl) ?_
            refine pr_bf (t := 153) (off := 149) (bb := decide ((a1 : Int32) ≤ (0 : Int32))) (st1 := []) rfl rfl rfl rfl (pb_leF ha1.1 (show (0 : Int32).toInt ≤ 0 by decide) (by decide)) ?_
            refine pr_s (pc1 := 8) (st1 := [.ref 114]) rfl (fun _ => rfl) ?_
            refine pr_callv (N := pm_X5_firstWaiting) (as := [.ref 114]) (rest := []) (f := 2044) (l := 83904) (c1 := 0) (k1 := 0) (c2 := 0) (k2 := 0) (v := some (.int (-1))) (h1 := px_hs) rfl (fun ex => px_inv_hs ex rfl rfl rfl pg_514 rfl rfl rfl rfl) ?_ (Nat.le_of_ble_eq_true rfl) (Nat.le_of_ble_eq_true rfl) ?_
            · exact px_C_none pc_3 (Nat.le_of_ble_eq_true rfl) (Nat.le_of_ble_eq_true rfl) (Nat.le_of_ble_eq_true rfl) (Nat.le_of_ble_eq_true rfl)
            show px_R _ _ _ _ (11, [(2, .int 0), (0, .ref 114), (1, .int a1)], [.int (-1)], _) _ _ _
            refine pr_s (pc1 := 12) (lv1 := [(3, .int (-1)), (2, .int 0), (0, .ref 114), (1, .int a1)]) (st1 := []) rfl (fun _ => rfl) ?_
            refine pr_s (pc1 := 13) (st1 := [.int (-1)]) rfl (fun _ => rfl) ?_
            refine pr_bt (t := 23) (off := 10) (bb := decide (((-1) : Int32) < 0)) (st1 := []) rfl rfl rfl rfl (by decide) ?_
            refine pr_s (pc1 := 24) (st1 := [.int 0]) rfl (fun _ => rfl) ?_
            exact pr_e rfl (fun _ => rfl) ⟨rfl, rfl⟩
          show px_R _ _ _ _ (23, [(0, .ref 0), (1, .int a1)], [.int 0], _) _ _ _
          refine pr_s (pc1 := 24) (lv1 := [(2, .int 0), (0, .ref 0), (1, .int a1)]) (st1 := []) rfl (fun _ => rfl) ?_
          refine pr_s (pc1 := 25) (st1 := [.ref 0]) rfl (fun _ => rfl) ?_
          refine pr_getf (pc1 := 28) (v := .ref 114) rfl rfl pg_0 rfl rfl ?_
          refine pr_callv (N := pm_X5_firstWaiting) (as := [.ref 114]) (rest := []) (f := 2045) (l := 83931) (c1 := 0) (k1 := 0) (c2 := 0) (k2 := 0) (v := some (.int (-1))) (h1 := px_hs) rfl (fun ex => px_inv_hs ex rfl rfl rfl pg_514 rfl rfl rfl rfl) ?_ (Nat.le_of_ble_eq_true rfl) (Nat.le_of_ble_eq_true rfl) ?_
          · exact px_C_none pc_3 (Nat.le_of_ble_eq_true rfl) (Nat.le_of_ble_eq_true rfl) (Nat.le_of_ble_eq_true rfl) (Nat.le_of_ble_eq_true rfl)
          show px_R _ _ _ _ (31, [(2, .int 0), (0, .ref 0), (1, .int a1)], [.int (-1)], _) _ _ _
          refine pr_bf (t := 38) (off := 7) (bb := decide ((0 : Int32) ≤ ((-1) : Int32))) (st1 := []) rfl rfl rfl rfl (by decide) ?_
          refine pr_s (pc1 := 35) (st1 := [.int 0]) rfl (fun _ => rfl) ?_
          refine pr_s (pc1 := 39) (st1 := [.int 0]) rfl (fun _ => rfl) ?_
          exact pr_e rfl (fun _ => rfl) ⟨rfl, rfl⟩
        show px_R _ _ _ _ (7, [(0, .ref 0), (1, .int a1), (2, .ref 164)], [.int 0, .int 0, .ref 164], _) _ _ _
        refine pr_s (pc1 := 8) (st1 := [.long 0, .int 0, .ref 164]) rfl (fun _ => rfl) ?_
        refine pr_last (pc1 := 9) (h1 := ph_192) rfl pg_8 rfl rfl rfl ?_
        refine pr_s (pc1 := 15) (st1 := []) rfl (fun _ => rfl) ?_
        refine pr_s (pc1 := 16) (st1 := [.int 0]) rfl (fun _ => rfl) ?_
        exact pr_e rfl (fun _ => rfl) ⟨rfl, rfl⟩
      show px_T _ _ _ _ (2545, [(4, .int 0), (3, .ref 164), (2, .ref 136), (1, .ref 0), (0, .retAddr 0)], [.int 0], _) _ _ _
      refine pt_s (pc1 := 2547) (lv1 := [(5, .int 0), (4, .int 0), (3, .ref 164), (2, .ref 136), (1, .ref 0), (0, .retAddr 0)]) (st1 := []) rfl rfl (fun _ => rfl) ?_
      refine pt_s (pc1 := 2548) (st1 := [.ref 136]) rfl rfl (fun _ => rfl) ?_
      refine pt_s (pc1 := 2549) (st1 := [.retAddr 0, .ref 136]) rfl rfl (fun _ => rfl) ?_
      refine pt_s (pc1 := 2551) (st1 := [.int 0, .retAddr 0, .ref 136]) rfl rfl (fun _ => rfl) ?_
      refine pt_s (pc1 := 2552) (st1 := [.int 1, .int 0, .retAddr 0, .ref 136]) rfl rfl (fun _ => rfl) ?_
      refine pt_s (pc1 := 2553) (st1 := [.int 1, .retAddr 0, .ref 136]) rfl rfl (fun _ => rfl) ?_
      refine pt_s (pc1 := 2554) (st1 := [.int a1, .ref 136]) rfl rfl (fun _ => rfl) ?_
      refine pt_callv (N := pm_X10_firingsToRest) (as := [.ref 136, .int a1]) (rest := []) (f := 2047) (l := 83978) (c1 := 0) (k1 := 0) (c2 := 599837) (k2 := 7274195) (v := some (.int 0)) (h1 := ph_192) rfl rfl (fun ex => px_inv_hs ex rfl rfl rfl pg_508 rfl rfl rfl rfl) ?_ (Nat.le_of_ble_eq_true rfl) (Nat.le_of_ble_eq_true rfl) ?_
      · exact pq_88 a1 ha1
      show px_T _ _ _ _ (2557, [(5, .int 0), (4, .int 0), (3, .ref 164), (2, .ref 136), (1, .ref 0), (0, .retAddr 0)], [.int 0], _) _ _ _
      refine pt_s (pc1 := 2559) (lv1 := [(6, .int 0), (5, .int 0), (4, .int 0), (3, .ref 164), (2, .ref 136), (1, .ref 0), (0, .retAddr 0)]) (st1 := []) rfl rfl (fun _ => rfl) ?_
      refine pt_s (pc1 := 2560) (st1 := [.ref 136]) rfl rfl (fun _ => rfl) ?_
      refine pt_callv (N := pm_X10_thrown) (as := [.ref 136]) (rest := []) (f := 2047) (l := 83980) (c1 := 0) (k1 := 0) (c2 := 599837) (k2 := 7274195) (v := some (.int 0)) (h1 := ph_192) rfl rfl (fun ex => px_inv_hs ex rfl rfl rfl pg_508 rfl rfl rfl rfl) ?_ (Nat.le_of_ble_eq_true rfl) (Nat.le_of_ble_eq_true rfl) ?_
      · refine px_C_of rfl ?_
        refine pr_s (pc1 := 1) (st1 := [.ref 136]) rfl (fun _ => rfl) ?_
        refine pr_getf (pc1 := 4) (v := .int 0) rfl rfl pg_508 rfl rfl ?_
        exact pr_e rfl (fun _ => rfl) ⟨rfl, rfl⟩
      show px_T _ _ _ _ (2563, [(6, .int 0), (5, .int 0), (4, .int 0), (3, .ref 164), (2, .ref 136), (1, .ref 0), (0, .retAddr 0)], [.int 0], _) _ _ _
      refine pt_s (pc1 := 2565) (st1 := [.int 0, .int 0]) rfl rfl (fun _ => rfl) ?_
      refine pt_bt (t := 2570) (off := 5) (bb := decide ((0 : Int32) = 0)) (st1 := []) rfl rfl rfl rfl rfl (by decide) ?_
      refine pt_s (pc1 := 2572) (st1 := [.int 0]) rfl rfl (fun _ => rfl) ?_
      refine pt_bf (t := 2587) (off := 15) (bb := !decide ((0 : Int32) = 0)) (st1 := []) rfl rfl rfl rfl rfl (px_not_f (by decide)) ?_
      refine pt_s (pc1 := 2576) (st1 := [.ref 164]) rfl rfl (fun _ => rfl) ?_
      refine pt_s (pc1 := 2577) (st1 := [.int 0, .ref 164]) rfl rfl (fun _ => rfl) ?_
      refine pt_lald (pc1 := 2578) (x := 0) rfl pg_511 rfl rfl rfl ?_
      refine pt_s (pc1 := 2580) (st1 := [.int 0, .long 0]) rfl rfl (fun _ => rfl) ?_
      refine pt_s (pc1 := 2581) (st1 := [.long 0, .long 0]) rfl rfl (fun _ => rfl) ?_
      refine pt_s (pc1 := 2582) (st1 := [.int 0]) rfl rfl (fun _ => rfl) ?_
      refine pt_bt (t := 2587) (off := 5) (bb := decide ((0 : Int32) = 0)) (st1 := []) rfl rfl rfl rfl rfl (by decide) ?_
      refine pt_s (pc1 := 2771) (st1 := []) rfl rfl (fun _ => rfl) ?_
      refine pt_s (pc1 := 2774) (lv1 := [(4, .int 6), (6, .int 0), (5, .int 0), (3, .ref 164), (2, .ref 136), (1, .ref 0), (0, .retAddr 0)]) (st1 := []) rfl rfl (fun _ => rfl) ?_
      refine pt_s (pc1 := 23) (st1 := []) rfl rfl (fun _ => rfl) ?_
      refine pt_s (pc1 := 25) (st1 := [.int 6]) rfl rfl (fun _ => rfl) ?_
      refine pt_s (pc1 := 26) (st1 := [.retAddr 0, .int 6]) rfl rfl (fun _ => rfl) ?_
      refine pt_s (pc1 := 27) (st1 := [.int 6, .int 6]) rfl rfl (fun _ => rfl) ?_
      refine pt_s (pc1 := 29) (st1 := [.int 6, .int 6, .int 6]) rfl rfl (fun _ => rfl) ?_
      refine pt_s (pc1 := 30) (st1 := [.int 0, .int 6]) rfl rfl (fun _ => rfl) ?_
      refine pt_bt (t := 2777) (off := 2747) (bb := decide ((0 : Int32) < (6 : Int32))) (st1 := []) rfl rfl rfl rfl rfl (by decide) ?_
      refine pt_s (pc1 := 2778) (st1 := [.int 1]) rfl rfl (fun _ => rfl) ?_
      exact pt_e rfl ⟨rfl, (rfl : px_ins pm_law 2778 = some (.ireturn, 1))⟩
    · have ha1 : 21 ≤ a1.toInt ∧ a1.toInt ≤ 2147483647 := ⟨by omega, ha1.2⟩
      refine pt_s (pc1 := 2534) (st1 := []) rfl rfl (fun _ => rfl) ?_
      refine pt_s (pc1 := 2535) (st1 := [.ref 0]) rfl rfl (fun _ => rfl) ?_
      refine pt_s (pc1 := 2536) (st1 := [.retAddr 0, .ref 0]) rfl rfl (fun _ => rfl) ?_
      refine pt_s (pc1 := 2538) (st1 := [.int 0, .retAddr 0, .ref 0]) rfl rfl (fun _ => rfl) ?_
      refine pt_s (pc1 := 2539) (st1 := [.int 1, .int 0, .retAddr 0, .ref 0]) rfl rfl (fun _ => rfl) ?_
      refine pt_s (pc1 := 2540) (st1 := [.int 1, .retAddr 0, .ref 0]) rfl rfl (fun _ => rfl) ?_
      refine pt_s (pc1 := 2541) (st1 := [.int a1, .ref 0]) rfl rfl (fun _ => rfl) ?_
      refine pt_s (pc1 := 2542) (st1 := [.ref 164, .int a1, .ref 0]) rfl rfl (fun _ => rfl) ?_
      refine pt_callv (N := pm_L_firingsToRest) (as := [.ref 0, .int a1, .ref 164]) (rest := []) (f := 2047) (l := 83977) (c1 := 1) (k1 := 6) (c2 := 599836) (k2 := 7274189) (v := some (.int 1)) (h1 := ph_1) rfl rfl (fun _ => rfl) ?_ (Nat.le_of_ble_eq_true rfl) (Nat.le_of_ble_eq_true rfl) ?_
      · refine px_C_of rfl ?_
        refine pr_s (pc1 := 1) (st1 := [.ref 164]) rfl (fun _ => rfl) ?_
        refine pr_s (pc1 := 2) (st1 := [.int 0, .ref 164]) rfl (fun _ => rfl) ?_
        refine pr_s (pc1 := 3) (st1 := [.ref 0, .int 0, .ref 164]) rfl (fun _ => rfl) ?_
        refine pr_s (pc1 := 4) (st1 := [.int a1, .ref 0, .int 0, .ref 164]) rfl (fun _ => rfl) ?_
        refine pr_callx (N := pm_X6_firingsToRest) (as := [.ref 0, .int a1]) (rest := [.int 0, .ref 164]) (f := 2046) (l := 83955) (c1 := 1) (k1 := 6) (c2 := 0) (k2 := 0) (E := 12) (h1 := ph_1) (a := 12) (y1 := 3) (y2 := 1) rfl (fun ex => px_inv_hs ex rfl rfl rfl pg_0 rfl rfl rfl rfl) ?_ (Nat.le_of_ble_eq_true rfl) (Nat.le_of_ble_eq_true rfl) rfl rfl rfl rfl ?_
        · refine px_C_of rfl ?_
          refine pr_s (pc1 := 1) (st1 := [.int a1]) rfl (fun _ => rfl) ?_
          refine pr_callo (N := pm_X6_needMost) (as := [.int a1]) (rest := []) (f := 2045) (l := 83935) (E := 12) (h1 := ph_1) rfl (fun _ => rfl) ?_ rfl ⟨rfl, rfl⟩
          · refine px_C_of rfl ?_
            refine pr_s (pc1 := 1) (st1 := [.int a1]) rfl (fun _ => rfl) ?_
            refine pr_s (pc1 := 2) (st1 := [.int 1, .int a1]) rfl (fun _ => rfl) ?_
            refine pr_bf (t := 11) (off := 9) (bb := decide (a1 < 1)) (st1 := []) rfl rfl rfl rfl (pb_ltF ha1.1 (show (1 : Int32).toInt ≤ 1 by decide) (by decide)) ?_
            refine pr_s (pc1 := 6) (st1 := [.int a1]) rfl (fun _ => rfl) ?_
            refine pr_s (pc1 := 8) (st1 := [.int 20, .int a1]) rfl (fun _ => rfl) ?_
            refine pr_bf (t := 22) (off := 14) (bb := decide (a1 ≤ 20)) (st1 := []) rfl rfl rfl rfl (pb_leF ha1.1 (show (20 : Int32).toInt ≤ 20 by decide) (by decide)) ?_
            refine pr_mh (z1 := 1) (z2 := 6) (c1 := 0) (k1 := 0) (pc1 := 21) (n := 165) (r := []) (h1 := ph_1) (es := fun n => [.inr (12, [])]) rfl (fun _ => rfl) pl_0 rfl (Nat.le_of_ble_eq_true rfl) (Nat.le_of_ble_eq_true rfl) ?_
            exact pr_e rfl (fun _ => rfl) ⟨rfl, rfl⟩
        show px_R _ _ _ _ (13, [(0, .ref 0), (1, .int a1), (2, .ref 164)], [], _) _ _ _
        refine pr_s (pc1 := 14) (st1 := [.int 1]) rfl (fun _ => rfl) ?_
        exact pr_e rfl (fun _ => rfl) ⟨rfl, rfl⟩
      show px_T _ _ _ _ (2545, [(4, .int 0), (3, .ref 164), (2, .ref 136), (1, .ref 0), (0, .retAddr 0)], [.int 1], _) _ _ _
      refine pt_s (pc1 := 2547) (lv1 := [(5, .int 1), (4, .int 0), (3, .ref 164), (2, .ref 136), (1, .ref 0), (0, .retAddr 0)]) (st1 := []) rfl rfl (fun _ => rfl) ?_
      refine pt_s (pc1 := 2548) (st1 := [.ref 136]) rfl rfl (fun _ => rfl) ?_
      refine pt_s (pc1 := 2549) (st1 := [.retAddr 0, .ref 136]) rfl rfl (fun _ => rfl) ?_
      refine pt_s (pc1 := 2551) (st1 := [.int 0, .retAddr 0, .ref 136]) rfl rfl (fun _ => rfl) ?_
      refine pt_s (pc1 := 2552) (st1 := [.int 1, .int 0, .retAddr 0, .ref 136]) rfl rfl (fun _ => rfl) ?_
      refine pt_s (pc1 := 2553) (st1 := [.int 1, .retAddr 0, .ref 136]) rfl rfl (fun _ => rfl) ?_
      refine pt_s (pc1 := 2554) (st1 := [.int a1, .ref 136]) rfl rfl (fun _ => rfl) ?_
      refine pt_callv (N := pm_X10_firingsToRest) (as := [.ref 136, .int a1]) (rest := []) (f := 2047) (l := 83978) (c1 := 0) (k1 := 0) (c2 := 599836) (k2 := 7274189) (v := some (.int 0)) (h1 := ph_2) rfl rfl (fun ex => px_inv_hs ex rfl rfl rfl pg_2 rfl rfl rfl rfl) ?_ (Nat.le_of_ble_eq_true rfl) (Nat.le_of_ble_eq_true rfl) ?_
      · refine px_C_of rfl ?_
        refine pr_s (pc1 := 1) (st1 := [.ref 136]) rfl (fun _ => rfl) ?_
        refine pr_s (pc1 := 2) (st1 := [.int 0, .ref 136]) rfl (fun _ => rfl) ?_
        refine pr_putf (pc1 := 5) (h1 := ph_1) rfl rfl pg_2 rfl rfl rfl rfl rfl (px_set_same pg_2 rfl) rfl ?_
        refine pr_s (pc1 := 6) (st1 := [.int a1]) rfl (fun _ => rfl) ?_
        refine pr_s (pc1 := 7) (st1 := [.int 1, .int a1]) rfl (fun _ => rfl) ?_
        refine pr_s (pc1 := 9) (st1 := [.int 20, .int 1, .int a1]) rfl (fun _ => rfl) ?_
        refine pr_callv (N := pm_X10_is) (as := [.int a1, .int 1, .int 20]) (rest := []) (f := 2046) (l := 83956) (c1 := 0) (k1 := 0) (c2 := 0) (k2 := 0) (v := some (.int 0)) (h1 := ph_1) rfl (fun _ => rfl) ?_ (Nat.le_of_ble_eq_true rfl) (Nat.le_of_ble_eq_true rfl) ?_
        · refine px_C_of rfl ?_
          refine pr_s (pc1 := 1) (st1 := [.int a1]) rfl (fun _ => rfl) ?_
          refine pr_s (pc1 := 2) (st1 := [.int 1, .int a1]) rfl (fun _ => rfl) ?_
          refine pr_bf (t := 14) (off := 12) (bb := decide (a1 < 1)) (st1 := []) rfl rfl rfl rfl (pb_ltF ha1.1 (show (1 : Int32).toInt ≤ 1 by decide) (by decide)) ?_
          refine pr_s (pc1 := 6) (st1 := [.int a1]) rfl (fun _ => rfl) ?_
          refine pr_s (pc1 := 7) (st1 := [.int 20, .int a1]) rfl (fun _ => rfl) ?_
          refine pr_bt (t := 14) (off := 7) (bb := decide ((20 : Int32) < a1)) (st1 := []) rfl rfl rfl rfl (pb_ltT (show (20 : Int32).toInt ≤ 20 by decide) ha1.1 (by decide)) ?_
          refine pr_s (pc1 := 15) (st1 := [.int 0]) rfl (fun _ => rfl) ?_
          exact pr_e rfl (fun _ => rfl) ⟨rfl, rfl⟩
        show px_R _ _ _ _ (12, [(0, .ref 136), (1, .int a1)], [.int 0], _) _ _ _
        refine pr_bf (t := 21) (off := 9) (bb := !decide ((0 : Int32) = 0)) (st1 := []) rfl rfl rfl rfl (px_not_f (by decide)) ?_
        refine pr_s (pc1 := 16) (st1 := [.ref 136]) rfl (fun _ => rfl) ?_
        refine pr_s (pc1 := 17) (st1 := [.int 1, .ref 136]) rfl (fun _ => rfl) ?_
        refine pr_callv (N := pm_X10_refuse) (as := [.ref 136, .int 1]) (rest := []) (f := 2046) (l := 83957) (c1 := 0) (k1 := 0) (c2 := 0) (k2 := 0) (v := some (.int 0)) (h1 := ph_2) rfl (fun ex => px_inv_hs ex rfl rfl rfl pg_2 rfl rfl rfl rfl) ?_ (Nat.le_of_ble_eq_true rfl) (Nat.le_of_ble_eq_true rfl) ?_
        · refine px_C_of rfl ?_
          refine pr_s (pc1 := 1) (st1 := [.ref 136]) rfl (fun _ => rfl) ?_
          refine pr_s (pc1 := 2) (st1 := [.int 1, .ref 136]) rfl (fun _ => rfl) ?_
          refine pr_putf (pc1 := 5) (h1 := ph_2) rfl rfl pg_2 rfl rfl rfl rfl rfl rfl rfl ?_
          refine pr_s (pc1 := 6) (st1 := [.int 0]) rfl (fun _ => rfl) ?_
          exact pr_e rfl (fun _ => rfl) ⟨rfl, rfl⟩
        show px_R _ _ _ _ (20, [(0, .ref 136), (1, .int a1)], [.int 0], _) _ _ _
        exact pr_e rfl (fun _ => rfl) ⟨rfl, rfl⟩
      show px_T _ _ _ _ (2557, [(5, .int 1), (4, .int 0), (3, .ref 164), (2, .ref 136), (1, .ref 0), (0, .retAddr 0)], [.int 0], _) _ _ _
      refine pt_s (pc1 := 2559) (lv1 := [(6, .int 0), (5, .int 1), (4, .int 0), (3, .ref 164), (2, .ref 136), (1, .ref 0), (0, .retAddr 0)]) (st1 := []) rfl rfl (fun _ => rfl) ?_
      refine pt_s (pc1 := 2560) (st1 := [.ref 136]) rfl rfl (fun _ => rfl) ?_
      refine pt_callv (N := pm_X10_thrown) (as := [.ref 136]) (rest := []) (f := 2047) (l := 83980) (c1 := 0) (k1 := 0) (c2 := 599836) (k2 := 7274189) (v := some (.int 1)) (h1 := ph_2) rfl rfl (fun ex => px_inv_hs ex rfl rfl rfl pg_3 rfl rfl rfl rfl) ?_ (Nat.le_of_ble_eq_true rfl) (Nat.le_of_ble_eq_true rfl) ?_
      · refine px_C_of rfl ?_
        refine pr_s (pc1 := 1) (st1 := [.ref 136]) rfl (fun _ => rfl) ?_
        refine pr_getf (pc1 := 4) (v := .int 1) rfl rfl pg_3 rfl rfl ?_
        exact pr_e rfl (fun _ => rfl) ⟨rfl, rfl⟩
      show px_T _ _ _ _ (2563, [(6, .int 0), (5, .int 1), (4, .int 0), (3, .ref 164), (2, .ref 136), (1, .ref 0), (0, .retAddr 0)], [.int 1], _) _ _ _
      refine pt_s (pc1 := 2565) (st1 := [.int 1, .int 1]) rfl rfl (fun _ => rfl) ?_
      refine pt_bt (t := 2570) (off := 5) (bb := decide ((1 : Int32) = 1)) (st1 := []) rfl rfl rfl rfl rfl (by decide) ?_
      refine pt_s (pc1 := 2572) (st1 := [.int 1]) rfl rfl (fun _ => rfl) ?_
      refine pt_bt (t := 2587) (off := 15) (bb := !decide ((1 : Int32) = 0)) (st1 := []) rfl rfl rfl rfl rfl (px_not_t (by decide)) ?_
      refine pt_s (pc1 := 2771) (st1 := []) rfl rfl (fun _ => rfl) ?_
      refine pt_s (pc1 := 2774) (lv1 := [(4, .int 6), (6, .int 0), (5, .int 1), (3, .ref 164), (2, .ref 136), (1, .ref 0), (0, .retAddr 0)]) (st1 := []) rfl rfl (fun _ => rfl) ?_
      refine pt_s (pc1 := 23) (st1 := []) rfl rfl (fun _ => rfl) ?_
      refine pt_s (pc1 := 25) (st1 := [.int 6]) rfl rfl (fun _ => rfl) ?_
      refine pt_s (pc1 := 26) (st1 := [.retAddr 0, .int 6]) rfl rfl (fun _ => rfl) ?_
      refine pt_s (pc1 := 27) (st1 := [.int 6, .int 6]) rfl rfl (fun _ => rfl) ?_
      refine pt_s (pc1 := 29) (st1 := [.int 6, .int 6, .int 6]) rfl rfl (fun _ => rfl) ?_
      refine pt_s (pc1 := 30) (st1 := [.int 0, .int 6]) rfl rfl (fun _ => rfl) ?_
      refine pt_bt (t := 2777) (off := 2747) (bb := decide ((0 : Int32) < (6 : Int32))) (st1 := []) rfl rfl rfl rfl rfl (by decide) ?_
      refine pt_s (pc1 := 2778) (st1 := [.int 1]) rfl rfl (fun _ => rfl) ?_
      exact pt_e rfl ⟨rfl, (rfl : px_ins pm_law 2778 = some (.ireturn, 1))⟩
set_option maxRecDepth 100000 in
set_option maxHeartbeats 40000000 in
theorem px_op_42 (a0 a1 a2 a3 a4 a5 : Int32) : px_T (some [a0, a1, a2, a3, a4, a5]) pm_law 2048 84000 (40, [(4, .int 0), (3, .ref 164), (2, .ref 136), (1, .ref 0), (0, .retAddr 0)], [.int 42], px_hs) 599837 7274195 (fun s1 => s1.2.2.1 = [.int 1] ∧ px_ins pm_law s1.1 = some (.ireturn, 1)) := by
  have ha1 : (-2147483648) ≤ a1.toInt ∧ a1.toInt ≤ 2147483647 := ⟨Int32.le_toInt a1, Int32.toInt_le a1⟩
  by_cases hs : a1.toInt < 0
  · have ha1 : (-2147483648) ≤ a1.toInt ∧ a1.toInt ≤ (-1) := ⟨ha1.1, by omega⟩
    refine pt_s (pc1 := 2590) (st1 := []) rfl rfl (fun _ => rfl) ?_
    refine pt_s (pc1 := 2591) (st1 := [.ref 0]) rfl rfl (fun _ => rfl) ?_
    refine pt_s (pc1 := 2592) (st1 := [.retAddr 0, .ref 0]) rfl rfl (fun _ => rfl) ?_
    refine pt_s (pc1 := 2594) (st1 := [.int 0, .retAddr 0, .ref 0]) rfl rfl (fun _ => rfl) ?_
    refine pt_s (pc1 := 2595) (st1 := [.int 1, .int 0, .retAddr 0, .ref 0]) rfl rfl (fun _ => rfl) ?_
    refine pt_s (pc1 := 2596) (st1 := [.int 1, .retAddr 0, .ref 0]) rfl rfl (fun _ => rfl) ?_
    refine pt_s (pc1 := 2597) (st1 := [.int a1, .ref 0]) rfl rfl (fun _ => rfl) ?_
    refine pt_s (pc1 := 2598) (st1 := [.ref 164, .int a1, .ref 0]) rfl rfl (fun _ => rfl) ?_
    refine pt_callv (N := pm_L_wouldGo) (as := [.ref 0, .int a1, .ref 164]) (rest := []) (f := 2047) (l := 83977) (c1 := 1) (k1 := 6) (c2 := 599836) (k2 := 7274189) (v := some (.int 1)) (h1 := ph_14) rfl rfl (fun _ => rfl) ?_ (Nat.le_of_ble_eq_true rfl) (Nat.le_of_ble_eq_true rfl) ?_
    · refine px_C_of rfl ?_
      refine pr_s (pc1 := 1) (st1 := [.ref 164]) rfl (fun _ => rfl) ?_
      refine pr_s (pc1 := 2) (st1 := [.int 0, .ref 164]) rfl (fun _ => rfl) ?_
      refine pr_s (pc1 := 3) (st1 := [.ref 0, .int 0, .ref 164]) rfl (fun _ => rfl) ?_
      refine pr_s (pc1 := 4) (st1 := [.int a1, .ref 0, .int 0, .ref 164]) rfl (fun _ => rfl) ?_
      refine pr_callx (N := pm_X6_wouldGo) (as := [.ref 0, .int a1]) (rest := [.int 0, .ref 164]) (f := 2046) (l := 83955) (c1 := 1) (k1 := 6) (c2 := 0) (k2 := 0) (E := 11) (h1 := ph_14) (a := 12) (y1 := 3) (y2 := 1) rfl (fun ex => px_inv_hs ex rfl rfl rfl pg_0 rfl rfl rfl rfl) ?_ (Nat.le_of_ble_eq_true rfl) (Nat.le_of_ble_eq_true rfl) rfl rfl rfl rfl ?_
      · refine px_C_of rfl ?_
        refine pr_s (pc1 := 1) (st1 := [.ref 0]) rfl (fun _ => rfl) ?_
        refine pr_s (pc1 := 2) (st1 := [.int a1, .ref 0]) rfl (fun _ => rfl) ?_
        refine pr_callo (N := pm_X6_needFact) (as := [.ref 0, .int a1]) (rest := []) (f := 2045) (l := 83933) (E := 11) (h1 := ph_14) rfl (fun ex => px_inv_hs ex rfl rfl rfl pg_0 rfl rfl rfl rfl) ?_ rfl ⟨rfl, rfl⟩
        · refine px_C_of rfl ?_
          refine pr_s (pc1 := 1) (st1 := [.ref 0]) rfl (fun _ => rfl) ?_
          refine pr_getf (pc1 := 4) (v := .ref 92) rfl rfl pg_0 rfl rfl ?_
          refine pr_getf (pc1 := 7) (v := .ref 93) rfl rfl pg_22 rfl rfl ?_
          refine pr_s (pc1 := 8) (st1 := [.int a1, .ref 93]) rfl (fun _ => rfl) ?_
          refine pr_callv (N := pm_X2_placeOf) (as := [.ref 93, .int a1]) (rest := []) (f := 2044) (l := 83911) (c1 := 0) (k1 := 0) (c2 := 1) (k2 := 6) (v := some (.int (-1))) (h1 := px_hs) rfl (fun ex => px_inv_hs ex rfl rfl rfl pg_23 rfl rfl rfl rfl) ?_ (Nat.le_of_ble_eq_true rfl) (Nat.le_of_ble_eq_true rfl) ?_
          · refine px_C_of rfl ?_
            refine pr_s (pc1 := 1) (st1 := [.int a1]) rfl (fun _ => rfl) ?_
            refine pr_bt (t := 12) (off := 11) (bb := decide (a1 < 0)) (st1 := []) rfl rfl rfl rfl (pb_ltT ha1.2 (show 0 ≤ (0 : Int32).toInt by decide) (by decide)) ?_
            refine pr_s (pc1 := 13) (st1 := [.int (-1)]) rfl (fun _ => rfl) ?_
            exact pr_e rfl (fun _ => rfl) ⟨rfl, rfl⟩
          show px_R _ _ _ _ (11, [(0, .ref 0), (1, .int a1)], [.int (-1)], _) _ _ _
          refine pr_s (pc1 := 12) (lv1 := [(2, .int (-1)), (0, .ref 0), (1, .int a1)]) (st1 := []) rfl (fun _ => rfl) ?_
          refine pr_s (pc1 := 13) (st1 := [.int (-1)]) rfl (fun _ => rfl) ?_
          refine pr_bf (t := 27) (off := 14) (bb := decide ((0 : Int32) ≤ ((-1) : Int32))) (st1 := []) rfl rfl rfl rfl (by decide) ?_
          refine pr_mh (z1 := 1) (z2 := 6) (c1 := 0) (k1 := 0) (pc1 := 26) (n := 165) (r := []) (h1 := ph_14) (es := fun n => [.inr (11, [])]) rfl (fun _ => rfl) pl_0 rfl (Nat.le_of_ble_eq_true rfl) (Nat.le_of_ble_eq_true rfl) ?_
          exact pr_e rfl (fun _ => rfl) ⟨rfl, rfl⟩
      show px_R _ _ _ _ (13, [(0, .ref 0), (1, .int a1), (2, .ref 164)], [], _) _ _ _
      refine pr_s (pc1 := 14) (st1 := [.int 1]) rfl (fun _ => rfl) ?_
      exact pr_e rfl (fun _ => rfl) ⟨rfl, rfl⟩
    show px_T _ _ _ _ (2601, [(4, .int 0), (3, .ref 164), (2, .ref 136), (1, .ref 0), (0, .retAddr 0)], [.int 1], _) _ _ _
    refine pt_s (pc1 := 2603) (lv1 := [(5, .int 1), (4, .int 0), (3, .ref 164), (2, .ref 136), (1, .ref 0), (0, .retAddr 0)]) (st1 := []) rfl rfl (fun _ => rfl) ?_
    refine pt_s (pc1 := 2604) (st1 := [.ref 136]) rfl rfl (fun _ => rfl) ?_
    refine pt_s (pc1 := 2605) (st1 := [.retAddr 0, .ref 136]) rfl rfl (fun _ => rfl) ?_
    refine pt_s (pc1 := 2607) (st1 := [.int 0, .retAddr 0, .ref 136]) rfl rfl (fun _ => rfl) ?_
    refine pt_s (pc1 := 2608) (st1 := [.int 1, .int 0, .retAddr 0, .ref 136]) rfl rfl (fun _ => rfl) ?_
    refine pt_s (pc1 := 2609) (st1 := [.int 1, .retAddr 0, .ref 136]) rfl rfl (fun _ => rfl) ?_
    refine pt_s (pc1 := 2610) (st1 := [.int a1, .ref 136]) rfl rfl (fun _ => rfl) ?_
    refine pt_callv (N := pm_X10_wouldGo) (as := [.ref 136, .int a1]) (rest := []) (f := 2047) (l := 83979) (c1 := 0) (k1 := 0) (c2 := 599836) (k2 := 7274189) (v := some (.int 0)) (h1 := ph_15) rfl rfl (fun ex => px_inv_hs ex rfl rfl rfl pg_20 rfl rfl rfl rfl) ?_ (Nat.le_of_ble_eq_true rfl) (Nat.le_of_ble_eq_true rfl) ?_
    · refine px_C_of rfl ?_
      refine pr_s (pc1 := 1) (st1 := [.ref 136]) rfl (fun _ => rfl) ?_
      refine pr_s (pc1 := 2) (st1 := [.int a1, .ref 136]) rfl (fun _ => rfl) ?_
      refine pr_callv (N := pm_X10_isFact) (as := [.ref 136, .int a1]) (rest := []) (f := 2046) (l := 83958) (c1 := 0) (k1 := 0) (c2 := 0) (k2 := 0) (v := some (.int 0)) (h1 := ph_15) rfl (fun ex => px_inv_hs ex rfl rfl rfl pg_20 rfl rfl rfl rfl) ?_ (Nat.le_of_ble_eq_true rfl) (Nat.le_of_ble_eq_true rfl) ?_
      · refine px_C_of rfl ?_
        refine pr_s (pc1 := 1) (st1 := [.ref 136]) rfl (fun _ => rfl) ?_
        refine pr_s (pc1 := 2) (st1 := [.ref 136, .ref 136]) rfl (fun _ => rfl) ?_
        refine pr_getf (pc1 := 5) (v := .ref 138) rfl rfl pg_20 rfl rfl ?_
        refine pr_s (pc1 := 6) (st1 := [.int a1, .ref 138, .ref 136]) rfl (fun _ => rfl) ?_
        refine pr_callv (N := pm_X9_place) (as := [.ref 138, .int a1]) (rest := [.ref 136]) (f := 2045) (l := 83936) (c1 := 0) (k1 := 0) (c2 := 0) (k2 := 0) (v := some (.int (-1))) (h1 := ph_14) rfl (fun ex => px_inv_hs ex rfl rfl rfl pg_506 rfl rfl rfl rfl) ?_ (Nat.le_of_ble_eq_true rfl) (Nat.le_of_ble_eq_true rfl) ?_
        · refine px_C_of rfl ?_
          refine pr_s (pc1 := 1) (st1 := [.ref 138]) rfl (fun _ => rfl) ?_
          refine pr_getf (pc1 := 4) (v := .ref 141) rfl rfl pg_506 rfl rfl ?_
          refine pr_getf (pc1 := 7) (v := .int 0) rfl rfl pg_507 rfl rfl ?_
          refine pr_s (pc1 := 8) (st1 := [.int 1, .int 0]) rfl (fun _ => rfl) ?_
          refine pr_s (pc1 := 9) (st1 := [.int (-1)]) rfl (fun _ => rfl) ?_
          refine pr_s (pc1 := 10) (lv1 := [(2, .int (-1)), (0, .ref 138), (1, .int a1)]) (st1 := []) rfl (fun _ => rfl) ?_
          refine pr_s (pc1 := 11) (st1 := [.int (-1)]) rfl (fun _ => rfl) ?_
          refine pr_bt (t := 33) (off := 22) (bb := decide (((-1) : Int32) < 0)) (st1 := []) rfl rfl rfl rfl (by decide) ?_
          refine pr_s (pc1 := 34) (st1 := [.int (-1)]) rfl (fun _ => rfl) ?_
          exact pr_e rfl (fun _ => rfl) ⟨rfl, rfl⟩
        show px_R _ _ _ _ (9, [(0, .ref 136), (1, .int a1)], [.int (-1), .ref 136], _) _ _ _
        refine pr_s (pc1 := 10) (st1 := [.int (-1), .int (-1), .ref 136]) rfl (fun _ => rfl) ?_
        refine pr_bt (t := 17) (off := 7) (bb := decide (((-1) : Int32) = (-1))) (st1 := [.ref 136]) rfl rfl rfl rfl (by decide) ?_
        refine pr_s (pc1 := 18) (st1 := [.int 1, .ref 136]) rfl (fun _ => rfl) ?_
        refine pr_putf (pc1 := 21) (h1 := ph_15) rfl rfl pg_20 rfl rfl rfl rfl rfl rfl rfl ?_
        refine pr_s (pc1 := 22) (st1 := [.ref 136]) rfl (fun _ => rfl) ?_
        refine pr_getf (pc1 := 25) (v := .int 1) rfl rfl pg_21 rfl rfl ?_
        refine pr_bt (t := 32) (off := 7) (bb := !decide ((1 : Int32) = 0)) (st1 := []) rfl rfl rfl rfl (px_not_t (by decide)) ?_
        refine pr_s (pc1 := 33) (st1 := [.int 0]) rfl (fun _ => rfl) ?_
        exact pr_e rfl (fun _ => rfl) ⟨rfl, rfl⟩
      show px_R _ _ _ _ (5, [(0, .ref 136), (1, .int a1)], [.int 0], _) _ _ _
      refine pr_bf (t := 10) (off := 5) (bb := !decide ((0 : Int32) = 0)) (st1 := []) rfl rfl rfl rfl (px_not_f (by decide)) ?_
      refine pr_s (pc1 := 9) (st1 := [.int 0]) rfl (fun _ => rfl) ?_
      exact pr_e rfl (fun _ => rfl) ⟨rfl, rfl⟩
    show px_T _ _ _ _ (2613, [(5, .int 1), (4, .int 0), (3, .ref 164), (2, .ref 136), (1, .ref 0), (0, .retAddr 0)], [.int 0], _) _ _ _
    refine pt_s (pc1 := 2615) (lv1 := [(6, .int 0), (5, .int 1), (4, .int 0), (3, .ref 164), (2, .ref 136), (1, .ref 0), (0, .retAddr 0)]) (st1 := []) rfl rfl (fun _ => rfl) ?_
    refine pt_s (pc1 := 2616) (st1 := [.ref 136]) rfl rfl (fun _ => rfl) ?_
    refine pt_callv (N := pm_X10_thrown) (as := [.ref 136]) (rest := []) (f := 2047) (l := 83980) (c1 := 0) (k1 := 0) (c2 := 599836) (k2 := 7274189) (v := some (.int 1)) (h1 := ph_15) rfl rfl (fun ex => px_inv_hs ex rfl rfl rfl pg_21 rfl rfl rfl rfl) ?_ (Nat.le_of_ble_eq_true rfl) (Nat.le_of_ble_eq_true rfl) ?_
    · refine px_C_of rfl ?_
      refine pr_s (pc1 := 1) (st1 := [.ref 136]) rfl (fun _ => rfl) ?_
      refine pr_getf (pc1 := 4) (v := .int 1) rfl rfl pg_21 rfl rfl ?_
      exact pr_e rfl (fun _ => rfl) ⟨rfl, rfl⟩
    show px_T _ _ _ _ (2619, [(6, .int 0), (5, .int 1), (4, .int 0), (3, .ref 164), (2, .ref 136), (1, .ref 0), (0, .retAddr 0)], [.int 1], _) _ _ _
    refine pt_s (pc1 := 2621) (st1 := [.int 1, .int 1]) rfl rfl (fun _ => rfl) ?_
    refine pt_bt (t := 2626) (off := 5) (bb := decide ((1 : Int32) = 1)) (st1 := []) rfl rfl rfl rfl rfl (by decide) ?_
    refine pt_s (pc1 := 2628) (st1 := [.int 1]) rfl rfl (fun _ => rfl) ?_
    refine pt_bt (t := 2643) (off := 15) (bb := !decide ((1 : Int32) = 0)) (st1 := []) rfl rfl rfl rfl rfl (px_not_t (by decide)) ?_
    refine pt_s (pc1 := 2771) (st1 := []) rfl rfl (fun _ => rfl) ?_
    refine pt_s (pc1 := 2774) (lv1 := [(4, .int 6), (6, .int 0), (5, .int 1), (3, .ref 164), (2, .ref 136), (1, .ref 0), (0, .retAddr 0)]) (st1 := []) rfl rfl (fun _ => rfl) ?_
    refine pt_s (pc1 := 23) (st1 := []) rfl rfl (fun _ => rfl) ?_
    refine pt_s (pc1 := 25) (st1 := [.int 6]) rfl rfl (fun _ => rfl) ?_
    refine pt_s (pc1 := 26) (st1 := [.retAddr 0, .int 6]) rfl rfl (fun _ => rfl) ?_
    refine pt_s (pc1 := 27) (st1 := [.int 6, .int 6]) rfl rfl (fun _ => rfl) ?_
    refine pt_s (pc1 := 29) (st1 := [.int 6, .int 6, .int 6]) rfl rfl (fun _ => rfl) ?_
    refine pt_s (pc1 := 30) (st1 := [.int 0, .int 6]) rfl rfl (fun _ => rfl) ?_
    refine pt_bt (t := 2777) (off := 2747) (bb := decide ((0 : Int32) < (6 : Int32))) (st1 := []) rfl rfl rfl rfl rfl (by decide) ?_
    refine pt_s (pc1 := 2778) (st1 := [.int 1]) rfl rfl (fun _ => rfl) ?_
    exact pt_e rfl ⟨rfl, (rfl : px_ins pm_law 2778 = some (.ireturn, 1))⟩
  · have ha1 : 0 ≤ a1.toInt ∧ a1.toInt ≤ 2147483647 := ⟨by omega, ha1.2⟩
    refine pt_s (pc1 := 2590) (st1 := []) rfl rfl (fun _ => rfl) ?_
    refine pt_s (pc1 := 2591) (st1 := [.ref 0]) rfl rfl (fun _ => rfl) ?_
    refine pt_s (pc1 := 2592) (st1 := [.retAddr 0, .ref 0]) rfl rfl (fun _ => rfl) ?_
    refine pt_s (pc1 := 2594) (st1 := [.int 0, .retAddr 0, .ref 0]) rfl rfl (fun _ => rfl) ?_
    refine pt_s (pc1 := 2595) (st1 := [.int 1, .int 0, .retAddr 0, .ref 0]) rfl rfl (fun _ => rfl) ?_
    refine pt_s (pc1 := 2596) (st1 := [.int 1, .retAddr 0, .ref 0]) rfl rfl (fun _ => rfl) ?_
    refine pt_s (pc1 := 2597) (st1 := [.int a1, .ref 0]) rfl rfl (fun _ => rfl) ?_
    refine pt_s (pc1 := 2598) (st1 := [.ref 164, .int a1, .ref 0]) rfl rfl (fun _ => rfl) ?_
    refine pt_callv (N := pm_L_wouldGo) (as := [.ref 0, .int a1, .ref 164]) (rest := []) (f := 2047) (l := 83977) (c1 := 1) (k1 := 6) (c2 := 599836) (k2 := 7274189) (v := some (.int 1)) (h1 := ph_14) rfl rfl (fun _ => rfl) ?_ (Nat.le_of_ble_eq_true rfl) (Nat.le_of_ble_eq_true rfl) ?_
    · refine px_C_of rfl ?_
      refine pr_s (pc1 := 1) (st1 := [.ref 164]) rfl (fun _ => rfl) ?_
      refine pr_s (pc1 := 2) (st1 := [.int 0, .ref 164]) rfl (fun _ => rfl) ?_
      refine pr_s (pc1 := 3) (st1 := [.ref 0, .int 0, .ref 164]) rfl (fun _ => rfl) ?_
      refine pr_s (pc1 := 4) (st1 := [.int a1, .ref 0, .int 0, .ref 164]) rfl (fun _ => rfl) ?_
      refine pr_callx (N := pm_X6_wouldGo) (as := [.ref 0, .int a1]) (rest := [.int 0, .ref 164]) (f := 2046) (l := 83955) (c1 := 1) (k1 := 6) (c2 := 0) (k2 := 0) (E := 11) (h1 := ph_14) (a := 12) (y1 := 3) (y2 := 1) rfl (fun ex => px_inv_hs ex rfl rfl rfl pg_0 rfl rfl rfl rfl) ?_ (Nat.le_of_ble_eq_true rfl) (Nat.le_of_ble_eq_true rfl) rfl rfl rfl rfl ?_
      · refine px_C_of rfl ?_
        refine pr_s (pc1 := 1) (st1 := [.ref 0]) rfl (fun _ => rfl) ?_
        refine pr_s (pc1 := 2) (st1 := [.int a1, .ref 0]) rfl (fun _ => rfl) ?_
        refine pr_callo (N := pm_X6_needFact) (as := [.ref 0, .int a1]) (rest := []) (f := 2045) (l := 83933) (E := 11) (h1 := ph_14) rfl (fun ex => px_inv_hs ex rfl rfl rfl pg_0 rfl rfl rfl rfl) ?_ rfl ⟨rfl, rfl⟩
        · refine px_C_of rfl ?_
          refine pr_s (pc1 := 1) (st1 := [.ref 0]) rfl (fun _ => rfl) ?_
          refine pr_getf (pc1 := 4) (v := .ref 92) rfl rfl pg_0 rfl rfl ?_
          refine pr_getf (pc1 := 7) (v := .ref 93) rfl rfl pg_22 rfl rfl ?_
          refine pr_s (pc1 := 8) (st1 := [.int a1, .ref 93]) rfl (fun _ => rfl) ?_
          refine pr_callv (N := pm_X2_placeOf) (as := [.ref 93, .int a1]) (rest := []) (f := 2044) (l := 83911) (c1 := 0) (k1 := 0) (c2 := 1) (k2 := 6) (v := some (.int (-1))) (h1 := px_hs) rfl (fun ex => px_inv_hs ex rfl rfl rfl pg_23 rfl rfl rfl rfl) ?_ (Nat.le_of_ble_eq_true rfl) (Nat.le_of_ble_eq_true rfl) ?_
          · refine px_C_of rfl ?_
            refine pr_s (pc1 := 1) (st1 := [.int a1]) rfl (fun _ => rfl) ?_
            refine pr_bf (t := 12) (off := 11) (bb := decide (a1 < 0)) (st1 := []) rfl rfl rfl rfl (pb_ltF ha1.1 (show (0 : Int32).toInt ≤ 0 by decide) (by decide)) ?_
            refine pr_s (pc1 := 5) (st1 := [.int a1]) rfl (fun _ => rfl) ?_
            refine pr_s (pc1 := 6) (st1 := [.ref 93, .int a1]) rfl (fun _ => rfl) ?_
            refine pr_getf (pc1 := 9) (v := .int 0) rfl rfl pg_23 rfl rfl ?_
            refine pr_bf (t := 14) (off := 5) (bb := decide (a1 < 0)) (st1 := []) rfl rfl rfl rfl (pb_ltF ha1.1 (show (0 : Int32).toInt ≤ 0 by decide) (by decide)) ?_
            refine pr_s (pc1 := 13) (st1 := [.int (-1)]) rfl (fun _ => rfl) ?_
            exact pr_e rfl (fun _ => rfl) ⟨rfl, rfl⟩
          show px_R _ _ _ _ (11, [(0, .ref 0), (1, .int a1)], [.int (-1)], _) _ _ _
          refine pr_s (pc1 := 12) (lv1 := [(2, .int (-1)), (0, .ref 0), (1, .int a1)]) (st1 := []) rfl (fun _ => rfl) ?_
          refine pr_s (pc1 := 13) (st1 := [.int (-1)]) rfl (fun _ => rfl) ?_
          refine pr_bf (t := 27) (off := 14) (bb := decide ((0 : Int32) ≤ ((-1) : Int32))) (st1 := []) rfl rfl rfl rfl (by decide) ?_
          refine pr_mh (z1 := 1) (z2 := 6) (c1 := 0) (k1 := 0) (pc1 := 26) (n := 165) (r := []) (h1 := ph_14) (es := fun n => [.inr (11, [])]) rfl (fun _ => rfl) pl_0 rfl (Nat.le_of_ble_eq_true rfl) (Nat.le_of_ble_eq_true rfl) ?_
          exact pr_e rfl (fun _ => rfl) ⟨rfl, rfl⟩
      show px_R _ _ _ _ (13, [(0, .ref 0), (1, .int a1), (2, .ref 164)], [], _) _ _ _
      refine pr_s (pc1 := 14) (st1 := [.int 1]) rfl (fun _ => rfl) ?_
      exact pr_e rfl (fun _ => rfl) ⟨rfl, rfl⟩
    show px_T _ _ _ _ (2601, [(4, .int 0), (3, .ref 164), (2, .ref 136), (1, .ref 0), (0, .retAddr 0)], [.int 1], _) _ _ _
    refine pt_s (pc1 := 2603) (lv1 := [(5, .int 1), (4, .int 0), (3, .ref 164), (2, .ref 136), (1, .ref 0), (0, .retAddr 0)]) (st1 := []) rfl rfl (fun _ => rfl) ?_
    refine pt_s (pc1 := 2604) (st1 := [.ref 136]) rfl rfl (fun _ => rfl) ?_
    refine pt_s (pc1 := 2605) (st1 := [.retAddr 0, .ref 136]) rfl rfl (fun _ => rfl) ?_
    refine pt_s (pc1 := 2607) (st1 := [.int 0, .retAddr 0, .ref 136]) rfl rfl (fun _ => rfl) ?_
    refine pt_s (pc1 := 2608) (st1 := [.int 1, .int 0, .retAddr 0, .ref 136]) rfl rfl (fun _ => rfl) ?_
    refine pt_s (pc1 := 2609) (st1 := [.int 1, .retAddr 0, .ref 136]) rfl rfl (fun _ => rfl) ?_
    refine pt_s (pc1 := 2610) (st1 := [.int a1, .ref 136]) rfl rfl (fun _ => rfl) ?_
    refine pt_callv (N := pm_X10_wouldGo) (as := [.ref 136, .int a1]) (rest := []) (f := 2047) (l := 83979) (c1 := 0) (k1 := 0) (c2 := 599836) (k2 := 7274189) (v := some (.int 0)) (h1 := ph_15) rfl rfl (fun ex => px_inv_hs ex rfl rfl rfl pg_20 rfl rfl rfl rfl) ?_ (Nat.le_of_ble_eq_true rfl) (Nat.le_of_ble_eq_true rfl) ?_
    · refine px_C_of rfl ?_
      refine pr_s (pc1 := 1) (st1 := [.ref 136]) rfl (fun _ => rfl) ?_
      refine pr_s (pc1 := 2) (st1 := [.int a1, .ref 136]) rfl (fun _ => rfl) ?_
      refine pr_callv (N := pm_X10_isFact) (as := [.ref 136, .int a1]) (rest := []) (f := 2046) (l := 83958) (c1 := 0) (k1 := 0) (c2 := 0) (k2 := 0) (v := some (.int 0)) (h1 := ph_15) rfl (fun ex => px_inv_hs ex rfl rfl rfl pg_20 rfl rfl rfl rfl) ?_ (Nat.le_of_ble_eq_true rfl) (Nat.le_of_ble_eq_true rfl) ?_
      · refine px_C_of rfl ?_
        refine pr_s (pc1 := 1) (st1 := [.ref 136]) rfl (fun _ => rfl) ?_
        refine pr_s (pc1 := 2) (st1 := [.ref 136, .ref 136]) rfl (fun _ => rfl) ?_
        refine pr_getf (pc1 := 5) (v := .ref 138) rfl rfl pg_20 rfl rfl ?_
        refine pr_s (pc1 := 6) (st1 := [.int a1, .ref 138, .ref 136]) rfl (fun _ => rfl) ?_
        refine pr_callv (N := pm_X9_place) (as := [.ref 138, .int a1]) (rest := [.ref 136]) (f := 2045) (l := 83936) (c1 := 0) (k1 := 0) (c2 := 0) (k2 := 0) (v := some (.int (-1))) (h1 := ph_14) rfl (fun ex => px_inv_hs ex rfl rfl rfl pg_506 rfl rfl rfl rfl) ?_ (Nat.le_of_ble_eq_true rfl) (Nat.le_of_ble_eq_true rfl) ?_
        · refine px_C_of rfl ?_
          refine pr_s (pc1 := 1) (st1 := [.ref 138]) rfl (fun _ => rfl) ?_
          refine pr_getf (pc1 := 4) (v := .ref 141) rfl rfl pg_506 rfl rfl ?_
          refine pr_getf (pc1 := 7) (v := .int 0) rfl rfl pg_507 rfl rfl ?_
          refine pr_s (pc1 := 8) (st1 := [.int 1, .int 0]) rfl (fun _ => rfl) ?_
          refine pr_s (pc1 := 9) (st1 := [.int (-1)]) rfl (fun _ => rfl) ?_
          refine pr_s (pc1 := 10) (lv1 := [(2, .int (-1)), (0, .ref 138), (1, .int a1)]) (st1 := []) rfl (fun _ => rfl) ?_
          refine pr_s (pc1 := 11) (st1 := [.int (-1)]) rfl (fun _ => rfl) ?_
          refine pr_bt (t := 33) (off := 22) (bb := decide (((-1) : Int32) < 0)) (st1 := []) rfl rfl rfl rfl (by decide) ?_
          refine pr_s (pc1 := 34) (st1 := [.int (-1)]) rfl (fun _ => rfl) ?_
          exact pr_e rfl (fun _ => rfl) ⟨rfl, rfl⟩
        show px_R _ _ _ _ (9, [(0, .ref 136), (1, .int a1)], [.int (-1), .ref 136], _) _ _ _
        refine pr_s (pc1 := 10) (st1 := [.int (-1), .int (-1), .ref 136]) rfl (fun _ => rfl) ?_
        refine pr_bt (t := 17) (off := 7) (bb := decide (((-1) : Int32) = (-1))) (st1 := [.ref 136]) rfl rfl rfl rfl (by decide) ?_
        refine pr_s (pc1 := 18) (st1 := [.int 1, .ref 136]) rfl (fun _ => rfl) ?_
        refine pr_putf (pc1 := 21) (h1 := ph_15) rfl rfl pg_20 rfl rfl rfl rfl rfl rfl rfl ?_
        refine pr_s (pc1 := 22) (st1 := [.ref 136]) rfl (fun _ => rfl) ?_
        refine pr_getf (pc1 := 25) (v := .int 1) rfl rfl pg_21 rfl rfl ?_
        refine pr_bt (t := 32) (off := 7) (bb := !decide ((1 : Int32) = 0)) (st1 := []) rfl rfl rfl rfl (px_not_t (by decide)) ?_
        refine pr_s (pc1 := 33) (st1 := [.int 0]) rfl (fun _ => rfl) ?_
        exact pr_e rfl (fun _ => rfl) ⟨rfl, rfl⟩
      show px_R _ _ _ _ (5, [(0, .ref 136), (1, .int a1)], [.int 0], _) _ _ _
      refine pr_bf (t := 10) (off := 5) (bb := !decide ((0 : Int32) = 0)) (st1 := []) rfl rfl rfl rfl (px_not_f (by decide)) ?_
      refine pr_s (pc1 := 9) (st1 := [.int 0]) rfl (fun _ => rfl) ?_
      exact pr_e rfl (fun _ => rfl) ⟨rfl, rfl⟩
    show px_T _ _ _ _ (2613, [(5, .int 1), (4, .int 0), (3, .ref 164), (2, .ref 136), (1, .ref 0), (0, .retAddr 0)], [.int 0], _) _ _ _
    refine pt_s (pc1 := 2615) (lv1 := [(6, .int 0), (5, .int 1), (4, .int 0), (3, .ref 164), (2, .ref 136), (1, .ref 0), (0, .retAddr 0)]) (st1 := []) rfl rfl (fun _ => rfl) ?_
    refine pt_s (pc1 := 2616) (st1 := [.ref 136]) rfl rfl (fun _ => rfl) ?_
    refine pt_callv (N := pm_X10_thrown) (as := [.ref 136]) (rest := []) (f := 2047) (l := 83980) (c1 := 0) (k1 := 0) (c2 := 599836) (k2 := 7274189) (v := some (.int 1)) (h1 := ph_15) rfl rfl (fun ex => px_inv_hs ex rfl rfl rfl pg_21 rfl rfl rfl rfl) ?_ (Nat.le_of_ble_eq_true rfl) (Nat.le_of_ble_eq_true rfl) ?_
    · refine px_C_of rfl ?_
      refine pr_s (pc1 := 1) (st1 := [.ref 136]) rfl (fun _ => rfl) ?_
      refine pr_getf (pc1 := 4) (v := .int 1) rfl rfl pg_21 rfl rfl ?_
      exact pr_e rfl (fun _ => rfl) ⟨rfl, rfl⟩
    show px_T _ _ _ _ (2619, [(6, .int 0), (5, .int 1), (4, .int 0), (3, .ref 164), (2, .ref 136), (1, .ref 0), (0, .retAddr 0)], [.int 1], _) _ _ _
    refine pt_s (pc1 := 2621) (st1 := [.int 1, .int 1]) rfl rfl (fun _ => rfl) ?_
    refine pt_bt (t := 2626) (off := 5) (bb := decide ((1 : Int32) = 1)) (st1 := []) rfl rfl rfl rfl rfl (by decide) ?_
    refine pt_s (pc1 := 2628) (st1 := [.int 1]) rfl rfl (fun _ => rfl) ?_
    refine pt_bt (t := 2643) (off := 15) (bb := !decide ((1 : Int32) = 0)) (st1 := []) rfl rfl rfl rfl rfl (px_not_t (by decide)) ?_
    refine pt_s (pc1 := 2771) (st1 := []) rfl rfl (fun _ => rfl) ?_
    refine pt_s (pc1 := 2774) (lv1 := [(4, .int 6), (6, .int 0), (5, .int 1), (3, .ref 164), (2, .ref 136), (1, .ref 0), (0, .retAddr 0)]) (st1 := []) rfl rfl (fun _ => rfl) ?_
    refine pt_s (pc1 := 23) (st1 := []) rfl rfl (fun _ => rfl) ?_
    refine pt_s (pc1 := 25) (st1 := [.int 6]) rfl rfl (fun _ => rfl) ?_
    refine pt_s (pc1 := 26) (st1 := [.retAddr 0, .int 6]) rfl rfl (fun _ => rfl) ?_
    refine pt_s (pc1 := 27) (st1 := [.int 6, .int 6]) rfl rfl (fun _ => rfl) ?_
    refine pt_s (pc1 := 29) (st1 := [.int 6, .int 6, .int 6]) rfl rfl (fun _ => rfl) ?_
    refine pt_s (pc1 := 30) (st1 := [.int 0, .int 6]) rfl rfl (fun _ => rfl) ?_
    refine pt_bt (t := 2777) (off := 2747) (bb := decide ((0 : Int32) < (6 : Int32))) (st1 := []) rfl rfl rfl rfl rfl (by decide) ?_
    refine pt_s (pc1 := 2778) (st1 := [.int 1]) rfl rfl (fun _ => rfl) ?_
    exact pt_e rfl ⟨rfl, (rfl : px_ins pm_law 2778 = some (.ireturn, 1))⟩
set_option maxRecDepth 100000 in
set_option maxHeartbeats 40000000 in
theorem px_op_43 (a0 a1 a2 a3 a4 a5 : Int32) : px_T (some [a0, a1, a2, a3, a4, a5]) pm_law 2048 84000 (40, [(4, .int 0), (3, .ref 164), (2, .ref 136), (1, .ref 0), (0, .retAddr 0)], [.int 43], px_hs) 599837 7274195 (fun s1 => s1.2.2.1 = [.int 1] ∧ px_ins pm_law s1.1 = some (.ireturn, 1)) := by
  have ha1 : (-2147483648) ≤ a1.toInt ∧ a1.toInt ≤ 2147483647 := ⟨Int32.le_toInt a1, Int32.toInt_le a1⟩
  have ha5 : (-2147483648) ≤ a5.toInt ∧ a5.toInt ≤ 2147483647 := ⟨Int32.le_toInt a5, Int32.toInt_le a5⟩
  by_cases hs : a5.toInt < 1
  · have ha5 : (-2147483648) ≤ a5.toInt ∧ a5.toInt ≤ 0 := ⟨ha5.1, by omega⟩
    refine pt_s (pc1 := 2646) (st1 := []) rfl rfl (fun _ => rfl) ?_
    refine pt_s (pc1 := 2647) (st1 := [.ref 0]) rfl rfl (fun _ => rfl) ?_
    refine pt_s (pc1 := 2648) (st1 := [.retAddr 0, .ref 0]) rfl rfl (fun _ => rfl) ?_
    refine pt_s (pc1 := 2650) (st1 := [.int 0, .retAddr 0, .ref 0]) rfl rfl (fun _ => rfl) ?_
    refine pt_s (pc1 := 2651) (st1 := [.int 1, .int 0, .retAddr 0, .ref 0]) rfl rfl (fun _ => rfl) ?_
    refine pt_s (pc1 := 2652) (st1 := [.int 1, .retAddr 0, .ref 0]) rfl rfl (fun _ => rfl) ?_
    refine pt_s (pc1 := 2653) (st1 := [.int a1, .ref 0]) rfl rfl (fun _ => rfl) ?_
    refine pt_s (pc1 := 2654) (st1 := [.retAddr 0, .int a1, .ref 0]) rfl rfl (fun _ => rfl) ?_
    refine pt_s (pc1 := 2656) (st1 := [.int 0, .retAddr 0, .int a1, .ref 0]) rfl rfl (fun _ => rfl) ?_
    refine pt_s (pc1 := 2657) (st1 := [.int 2, .int 0, .retAddr 0, .int a1, .ref 0]) rfl rfl (fun _ => rfl) ?_
    refine pt_s (pc1 := 2658) (st1 := [.int 2, .retAddr 0, .int a1, .ref 0]) rfl rfl (fun _ => rfl) ?_
    refine pt_s (pc1 := 2659) (st1 := [.int a2, .int a1, .ref 0]) rfl rfl (fun _ => rfl) ?_
    refine pt_s (pc1 := 2660) (st1 := [.retAddr 0, .int a2, .int a1, .ref 0]) rfl rfl (fun _ => rfl) ?_
    refine pt_s (pc1 := 2662) (st1 := [.int 0, .retAddr 0, .int a2, .int a1, .ref 0]) rfl rfl (fun _ => rfl) ?_
    refine pt_s (pc1 := 2663) (st1 := [.int 3, .int 0, .retAddr 0, .int a2, .int a1, .ref 0]) rfl rfl (fun _ => rfl) ?_
    refine pt_s (pc1 := 2664) (st1 := [.int 3, .retAddr 0, .int a2, .int a1, .ref 0]) rfl rfl (fun _ => rfl) ?_
    refine pt_s (pc1 := 2665) (st1 := [.int a3, .int a2, .int a1, .ref 0]) rfl rfl (fun _ => rfl) ?_
    refine pt_s (pc1 := 2666) (st1 := [.retAddr 0, .int a3, .int a2, .int a1, .ref 0]) rfl rfl (fun _ => rfl) ?_
    refine pt_s (pc1 := 2668) (st1 := [.int 0, .retAddr 0, .int a3, .int a2, .int a1, .ref 0]) rfl rfl (fun _ => rfl) ?_
    refine pt_s (pc1 := 2669) (st1 := [.int 4, .int 0, .retAddr 0, .int a3, .int a2, .int a1, .ref 0]) rfl rfl (fun _ => rfl) ?_
    refine pt_s (pc1 := 2670) (st1 := [.int 4, .retAddr 0, .int a3, .int a2, .int a1, .ref 0]) rfl rfl (fun _ => rfl) ?_
    refine pt_s (pc1 := 2671) (st1 := [.int a4, .int a3, .int a2, .int a1, .ref 0]) rfl rfl (fun _ => rfl) ?_
    refine pt_s (pc1 := 2672) (st1 := [.retAddr 0, .int a4, .int a3, .int a2, .int a1, .ref 0]) rfl rfl (fun _ => rfl) ?_
    refine pt_s (pc1 := 2674) (st1 := [.int 0, .retAddr 0, .int a4, .int a3, .int a2, .int a1, .ref 0]) rfl rfl (fun _ => rfl) ?_
    refine pt_s (pc1 := 2675) (st1 := [.int 5, .int 0, .retAddr 0, .int a4, .int a3, .int a2, .int a1, .ref 0]) rfl rfl (fun _ => rfl) ?_
    refine pt_s (pc1 := 2676) (st1 := [.int 5, .retAddr 0, .int a4, .int a3, .int a2, .int a1, .ref 0]) rfl rfl (fun _ => rfl) ?_
    refine pt_s (pc1 := 2677) (st1 := [.int a5, .int a4, .int a3, .int a2, .int a1, .ref 0]) rfl rfl (fun _ => rfl) ?_
    refine pt_s (pc1 := 2678) (st1 := [.ref 164, .int a5, .int a4, .int a3, .int a2, .int a1, .ref 0]) rfl rfl (fun _ => rfl) ?_
    refine pt_callv (N := pm_L_wouldHold) (as := [.ref 0, .int a1, .int a2, .int a3, .int a4, .int a5, .ref 164]) (rest := []) (f := 2047) (l := 83973) (c1 := 1) (k1 := 6) (c2 := 599836) (k2 := 7274189) (v := some (.int 1)) (h1 := ph_1) rfl rfl (fun _ => rfl) ?_ (Nat.le_of_ble_eq_true rfl) (Nat.le_of_ble_eq_true rfl) ?_
    · refine px_C_of rfl ?_
      refine pr_s (pc1 := 2) (st1 := [.ref 164]) rfl (fun _ => rfl) ?_
      refine pr_s (pc1 := 3) (st1 := [.int 0, .ref 164]) rfl (fun _ => rfl) ?_
      refine pr_s (pc1 := 4) (st1 := [.ref 0, .int 0, .ref 164]) rfl (fun _ => rfl) ?_
      refine pr_s (pc1 := 5) (st1 := [.int a1, .ref 0, .int 0, .ref 164]) rfl (fun _ => rfl) ?_
      refine pr_s (pc1 := 6) (st1 := [.int a2, .int a1, .ref 0, .int 0, .ref 164]) rfl (fun _ => rfl) ?_
      refine pr_s (pc1 := 7) (st1 := [.int a3, .int a2, .int a1, .ref 0, .int 0, .ref 164]) rfl (fun _ => rfl) ?_
      refine pr_s (pc1 := 9) (st1 := [.int a4, .int a3, .int a2, .int a1, .ref 0, .int 0, .ref 164]) rfl (fun _ => rfl) ?_
      refine pr_s (pc1 := 11) (st1 := [.int a5, .int a4, .int a3, .int a2, .int a1, .ref 0, .int 0, .ref 164]) rfl (fun _ => rfl) ?_
      refine pr_callx (N := pm_X6_wouldHold) (as := [.ref 0, .int a1, .int a2, .int a3, .int a4, .int a5]) (rest := [.int 0, .ref 164]) (f := 2046) (l := 83948) (c1 := 1) (k1 := 6) (c2 := 0) (k2 := 0) (E := 12) (h1 := ph_1) (a := 26) (y1 := 7) (y2 := 2) rfl (fun ex => px_inv_hs ex rfl rfl rfl pg_0 rfl rfl rfl rfl) ?_ (Nat.le_of_ble_eq_true rfl) (Nat.le_of_ble_eq_true rfl) rfl rfl rfl rfl ?_
      · refine px_C_of rfl ?_
        refine pr_s (pc1 := 2) (st1 := [.int a5]) rfl (fun _ => rfl) ?_
        refine pr_callo (N := pm_X6_needMost) (as := [.int a5]) (rest := []) (f := 2045) (l := 83928) (E := 12) (h1 := ph_1) rfl (fun _ => rfl) ?_ rfl ⟨rfl, rfl⟩
        · refine px_C_of rfl ?_
          refine pr_s (pc1 := 1) (st1 := [.int a5]) rfl (fun _ => rfl) ?_
          refine pr_s (pc1 := 2) (st1 := [.int 1, .int a5]) rfl (fun _ => rfl) ?_
          refine pr_bt (t := 11) (off := 9) (bb := decide (a5 < 1)) (st1 := []) rfl rfl rfl rfl (pb_ltT ha5.2 (show 1 ≤ (1 : Int32).toInt by decide) (by decide)) ?_
          refine pr_mh (z1 := 1) (z2 := 6) (c1 := 0) (k1 := 0) (pc1 := 21) (n := 165) (r := []) (h1 := ph_1) (es := fun n => [.inr (12, [])]) rfl (fun _ => rfl) pl_0 rfl (Nat.le_of_ble_eq_true rfl) (Nat.le_of_ble_eq_true rfl) ?_
          exact pr_e rfl (fun _ => rfl) ⟨rfl, rfl⟩
      show px_R _ _ _ _ (28, [(0, .ref 0), (1, .int a1), (2, .int a2), (3, .int a3), (4, .int a4), (5, .int a5), (6, .ref 164)], [], _) _ _ _
      refine pr_s (pc1 := 29) (st1 := [.int 1]) rfl (fun _ => rfl) ?_
      exact pr_e rfl (fun _ => rfl) ⟨rfl, rfl⟩
    show px_T _ _ _ _ (2681, [(4, .int 0), (3, .ref 164), (2, .ref 136), (1, .ref 0), (0, .retAddr 0)], [.int 1], _) _ _ _
    refine pt_s (pc1 := 2683) (lv1 := [(5, .int 1), (4, .int 0), (3, .ref 164), (2, .ref 136), (1, .ref 0), (0, .retAddr 0)]) (st1 := []) rfl rfl (fun _ => rfl) ?_
    refine pt_s (pc1 := 2684) (st1 := [.ref 136]) rfl rfl (fun _ => rfl) ?_
    refine pt_s (pc1 := 2685) (st1 := [.retAddr 0, .ref 136]) rfl rfl (fun _ => rfl) ?_
    refine pt_s (pc1 := 2687) (st1 := [.int 0, .retAddr 0, .ref 136]) rfl rfl (fun _ => rfl) ?_
    refine pt_s (pc1 := 2688) (st1 := [.int 1, .int 0, .retAddr 0, .ref 136]) rfl rfl (fun _ => rfl) ?_
    refine pt_s (pc1 := 2689) (st1 := [.int 1, .retAddr 0, .ref 136]) rfl rfl (fun _ => rfl) ?_
    refine pt_s (pc1 := 2690) (st1 := [.int a1, .ref 136]) rfl rfl (fun _ => rfl) ?_
    refine pt_s (pc1 := 2691) (st1 := [.retAddr 0, .int a1, .ref 136]) rfl rfl (fun _ => rfl) ?_
    refine pt_s (pc1 := 2693) (st1 := [.int 0, .retAddr 0, .int a1, .ref 136]) rfl rfl (fun _ => rfl) ?_
    refine pt_s (pc1 := 2694) (st1 := [.int 2, .int 0, .retAddr 0, .int a1, .ref 136]) rfl rfl (fun _ => rfl) ?_
    refine pt_s (pc1 := 2695) (st1 := [.int 2, .retAddr 0, .int a1, .ref 136]) rfl rfl (fun _ => rfl) ?_
    refine pt_s (pc1 := 2696) (st1 := [.int a2, .int a1, .ref 136]) rfl rfl (fun _ => rfl) ?_
    refine pt_s (pc1 := 2697) (st1 := [.retAddr 0, .int a2, .int a1, .ref 136]) rfl rfl (fun _ => rfl) ?_
    refine pt_s (pc1 := 2699) (st1 := [.int 0, .retAddr 0, .int a2, .int a1, .ref 136]) rfl rfl (fun _ => rfl) ?_
    refine pt_s (pc1 := 2700) (st1 := [.int 3, .int 0, .retAddr 0, .int a2, .int a1, .ref 136]) rfl rfl (fun _ => rfl) ?_
    refine pt_s (pc1 := 2701) (st1 := [.int 3, .retAddr 0, .int a2, .int a1, .ref 136]) rfl rfl (fun _ => rfl) ?_
    refine pt_s (pc1 := 2702) (st1 := [.int a3, .int a2, .int a1, .ref 136]) rfl rfl (fun _ => rfl) ?_
    refine pt_s (pc1 := 2703) (st1 := [.retAddr 0, .int a3, .int a2, .int a1, .ref 136]) rfl rfl (fun _ => rfl) ?_
    refine pt_s (pc1 := 2705) (st1 := [.int 0, .retAddr 0, .int a3, .int a2, .int a1, .ref 136]) rfl rfl (fun _ => rfl) ?_
    refine pt_s (pc1 := 2706) (st1 := [.int 4, .int 0, .retAddr 0, .int a3, .int a2, .int a1, .ref 136]) rfl rfl (fun _ => rfl) ?_
    refine pt_s (pc1 := 2707) (st1 := [.int 4, .retAddr 0, .int a3, .int a2, .int a1, .ref 136]) rfl rfl (fun _ => rfl) ?_
    refine pt_s (pc1 := 2708) (st1 := [.int a4, .int a3, .int a2, .int a1, .ref 136]) rfl rfl (fun _ => rfl) ?_
    refine pt_s (pc1 := 2709) (st1 := [.retAddr 0, .int a4, .int a3, .int a2, .int a1, .ref 136]) rfl rfl (fun _ => rfl) ?_
    refine pt_s (pc1 := 2711) (st1 := [.int 0, .retAddr 0, .int a4, .int a3, .int a2, .int a1, .ref 136]) rfl rfl (fun _ => rfl) ?_
    refine pt_s (pc1 := 2712) (st1 := [.int 5, .int 0, .retAddr 0, .int a4, .int a3, .int a2, .int a1, .ref 136]) rfl rfl (fun _ => rfl) ?_
    refine pt_s (pc1 := 2713) (st1 := [.int 5, .retAddr 0, .int a4, .int a3, .int a2, .int a1, .ref 136]) rfl rfl (fun _ => rfl) ?_
    refine pt_s (pc1 := 2714) (st1 := [.int a5, .int a4, .int a3, .int a2, .int a1, .ref 136]) rfl rfl (fun _ => rfl) ?_
    refine pt_callv (N := pm_X10_wouldHold) (as := [.ref 136, .int a1, .int a2, .int a3, .int a4, .int a5]) (rest := []) (f := 2047) (l := 83975) (c1 := 0) (k1 := 0) (c2 := 599836) (k2 := 7274189) (v := some (.int 0)) (h1 := ph_2) rfl rfl (fun ex => px_inv_hs ex rfl rfl rfl pg_2 rfl rfl rfl rfl) ?_ (Nat.le_of_ble_eq_true rfl) (Nat.le_of_ble_eq_true rfl) ?_
    · refine px_C_of rfl ?_
      refine pr_s (pc1 := 1) (st1 := [.ref 136]) rfl (fun _ => rfl) ?_
      refine pr_s (pc1 := 3) (st1 := [.int a5, .ref 136]) rfl (fun _ => rfl) ?_
      refine pr_s (pc1 := 4) (st1 := [.int 1, .int a5, .ref 136]) rfl (fun _ => rfl) ?_
      refine pr_s (pc1 := 6) (st1 := [.int 20, .int 1, .int a5, .ref 136]) rfl (fun _ => rfl) ?_
      refine pr_callv (N := pm_X10_is) (as := [.int a5, .int 1, .int 20]) (rest := [.ref 136]) (f := 2046) (l := 83953) (c1 := 0) (k1 := 0) (c2 := 0) (k2 := 0) (v := some (.int 0)) (h1 := ph_1) rfl (fun _ => rfl) ?_ (Nat.le_of_ble_eq_true rfl) (Nat.le_of_ble_eq_true rfl) ?_
      · refine px_C_of rfl ?_
        refine pr_s (pc1 := 1) (st1 := [.int a5]) rfl (fun _ => rfl) ?_
        refine pr_s (pc1 := 2) (st1 := [.int 1, .int a5]) rfl (fun _ => rfl) ?_
        refine pr_bt (t := 14) (off := 12) (bb := decide (a5 < 1)) (st1 := []) rfl rfl rfl rfl (pb_ltT ha5.2 (show 1 ≤ (1 : Int32).toInt by decide) (by decide)) ?_
        refine pr_s (pc1 := 15) (st1 := [.int 0]) rfl (fun _ => rfl) ?_
        exact pr_e rfl (fun _ => rfl) ⟨rfl, rfl⟩
      show px_R _ _ _ _ (9, [(0, .ref 136), (1, .int a1), (2, .int a2), (3, .int a3), (4, .int a4), (5, .int a5)], [.int 0, .ref 136], _) _ _ _
      refine pr_bt (t := 16) (off := 7) (bb := decide ((0 : Int32) = 0)) (st1 := [.ref 136]) rfl rfl rfl rfl (by decide) ?_
      refine pr_s (pc1 := 17) (st1 := [.int 1, .ref 136]) rfl (fun _ => rfl) ?_
      refine pr_putf (pc1 := 20) (h1 := ph_2) rfl rfl pg_2 rfl rfl rfl rfl rfl rfl rfl ?_
      refine pr_s (pc1 := 21) (st1 := [.ref 136]) rfl (fun _ => rfl) ?_
      refine pr_getf (pc1 := 24) (v := .int 1) rfl rfl pg_3 rfl rfl ?_
      refine pr_bf (t := 29) (off := 5) (bb := decide ((1 : Int32) ≤ 0)) (st1 := []) rfl rfl rfl rfl (by decide) ?_
      refine pr_s (pc1 := 28) (st1 := [.int 0]) rfl (fun _ => rfl) ?_
      exact pr_e rfl (fun _ => rfl) ⟨rfl, rfl⟩
    show px_T _ _ _ _ (2717, [(5, .int 1), (4, .int 0), (3, .ref 164), (2, .ref 136), (1, .ref 0), (0, .retAddr 0)], [.int 0], _) _ _ _
    refine pt_s (pc1 := 2719) (lv1 := [(6, .int 0), (5, .int 1), (4, .int 0), (3, .ref 164), (2, .ref 136), (1, .ref 0), (0, .retAddr 0)]) (st1 := []) rfl rfl (fun _ => rfl) ?_
    refine pt_s (pc1 := 2720) (st1 := [.ref 136]) rfl rfl (fun _ => rfl) ?_
    refine pt_callv (N := pm_X10_thrown) (as := [.ref 136]) (rest := []) (f := 2047) (l := 83980) (c1 := 0) (k1 := 0) (c2 := 599836) (k2 := 7274189) (v := some (.int 1)) (h1 := ph_2) rfl rfl (fun ex => px_inv_hs ex rfl rfl rfl pg_3 rfl rfl rfl rfl) ?_ (Nat.le_of_ble_eq_true rfl) (Nat.le_of_ble_eq_true rfl) ?_
    · refine px_C_of rfl ?_
      refine pr_s (pc1 := 1) (st1 := [.ref 136]) rfl (fun _ => rfl) ?_
      refine pr_getf (pc1 := 4) (v := .int 1) rfl rfl pg_3 rfl rfl ?_
      exact pr_e rfl (fun _ => rfl) ⟨rfl, rfl⟩
    show px_T _ _ _ _ (2723, [(6, .int 0), (5, .int 1), (4, .int 0), (3, .ref 164), (2, .ref 136), (1, .ref 0), (0, .retAddr 0)], [.int 1], _) _ _ _
    refine pt_s (pc1 := 2725) (st1 := [.int 1, .int 1]) rfl rfl (fun _ => rfl) ?_
    refine pt_bt (t := 2730) (off := 5) (bb := decide ((1 : Int32) = 1)) (st1 := []) rfl rfl rfl rfl rfl (by decide) ?_
    refine pt_s (pc1 := 2732) (st1 := [.int 1]) rfl rfl (fun _ => rfl) ?_
    refine pt_bt (t := 2754) (off := 22) (bb := !decide ((1 : Int32) = 0)) (st1 := []) rfl rfl rfl rfl rfl (px_not_t (by decide)) ?_
    refine pt_s (pc1 := 2771) (st1 := []) rfl rfl (fun _ => rfl) ?_
    refine pt_s (pc1 := 2774) (lv1 := [(4, .int 6), (6, .int 0), (5, .int 1), (3, .ref 164), (2, .ref 136), (1, .ref 0), (0, .retAddr 0)]) (st1 := []) rfl rfl (fun _ => rfl) ?_
    refine pt_s (pc1 := 23) (st1 := []) rfl rfl (fun _ => rfl) ?_
    refine pt_s (pc1 := 25) (st1 := [.int 6]) rfl rfl (fun _ => rfl) ?_
    refine pt_s (pc1 := 26) (st1 := [.retAddr 0, .int 6]) rfl rfl (fun _ => rfl) ?_
    refine pt_s (pc1 := 27) (st1 := [.int 6, .int 6]) rfl rfl (fun _ => rfl) ?_
    refine pt_s (pc1 := 29) (st1 := [.int 6, .int 6, .int 6]) rfl rfl (fun _ => rfl) ?_
    refine pt_s (pc1 := 30) (st1 := [.int 0, .int 6]) rfl rfl (fun _ => rfl) ?_
    refine pt_bt (t := 2777) (off := 2747) (bb := decide ((0 : Int32) < (6 : Int32))) (st1 := []) rfl rfl rfl rfl rfl (by decide) ?_
    refine pt_s (pc1 := 2778) (st1 := [.int 1]) rfl rfl (fun _ => rfl) ?_
    exact pt_e rfl ⟨rfl, (rfl : px_ins pm_law 2778 = some (.ireturn, 1))⟩
  · have ha5 : 1 ≤ a5.toInt ∧ a5.toInt ≤ 2147483647 := ⟨by omega, ha5.2⟩
    by_cases hs : a5.toInt < 21
    · have ha5 : 1 ≤ a5.toInt ∧ a5.toInt ≤ 20 := ⟨ha5.1, by omega⟩
      by_cases hs : a1.toInt < 0
      · have ha1 : (-2147483648) ≤ a1.toInt ∧ a1.toInt ≤ (-1) := ⟨ha1.1, by omega⟩
        refine pt_s (pc1 := 2646) (st1 := []) rfl rfl (fun _ => rfl) ?_
        refine pt_s (pc1 := 2647) (st1 := [.ref 0]) rfl rfl (fun _ => rfl) ?_
        refine pt_s (pc1 := 2648) (st1 := [.retAddr 0, .ref 0]) rfl rfl (fun _ => rfl) ?_
        refine pt_s (pc1 := 2650) (st1 := [.int 0, .retAddr 0, .ref 0]) rfl rfl (fun _ => rfl) ?_
        refine pt_s (pc1 := 2651) (st1 := [.int 1, .int 0, .retAddr 0, .ref 0]) rfl rfl (fun _ => rfl) ?_
        refine pt_s (pc1 := 2652) (st1 := [.int 1, .retAddr 0, .ref 0]) rfl rfl (fun _ => rfl) ?_
        refine pt_s (pc1 := 2653) (st1 := [.int a1, .ref 0]) rfl rfl (fun _ => rfl) ?_
        refine pt_s (pc1 := 2654) (st1 := [.retAddr 0, .int a1, .ref 0]) rfl rfl (fun _ => rfl) ?_
        refine pt_s (pc1 := 2656) (st1 := [.int 0, .retAddr 0, .int a1, .ref 0]) rfl rfl (fun _ => rfl) ?_
        refine pt_s (pc1 := 2657) (st1 := [.int 2, .int 0, .retAddr 0, .int a1, .ref 0]) rfl rfl (fun _ => rfl) ?_
        refine pt_s (pc1 := 2658) (st1 := [.int 2, .retAddr 0, .int a1, .ref 0]) rfl rfl (fun _ => rfl) ?_
        refine pt_s (pc1 := 2659) (st1 := [.int a2, .int a1, .ref 0]) rfl rfl (fun _ => rfl) ?_
        refine pt_s (pc1 := 2660) (st1 := [.retAddr 0, .int a2, .int a1, .ref 0]) rfl rfl (fun _ => rfl) ?_
        refine pt_s (pc1 := 2662) (st1 := [.int 0, .retAddr 0, .int a2, .int a1, .ref 0]) rfl rfl (fun _ => rfl) ?_
        refine pt_s (pc1 := 2663) (st1 := [.int 3, .int 0, .retAddr 0, .int a2, .int a1, .ref 0]) rfl rfl (fun _ => rfl) ?_
        refine pt_s (pc1 := 2664) (st1 := [.int 3, .retAddr 0, .int a2, .int a1, .ref 0]) rfl rfl (fun _ => rfl) ?_
        refine pt_s (pc1 := 2665) (st1 := [.int a3, .int a2, .int a1, .ref 0]) rfl rfl (fun _ => rfl) ?_
        refine pt_s (pc1 := 2666) (st1 := [.retAddr 0, .int a3, .int a2, .int a1, .ref 0]) rfl rfl (fun _ => rfl) ?_
        refine pt_s (pc1 := 2668) (st1 := [.int 0, .retAddr 0, .int a3, .int a2, .int a1, .ref 0]) rfl rfl (fun _ => rfl) ?_
        refine pt_s (pc1 := 2669) (st1 := [.int 4, .int 0, .retAddr 0, .int a3, .int a2, .int a1, .ref 0]) rfl rfl (fun _ => rfl) ?_
        refine pt_s (pc1 := 2670) (st1 := [.int 4, .retAddr 0, .int a3, .int a2, .int a1, .ref 0]) rfl rfl (fun _ => rfl) ?_
        refine pt_s (pc1 := 2671) (st1 := [.int a4, .int a3, .int a2, .int a1, .ref 0]) rfl rfl (fun _ => rfl) ?_
        refine pt_s (pc1 := 2672) (st1 := [.retAddr 0, .int a4, .int a3, .int a2, .int a1, .ref 0]) rfl rfl (fun _ => rfl) ?_
        refine pt_s (pc1 := 2674) (st1 := [.int 0, .retAddr 0, .int a4, .int a3, .int a2, .int a1, .ref 0]) rfl rfl (fun _ => rfl) ?_
        refine pt_s (pc1 := 2675) (st1 := [.int 5, .int 0, .retAddr 0, .int a4, .int a3, .int a2, .int a1, .ref 0]) rfl rfl (fun _ => rfl) ?_
        refine pt_s (pc1 := 2676) (st1 := [.int 5, .retAddr 0, .int a4, .int a3, .int a2, .int a1, .ref 0]) rfl rfl (fun _ => rfl) ?_
        refine pt_s (pc1 := 2677) (st1 := [.int a5, .int a4, .int a3, .int a2, .int a1, .ref 0]) rfl rfl (fun _ => rfl) ?_
        refine pt_s (pc1 := 2678) (st1 := [.ref 164, .int a5, .int a4, .int a3, .int a2, .int a1, .ref 0]) rfl rfl (fun _ => rfl) ?_
        refine pt_callv (N := pm_L_wouldHold) (as := [.ref 0, .int a1, .int a2, .int a3, .int a4, .int a5, .ref 164]) (rest := []) (f := 2047) (l := 83973) (c1 := 0) (k1 := 0) (c2 := 599837) (k2 := 7274195) (v := some (.int 0)) (h1 := ph_192) rfl rfl (fun _ => rfl) ?_ (Nat.le_of_ble_eq_true rfl) (Nat.le_of_ble_eq_true rfl) ?_
        · exact pq_89 a1 a2 a3 a4 a5 ha1 ha5
        show px_T _ _ _ _ (2681, [(4, .int 0), (3, .ref 164), (2, .ref 136), (1, .ref 0), (0, .retAddr 0)], [.int 0], _) _ _ _
        refine pt_s (pc1 := 2683) (lv1 := [(5, .int 0), (4, .int 0), (3, .ref 164), (2, .ref 136), (1, .ref 0), (0, .retAddr 0)]) (st1 := []) rfl rfl (fun _ => rfl) ?_
        refine pt_s (pc1 := 2684) (st1 := [.ref 136]) rfl rfl (fun _ => rfl) ?_
        refine pt_s (pc1 := 2685) (st1 := [.retAddr 0, .ref 136]) rfl rfl (fun _ => rfl) ?_
        refine pt_s (pc1 := 2687) (st1 := [.int 0, .retAddr 0, .ref 136]) rfl rfl (fun _ => rfl) ?_
        refine pt_s (pc1 := 2688) (st1 := [.int 1, .int 0, .retAddr 0, .ref 136]) rfl rfl (fun _ => rfl) ?_
        refine pt_s (pc1 := 2689) (st1 := [.int 1, .retAddr 0, .ref 136]) rfl rfl (fun _ => rfl) ?_
        refine pt_s (pc1 := 2690) (st1 := [.int a1, .ref 136]) rfl rfl (fun _ => rfl) ?_
        refine pt_s (pc1 := 2691) (st1 := [.retAddr 0, .int a1, .ref 136]) rfl rfl (fun _ => rfl) ?_
        refine pt_s (pc1 := 2693) (st1 := [.int 0, .retAddr 0, .int a1, .ref 136]) rfl rfl (fun _ => rfl) ?_
        refine pt_s (pc1 := 2694) (st1 := [.int 2, .int 0, .retAddr 0, .int a1, .ref 136]) rfl rfl (fun _ => rfl) ?_
        refine pt_s (pc1 := 2695) (st1 := [.int 2, .retAddr 0, .int a1, .ref 136]) rfl rfl (fun _ => rfl) ?_
        refine pt_s (pc1 := 2696) (st1 := [.int a2, .int a1, .ref 136]) rfl rfl (fun _ => rfl) ?_
        refine pt_s (pc1 := 2697) (st1 := [.retAddr 0, .int a2, .int a1, .ref 136]) rfl rfl (fun _ => rfl) ?_
        refine pt_s (pc1 := 2699) (st1 := [.int 0, .retAddr 0, .int a2, .int a1, .ref 136]) rfl rfl (fun _ => rfl) ?_
        refine pt_s (pc1 := 2700) (st1 := [.int 3, .int 0, .retAddr 0, .int a2, .int a1, .ref 136]) rfl rfl (fun _ => rfl) ?_
        refine pt_s (pc1 := 2701) (st1 := [.int 3, .retAddr 0, .int a2, .int a1, .ref 136]) rfl rfl (fun _ => rfl) ?_
        refine pt_s (pc1 := 2702) (st1 := [.int a3, .int a2, .int a1, .ref 136]) rfl rfl (fun _ => rfl) ?_
        refine pt_s (pc1 := 2703) (st1 := [.retAddr 0, .int a3, .int a2, .int a1, .ref 136]) rfl rfl (fun _ => rfl) ?_
        refine pt_s (pc1 := 2705) (st1 := [.int 0, .retAddr 0, .int a3, .int a2, .int a1, .ref 136]) rfl rfl (fun _ => rfl) ?_
        refine pt_s (pc1 := 2706) (st1 := [.int 4, .int 0, .retAddr 0, .int a3, .int a2, .int a1, .ref 136]) rfl rfl (fun _ => rfl) ?_
        refine pt_s (pc1 := 2707) (st1 := [.int 4, .retAddr 0, .int a3, .int a2, .int a1, .ref 136]) rfl rfl (fun _ => rfl) ?_
        refine pt_s (pc1 := 2708) (st1 := [.int a4, .int a3, .int a2, .int a1, .ref 136]) rfl rfl (fun _ => rfl) ?_
        refine pt_s (pc1 := 2709) (st1 := [.retAddr 0, .int a4, .int a3, .int a2, .int a1, .ref 136]) rfl rfl (fun _ => rfl) ?_
        refine pt_s (pc1 := 2711) (st1 := [.int 0, .retAddr 0, .int a4, .int a3, .int a2, .int a1, .ref 136]) rfl rfl (fun _ => rfl) ?_
        refine pt_s (pc1 := 2712) (st1 := [.int 5, .int 0, .retAddr 0, .int a4, .int a3, .int a2, .int a1, .ref 136]) rfl rfl (fun _ => rfl) ?_
        refine pt_s (pc1 := 2713) (st1 := [.int 5, .retAddr 0, .int a4, .int a3, .int a2, .int a1, .ref 136]) rfl rfl (fun _ => rfl) ?_
        refine pt_s (pc1 := 2714) (st1 := [.int a5, .int a4, .int a3, .int a2, .int a1, .ref 136]) rfl rfl (fun _ => rfl) ?_
        refine pt_callv (N := pm_X10_wouldHold) (as := [.ref 136, .int a1, .int a2, .int a3, .int a4, .int a5]) (rest := []) (f := 2047) (l := 83975) (c1 := 0) (k1 := 0) (c2 := 599837) (k2 := 7274195) (v := some (.int 0)) (h1 := ph_192) rfl rfl (fun ex => px_inv_hs ex rfl rfl rfl pg_508 rfl rfl rfl rfl) ?_ (Nat.le_of_ble_eq_true rfl) (Nat.le_of_ble_eq_true rfl) ?_
        · exact pq_90 a1 a2 a3 a4 a5 ha5
        show px_T _ _ _ _ (2717, [(5, .int 0), (4, .int 0), (3, .ref 164), (2, .ref 136), (1, .ref 0), (0, .retAddr 0)], [.int 0], _) _ _ _
        refine pt_s (pc1 := 2719) (lv1 := [(6, .int 0), (5, .int 0), (4, .int 0), (3, .ref 164), (2, .ref 136), (1, .ref 0), (0, .retAddr 0)]) (st1 := []) rfl rfl (fun _ => rfl) ?_
        refine pt_s (pc1 := 2720) (st1 := [.ref 136]) rfl rfl (fun _ => rfl) ?_
        refine pt_callv (N := pm_X10_thrown) (as := [.ref 136]) (rest := []) (f := 2047) (l := 83980) (c1 := 0) (k1 := 0) (c2 := 599837) (k2 := 7274195) (v := some (.int 0)) (h1 := ph_192) rfl rfl (fun ex => px_inv_hs ex rfl rfl rfl pg_508 rfl rfl rfl rfl) ?_ (Nat.le_of_ble_eq_true rfl) (Nat.le_of_ble_eq_true rfl) ?_
        · refine px_C_of rfl ?_
          refine pr_s (pc1 := 1) (st1 := [.ref 136]) rfl (fun _ => rfl) ?_
          refine pr_getf (pc1 := 4) (v := .int 0) rfl rfl pg_508 rfl rfl ?_
          exact pr_e rfl (fun _ => rfl) ⟨rfl, rfl⟩
        show px_T _ _ _ _ (2723, [(6, .int 0), (5, .int 0), (4, .int 0), (3, .ref 164), (2, .ref 136), (1, .ref 0), (0, .retAddr 0)], [.int 0], _) _ _ _
        refine pt_s (pc1 := 2725) (st1 := [.int 0, .int 0]) rfl rfl (fun _ => rfl) ?_
        refine pt_bt (t := 2730) (off := 5) (bb := decide ((0 : Int32) = 0)) (st1 := []) rfl rfl rfl rfl rfl (by decide) ?_
        refine pt_s (pc1 := 2732) (st1 := [.int 0]) rfl rfl (fun _ => rfl) ?_
        refine pt_bf (t := 2754) (off := 22) (bb := !decide ((0 : Int32) = 0)) (st1 := []) rfl rfl rfl rfl rfl (px_not_f (by decide)) ?_
        refine pt_s (pc1 := 2736) (st1 := [.ref 164]) rfl rfl (fun _ => rfl) ?_
        refine pt_s (pc1 := 2737) (st1 := [.int 0, .ref 164]) rfl rfl (fun _ => rfl) ?_
        refine pt_lald (pc1 := 2738) (x := 0) rfl pg_511 rfl rfl rfl ?_
        refine pt_s (pc1 := 2740) (st1 := [.int 0, .long 0]) rfl rfl (fun _ => rfl) ?_
        refine pt_bt (t := 2747) (off := 7) (bb := decide ((0 : Int32) = 0)) (st1 := [.long 0]) rfl rfl rfl rfl rfl (by decide) ?_
        refine pt_s (pc1 := 2748) (st1 := [.long 0, .long 0]) rfl rfl (fun _ => rfl) ?_
        refine pt_s (pc1 := 2749) (st1 := [.int 0]) rfl rfl (fun _ => rfl) ?_
        refine pt_bt (t := 2754) (off := 5) (bb := decide ((0 : Int32) = 0)) (st1 := []) rfl rfl rfl rfl rfl (by decide) ?_
        refine pt_s (pc1 := 2771) (st1 := []) rfl rfl (fun _ => rfl) ?_
        refine pt_s (pc1 := 2774) (lv1 := [(4, .int 6), (6, .int 0), (5, .int 0), (3, .ref 164), (2, .ref 136), (1, .ref 0), (0, .retAddr 0)]) (st1 := []) rfl rfl (fun _ => rfl) ?_
        refine pt_s (pc1 := 23) (st1 := []) rfl rfl (fun _ => rfl) ?_
        refine pt_s (pc1 := 25) (st1 := [.int 6]) rfl rfl (fun _ => rfl) ?_
        refine pt_s (pc1 := 26) (st1 := [.retAddr 0, .int 6]) rfl rfl (fun _ => rfl) ?_
        refine pt_s (pc1 := 27) (st1 := [.int 6, .int 6]) rfl rfl (fun _ => rfl) ?_
        refine pt_s (pc1 := 29) (st1 := [.int 6, .int 6, .int 6]) rfl rfl (fun _ => rfl) ?_
        refine pt_s (pc1 := 30) (st1 := [.int 0, .int 6]) rfl rfl (fun _ => rfl) ?_
        refine pt_bt (t := 2777) (off := 2747) (bb := decide ((0 : Int32) < (6 : Int32))) (st1 := []) rfl rfl rfl rfl rfl (by decide) ?_
        refine pt_s (pc1 := 2778) (st1 := [.int 1]) rfl rfl (fun _ => rfl) ?_
        exact pt_e rfl ⟨rfl, (rfl : px_ins pm_law 2778 = some (.ireturn, 1))⟩
      · have ha1 : 0 ≤ a1.toInt ∧ a1.toInt ≤ 2147483647 := ⟨by omega, ha1.2⟩
        by_cases hs : a1.toInt < 8
        · have ha1 : 0 ≤ a1.toInt ∧ a1.toInt ≤ 7 := ⟨ha1.1, by omega⟩
          have hc : a1.toInt = 0 ∨ a1.toInt = 1 ∨ a1.toInt = 2 ∨ a1.toInt = 3 ∨ a1.toInt = 4 ∨ a1.toInt = 5 ∨ a1.toInt = 6 ∨ a1.toInt = 7 := by omega
          clear ha1
          rcases hc with hc | hc | hc | hc | hc | hc | hc | hc
          · obtain rfl : a1 = 0 := Int32.toInt_inj.mp (hc.trans rfl)
            refine pt_s (pc1 := 2646) (st1 := []) rfl rfl (fun _ => rfl) ?_
            refine pt_s (pc1 := 2647) (st1 := [.ref 0]) rfl rfl (fun _ => rfl) ?_
            refine pt_s (pc1 := 2648) (st1 := [.retAddr 0, .ref 0]) rfl rfl (fun _ => rfl) ?_
            refine pt_s (pc1 := 2650) (st1 := [.int 0, .retAddr 0, .ref 0]) rfl rfl (fun _ => rfl) ?_
            refine pt_s (pc1 := 2651) (st1 := [.int 1, .int 0, .retAddr 0, .ref 0]) rfl rfl (fun _ => rfl) ?_
            refine pt_s (pc1 := 2652) (st1 := [.int 1, .retAddr 0, .ref 0]) rfl rfl (fun _ => rfl) ?_
            refine pt_s (pc1 := 2653) (st1 := [.int 0, .ref 0]) rfl rfl (fun _ => rfl) ?_
            refine pt_s (pc1 := 2654) (st1 := [.retAddr 0, .int 0, .ref 0]) rfl rfl (fun _ => rfl) ?_
            refine pt_s (pc1 := 2656) (st1 := [.int 0, .retAddr 0, .int 0, .ref 0]) rfl rfl (fun _ => rfl) ?_
            refine pt_s (pc1 := 2657) (st1 := [.int 2, .int 0, .retAddr 0, .int 0, .ref 0]) rfl rfl (fun _ => rfl) ?_
            refine pt_s (pc1 := 2658) (st1 := [.int 2, .retAddr 0, .int 0, .ref 0]) rfl rfl (fun _ => rfl) ?_
            refine pt_s (pc1 := 2659) (st1 := [.int a2, .int 0, .ref 0]) rfl rfl (fun _ => rfl) ?_
            refine pt_s (pc1 := 2660) (st1 := [.retAddr 0, .int a2, .int 0, .ref 0]) rfl rfl (fun _ => rfl) ?_
            refine pt_s (pc1 := 2662) (st1 := [.int 0, .retAddr 0, .int a2, .int 0, .ref 0]) rfl rfl (fun _ => rfl) ?_
            refine pt_s (pc1 := 2663) (st1 := [.int 3, .int 0, .retAddr 0, .int a2, .int 0, .ref 0]) rfl rfl (fun _ => rfl) ?_
            refine pt_s (pc1 := 2664) (st1 := [.int 3, .retAddr 0, .int a2, .int 0, .ref 0]) rfl rfl (fun _ => rfl) ?_
            refine pt_s (pc1 := 2665) (st1 := [.int a3, .int a2, .int 0, .ref 0]) rfl rfl (fun _ => rfl) ?_
            refine pt_s (pc1 := 2666) (st1 := [.retAddr 0, .int a3, .int a2, .int 0, .ref 0]) rfl rfl (fun _ => rfl) ?_
            refine pt_s (pc1 := 2668) (st1 := [.int 0, .retAddr 0, .int a3, .int a2, .int 0, .ref 0]) rfl rfl (fun _ => rfl) ?_
            refine pt_s (pc1 := 2669) (st1 := [.int 4, .int 0, .retAddr 0, .int a3, .int a2, .int 0, .ref 0]) rfl rfl (fun _ => rfl) ?_
            refine pt_s (pc1 := 2670) (st1 := [.int 4, .retAddr 0, .int a3, .int a2, .int 0, .ref 0]) rfl rfl (fun _ => rfl) ?_
            refine pt_s (pc1 := 2671) (st1 := [.int a4, .int a3, .int a2, .int 0, .ref 0]) rfl rfl (fun _ => rfl) ?_
            refine pt_s (pc1 := 2672) (st1 := [.retAddr 0, .int a4, .int a3, .int a2, .int 0, .ref 0]) rfl rfl (fun _ => rfl) ?_
            refine pt_s (pc1 := 2674) (st1 := [.int 0, .retAddr 0, .int a4, .int a3, .int a2, .int 0, .ref 0]) rfl rfl (fun _ => rfl) ?_
            refine pt_s (pc1 := 2675) (st1 := [.int 5, .int 0, .retAddr 0, .int a4, .int a3, .int a2, .int 0, .ref 0]) rfl rfl (fun _ => rfl) ?_
            refine pt_s (pc1 := 2676) (st1 := [.int 5, .retAddr 0, .int a4, .int a3, .int a2, .int 0, .ref 0]) rfl rfl (fun _ => rfl) ?_
            refine pt_s (pc1 := 2677) (st1 := [.int a5, .int a4, .int a3, .int a2, .int 0, .ref 0]) rfl rfl (fun _ => rfl) ?_
            refine pt_s (pc1 := 2678) (st1 := [.ref 164, .int a5, .int a4, .int a3, .int a2, .int 0, .ref 0]) rfl rfl (fun _ => rfl) ?_
            refine pt_callv (N := pm_L_wouldHold) (as := [.ref 0, .int 0, .int a2, .int a3, .int a4, .int a5, .ref 164]) (rest := []) (f := 2047) (l := 83973) (c1 := 0) (k1 := 0) (c2 := 599837) (k2 := 7274195) (v := some (.int 0)) (h1 := ph_192) rfl rfl (fun _ => rfl) ?_ (Nat.le_of_ble_eq_true rfl) (Nat.le_of_ble_eq_true rfl) ?_
            · exact pq_92 a2 a3 a4 a5 ha5
            show px_T _ _ _ _ (2681, [(4, .int 0), (3, .ref 164), (2, .ref 136), (1, .ref 0), (0, .retAddr 0)], [.int 0], _) _ _ _
            refine pt_s (pc1 := 2683) (lv1 := [(5, .int 0), (4, .int 0), (3, .ref 164), (2, .ref 136), (1, .ref 0), (0, .retAddr 0)]) (st1 := []) rfl rfl (fun _ => rfl) ?_
            refine pt_s (pc1 := 2684) (st1 := [.ref 136]) rfl rfl (fun _ => rfl) ?_
            refine pt_s (pc1 := 2685) (st1 := [.retAddr 0, .ref 136]) rfl rfl (fun _ => rfl) ?_
            refine pt_s (pc1 := 2687) (st1 := [.int 0, .retAddr 0, .ref 136]) rfl rfl (fun _ => rfl) ?_
            refine pt_s (pc1 := 2688) (st1 := [.int 1, .int 0, .retAddr 0, .ref 136]) rfl rfl (fun _ => rfl) ?_
            refine pt_s (pc1 := 2689) (st1 := [.int 1, .retAddr 0, .ref 136]) rfl rfl (fun _ => rfl) ?_
            refine pt_s (pc1 := 2690) (st1 := [.int 0, .ref 136]) rfl rfl (fun _ => rfl) ?_
            refine pt_s (pc1 := 2691) (st1 := [.retAddr 0, .int 0, .ref 136]) rfl rfl (fun _ => rfl) ?_
            refine pt_s (pc1 := 2693) (st1 := [.int 0, .retAddr 0, .int 0, .ref 136]) rfl rfl (fun _ => rfl) ?_
            refine pt_s (pc1 := 2694) (st1 := [.int 2, .int 0, .retAddr 0, .int 0, .ref 136]) rfl rfl (fun _ => rfl) ?_
            refine pt_s (pc1 := 2695) (st1 := [.int 2, .retAddr 0, .int 0, .ref 136]) rfl rfl (fun _ => rfl) ?_
            refine pt_s (pc1 := 2696) (st1 := [.int a2, .int 0, .ref 136]) rfl rfl (fun _ => rfl) ?_
            refine pt_s (pc1 := 2697) (st1 := [.retAddr 0, .int a2, .int 0, .ref 136]) rfl rfl (fun _ => rfl) ?_
            refine pt_s (pc1 := 2699) (st1 := [.int 0, .retAddr 0, .int a2, .int 0, .ref 136]) rfl rfl (fun _ => rfl) ?_
            refine pt_s (pc1 := 2700) (st1 := [.int 3, .int 0, .retAddr 0, .int a2, .int 0, .ref 136]) rfl rfl (fun _ => rfl) ?_
            refine pt_s (pc1 := 2701) (st1 := [.int 3, .retAddr 0, .int a2, .int 0, .ref 136]) rfl rfl (fun _ => rfl) ?_
            refine pt_s (pc1 := 2702) (st1 := [.int a3, .int a2, .int 0, .ref 136]) rfl rfl (fun _ => rfl) ?_
            refine pt_s (pc1 := 2703) (st1 := [.retAddr 0, .int a3, .int a2, .int 0, .ref 136]) rfl rfl (fun _ => rfl) ?_
            refine pt_s (pc1 := 2705) (st1 := [.int 0, .retAddr 0, .int a3, .int a2, .int 0, .ref 136]) rfl rfl (fun _ => rfl) ?_
            refine pt_s (pc1 := 2706) (st1 := [.int 4, .int 0, .retAddr 0, .int a3, .int a2, .int 0, .ref 136]) rfl rfl (fun _ => rfl) ?_
            refine pt_s (pc1 := 2707) (st1 := [.int 4, .retAddr 0, .int a3, .int a2, .int 0, .ref 136]) rfl rfl (fun _ => rfl) ?_
            refine pt_s (pc1 := 2708) (st1 := [.int a4, .int a3, .int a2, .int 0, .ref 136]) rfl rfl (fun _ => rfl) ?_
            refine pt_s (pc1 := 2709) (st1 := [.retAddr 0, .int a4, .int a3, .int a2, .int 0, .ref 136]) rfl rfl (fun _ => rfl) ?_
            refine pt_s (pc1 := 2711) (st1 := [.int 0, .retAddr 0, .int a4, .int a3, .int a2, .int 0, .ref 136]) rfl rfl (fun _ => rfl) ?_
            refine pt_s (pc1 := 2712) (st1 := [.int 5, .int 0, .retAddr 0, .int a4, .int a3, .int a2, .int 0, .ref 136]) rfl rfl (fun _ => rfl) ?_
            refine pt_s (pc1 := 2713) (st1 := [.int 5, .retAddr 0, .int a4, .int a3, .int a2, .int 0, .ref 136]) rfl rfl (fun _ => rfl) ?_
            refine pt_s (pc1 := 2714) (st1 := [.int a5, .int a4, .int a3, .int a2, .int 0, .ref 136]) rfl rfl (fun _ => rfl) ?_
            refine pt_callv (N := pm_X10_wouldHold) (as := [.ref 136, .int 0, .int a2, .int a3, .int a4, .int a5]) (rest := []) (f := 2047) (l := 83975) (c1 := 0) (k1 := 0) (c2 := 599837) (k2 := 7274195) (v := some (.int 0)) (h1 := ph_192) rfl rfl (fun ex => px_inv_hs ex rfl rfl rfl pg_508 rfl rfl rfl rfl) ?_ (Nat.le_of_ble_eq_true rfl) (Nat.le_of_ble_eq_true rfl) ?_
            · exact pq_93 a2 a3 a4 a5 ha5
            show px_T _ _ _ _ (2717, [(5, .int 0), (4, .int 0), (3, .ref 164), (2, .ref 136), (1, .ref 0), (0, .retAddr 0)], [.int 0], _) _ _ _
            refine pt_s (pc1 := 2719) (lv1 := [(6, .int 0), (5, .int 0), (4, .int 0), (3, .ref 164), (2, .ref 136), (1, .ref 0), (0, .retAddr 0)]) (st1 := []) rfl rfl (fun _ => rfl) ?_
            refine pt_s (pc1 := 2720) (st1 := [.ref 136]) rfl rfl (fun _ => rfl) ?_
            refine pt_callv (N := pm_X10_thrown) (as := [.ref 136]) (rest := []) (f := 2047) (l := 83980) (c1 := 0) (k1 := 0) (c2 := 599837) (k2 := 7274195) (v := some (.int 0)) (h1 := ph_192) rfl rfl (fun ex => px_inv_hs ex rfl rfl rfl pg_508 rfl rfl rfl rfl) ?_ (Nat.le_of_ble_eq_true rfl) (Nat.le_of_ble_eq_true rfl) ?_
            · refine px_C_of rfl ?_
              refine pr_s (pc1 := 1) (st1 := [.ref 136]) rfl (fun _ => rfl) ?_
              refine pr_getf (pc1 := 4) (v := .int 0) rfl rfl pg_508 rfl rfl ?_
              exact pr_e rfl (fun _ => rfl) ⟨rfl, rfl⟩
            show px_T _ _ _ _ (2723, [(6, .int 0), (5, .int 0), (4, .int 0), (3, .ref 164), (2, .ref 136), (1, .ref 0), (0, .retAddr 0)], [.int 0], _) _ _ _
            refine pt_s (pc1 := 2725) (st1 := [.int 0, .int 0]) rfl rfl (fun _ => rfl) ?_
            refine pt_bt (t := 2730) (off := 5) (bb := decide ((0 : Int32) = 0)) (st1 := []) rfl rfl rfl rfl rfl (by decide) ?_
            refine pt_s (pc1 := 2732) (st1 := [.int 0]) rfl rfl (fun _ => rfl) ?_
            refine pt_bf (t := 2754) (off := 22) (bb := !decide ((0 : Int32) = 0)) (st1 := []) rfl rfl rfl rfl rfl (px_not_f (by decide)) ?_
            refine pt_s (pc1 := 2736) (st1 := [.ref 164]) rfl rfl (fun _ => rfl) ?_
            refine pt_s (pc1 := 2737) (st1 := [.int 0, .ref 164]) rfl rfl (fun _ => rfl) ?_
            refine pt_lald (pc1 := 2738) (x := 0) rfl pg_511 rfl rfl rfl ?_
            refine pt_s (pc1 := 2740) (st1 := [.int 0, .long 0]) rfl rfl (fun _ => rfl) ?_
            refine pt_bt (t := 2747) (off := 7) (bb := decide ((0 : Int32) = 0)) (st1 := [.long 0]) rfl rfl rfl rfl rfl (by decide) ?_
            refine pt_s (pc1 := 2748) (st1 := [.long 0, .long 0]) rfl rfl (fun _ => rfl) ?_
            refine pt_s (pc1 := 2749) (st1 := [.int 0]) rfl rfl (fun _ => rfl) ?_
            refine pt_bt (t := 2754) (off := 5) (bb := decide ((0 : Int32) = 0)) (st1 := []) rfl rfl rfl rfl rfl (by decide) ?_
            refine pt_s (pc1 := 2771) (st1 := []) rfl rfl (fun _ => rfl) ?_
            refine pt_s (pc1 := 2774) (lv1 := [(4, .int 6), (6, .int 0), (5, .int 0), (3, .ref 164), (2, .ref 136), (1, .ref 0), (0, .retAddr 0)]) (st1 := []) rfl rfl (fun _ => rfl) ?_
            refine pt_s (pc1 := 23) (st1 := []) rfl rfl (fun _ => rfl) ?_
            refine pt_s (pc1 := 25) (st1 := [.int 6]) rfl rfl (fun _ => rfl) ?_
            refine pt_s (pc1 := 26) (st1 := [.retAddr 0, .int 6]) rfl rfl (fun _ => rfl) ?_
            refine pt_s (pc1 := 27) (st1 := [.int 6, .int 6]) rfl rfl (fun _ => rfl) ?_
            refine pt_s (pc1 := 29) (st1 := [.int 6, .int 6, .int 6]) rfl rfl (fun _ => rfl) ?_
            refine pt_s (pc1 := 30) (st1 := [.int 0, .int 6]) rfl rfl (fun _ => rfl) ?_
            refine pt_bt (t := 2777) (off := 2747) (bb := decide ((0 : Int32) < (6 : Int32))) (st1 := []) rfl rfl rfl rfl rfl (by decide) ?_
            refine pt_s (pc1 := 2778) (st1 := [.int 1]) rfl rfl (fun _ => rfl) ?_
            exact pt_e rfl ⟨rfl, (rfl : px_ins pm_law 2778 = some (.ireturn, 1))⟩
          · obtain rfl : a1 = 1 := Int32.toInt_inj.mp (hc.trans rfl)
            refine pt_s (pc1 := 2646) (st1 := []) rfl rfl (fun _ => rfl) ?_
            refine pt_s (pc1 := 2647) (st1 := [.ref 0]) rfl rfl (fun _ => rfl) ?_
            refine pt_s (pc1 := 2648) (st1 := [.retAddr 0, .ref 0]) rfl rfl (fun _ => rfl) ?_
            refine pt_s (pc1 := 2650) (st1 := [.int 0, .retAddr 0, .ref 0]) rfl rfl (fun _ => rfl) ?_
            refine pt_s (pc1 := 2651) (st1 := [.int 1, .int 0, .retAddr 0, .ref 0]) rfl rfl (fun _ => rfl) ?_
            refine pt_s (pc1 := 2652) (st1 := [.int 1, .retAddr 0, .ref 0]) rfl rfl (fun _ => rfl) ?_
            refine pt_s (pc1 := 2653) (st1 := [.int 1, .ref 0]) rfl rfl (fun _ => rfl) ?_
            refine pt_s (pc1 := 2654) (st1 := [.retAddr 0, .int 1, .ref 0]) rfl rfl (fun _ => rfl) ?_
            refine pt_s (pc1 := 2656) (st1 := [.int 0, .retAddr 0, .int 1, .ref 0]) rfl rfl (fun _ => rfl) ?_
            refine pt_s (pc1 := 2657) (st1 := [.int 2, .int 0, .retAddr 0, .int 1, .ref 0]) rfl rfl (fun _ => rfl) ?_
            refine pt_s (pc1 := 2658) (st1 := [.int 2, .retAddr 0, .int 1, .ref 0]) rfl rfl (fun _ => rfl) ?_
            refine pt_s (pc1 := 2659) (st1 := [.int a2, .int 1, .ref 0]) rfl rfl (fun _ => rfl) ?_
            refine pt_s (pc1 := 2660) (st1 := [.retAddr 0, .int a2, .int 1, .ref 0]) rfl rfl (fun _ => rfl) ?_
            refine pt_s (pc1 := 2662) (st1 := [.int 0, .retAddr 0, .int a2, .int 1, .ref 0]) rfl rfl (fun _ => rfl) ?_
            refine pt_s (pc1 := 2663) (st1 := [.int 3, .int 0, .retAddr 0, .int a2, .int 1, .ref 0]) rfl rfl (fun _ => rfl) ?_
            refine pt_s (pc1 := 2664) (st1 := [.int 3, .retAddr 0, .int a2, .int 1, .ref 0]) rfl rfl (fun _ => rfl) ?_
            refine pt_s (pc1 := 2665) (st1 := [.int a3, .int a2, .int 1, .ref 0]) rfl rfl (fun _ => rfl) ?_
            refine pt_s (pc1 := 2666) (st1 := [.retAddr 0, .int a3, .int a2, .int 1, .ref 0]) rfl rfl (fun _ => rfl) ?_
            refine pt_s (pc1 := 2668) (st1 := [.int 0, .retAddr 0, .int a3, .int a2, .int 1, .ref 0]) rfl rfl (fun _ => rfl) ?_
            refine pt_s (pc1 := 2669) (st1 := [.int 4, .int 0, .retAddr 0, .int a3, .int a2, .int 1, .ref 0]) rfl rfl (fun _ => rfl) ?_
            refine pt_s (pc1 := 2670) (st1 := [.int 4, .retAddr 0, .int a3, .int a2, .int 1, .ref 0]) rfl rfl (fun _ => rfl) ?_
            refine pt_s (pc1 := 2671) (st1 := [.int a4, .int a3, .int a2, .int 1, .ref 0]) rfl rfl (fun _ => rfl) ?_
            refine pt_s (pc1 := 2672) (st1 := [.retAddr 0, .int a4, .int a3, .int a2, .int 1, .ref 0]) rfl rfl (fun _ => rfl) ?_
            refine pt_s (pc1 := 2674) (st1 := [.int 0, .retAddr 0, .int a4, .int a3, .int a2, .int 1, .ref 0]) rfl rfl (fun _ => rfl) ?_
            refine pt_s (pc1 := 2675) (st1 := [.int 5, .int 0, .retAddr 0, .int a4, .int a3, .int a2, .int 1, .ref 0]) rfl rfl (fun _ => rfl) ?_
            refine pt_s (pc1 := 2676) (st1 := [.int 5, .retAddr 0, .int a4, .int a3, .int a2, .int 1, .ref 0]) rfl rfl (fun _ => rfl) ?_
            refine pt_s (pc1 := 2677) (st1 := [.int a5, .int a4, .int a3, .int a2, .int 1, .ref 0]) rfl rfl (fun _ => rfl) ?_
            refine pt_s (pc1 := 2678) (st1 := [.ref 164, .int a5, .int a4, .int a3, .int a2, .int 1, .ref 0]) rfl rfl (fun _ => rfl) ?_
            refine pt_callv (N := pm_L_wouldHold) (as := [.ref 0, .int 1, .int a2, .int a3, .int a4, .int a5, .ref 164]) (rest := []) (f := 2047) (l := 83973) (c1 := 0) (k1 := 0) (c2 := 599837) (k2 := 7274195) (v := some (.int 0)) (h1 := ph_192) rfl rfl (fun _ => rfl) ?_ (Nat.le_of_ble_eq_true rfl) (Nat.le_of_ble_eq_true rfl) ?_
            · exact pq_95 a2 a3 a4 a5 ha5
            show px_T _ _ _ _ (2681, [(4, .int 0), (3, .ref 164), (2, .ref 136), (1, .ref 0), (0, .retAddr 0)], [.int 0], _) _ _ _
            refine pt_s (pc1 := 2683) (lv1 := [(5, .int 0), (4, .int 0), (3, .ref 164), (2, .ref 136), (1, .ref 0), (0, .retAddr 0)]) (st1 := []) rfl rfl (fun _ => rfl) ?_
            refine pt_s (pc1 := 2684) (st1 := [.ref 136]) rfl rfl (fun _ => rfl) ?_
            refine pt_s (pc1 := 2685) (st1 := [.retAddr 0, .ref 136]) rfl rfl (fun _ => rfl) ?_
            refine pt_s (pc1 := 2687) (st1 := [.int 0, .retAddr 0, .ref 136]) rfl rfl (fun _ => rfl) ?_
            refine pt_s (pc1 := 2688) (st1 := [.int 1, .int 0, .retAddr 0, .ref 136]) rfl rfl (fun _ => rfl) ?_
            refine pt_s (pc1 := 2689) (st1 := [.int 1, .retAddr 0, .ref 136]) rfl rfl (fun _ => rfl) ?_
            refine pt_s (pc1 := 2690) (st1 := [.int 1, .ref 136]) rfl rfl (fun _ => rfl) ?_
            refine pt_s (pc1 := 2691) (st1 := [.retAddr 0, .int 1, .ref 136]) rfl rfl (fun _ => rfl) ?_
            refine pt_s (pc1 := 2693) (st1 := [.int 0, .retAddr 0, .int 1, .ref 136]) rfl rfl (fun _ => rfl) ?_
            refine pt_s (pc1 := 2694) (st1 := [.int 2, .int 0, .retAddr 0, .int 1, .ref 136]) rfl rfl (fun _ => rfl) ?_
            refine pt_s (pc1 := 2695) (st1 := [.int 2, .retAddr 0, .int 1, .ref 136]) rfl rfl (fun _ => rfl) ?_
            refine pt_s (pc1 := 2696) (st1 := [.int a2, .int 1, .ref 136]) rfl rfl (fun _ => rfl) ?_
            refine pt_s (pc1 := 2697) (st1 := [.retAddr 0, .int a2, .int 1, .ref 136]) rfl rfl (fun _ => rfl) ?_
            refine pt_s (pc1 := 2699) (st1 := [.int 0, .retAddr 0, .int a2, .int 1, .ref 136]) rfl rfl (fun _ => rfl) ?_
            refine pt_s (pc1 := 2700) (st1 := [.int 3, .int 0, .retAddr 0, .int a2, .int 1, .ref 136]) rfl rfl (fun _ => rfl) ?_
            refine pt_s (pc1 := 2701) (st1 := [.int 3, .retAddr 0, .int a2, .int 1, .ref 136]) rfl rfl (fun _ => rfl) ?_
            refine pt_s (pc1 := 2702) (st1 := [.int a3, .int a2, .int 1, .ref 136]) rfl rfl (fun _ => rfl) ?_
            refine pt_s (pc1 := 2703) (st1 := [.retAddr 0, .int a3, .int a2, .int 1, .ref 136]) rfl rfl (fun _ => rfl) ?_
            refine pt_s (pc1 := 2705) (st1 := [.int 0, .retAddr 0, .int a3, .int a2, .int 1, .ref 136]) rfl rfl (fun _ => rfl) ?_
            refine pt_s (pc1 := 2706) (st1 := [.int 4, .int 0, .retAddr 0, .int a3, .int a2, .int 1, .ref 136]) rfl rfl (fun _ => rfl) ?_
            refine pt_s (pc1 := 2707) (st1 := [.int 4, .retAddr 0, .int a3, .int a2, .int 1, .ref 136]) rfl rfl (fun _ => rfl) ?_
            refine pt_s (pc1 := 2708) (st1 := [.int a4, .int a3, .int a2, .int 1, .ref 136]) rfl rfl (fun _ => rfl) ?_
            refine pt_s (pc1 := 2709) (st1 := [.retAddr 0, .int a4, .int a3, .int a2, .int 1, .ref 136]) rfl rfl (fun _ => rfl) ?_
            refine pt_s (pc1 := 2711) (st1 := [.int 0, .retAddr 0, .int a4, .int a3, .int a2, .int 1, .ref 136]) rfl rfl (fun _ => rfl) ?_
            refine pt_s (pc1 := 2712) (st1 := [.int 5, .int 0, .retAddr 0, .int a4, .int a3, .int a2, .int 1, .ref 136]) rfl rfl (fun _ => rfl) ?_
            refine pt_s (pc1 := 2713) (st1 := [.int 5, .retAddr 0, .int a4, .int a3, .int a2, .int 1, .ref 136]) rfl rfl (fun _ => rfl) ?_
            refine pt_s (pc1 := 2714) (st1 := [.int a5, .int a4, .int a3, .int a2, .int 1, .ref 136]) rfl rfl (fun _ => rfl) ?_
            refine pt_callv (N := pm_X10_wouldHold) (as := [.ref 136, .int 1, .int a2, .int a3, .int a4, .int a5]) (rest := []) (f := 2047) (l := 83975) (c1 := 0) (k1 := 0) (c2 := 599837) (k2 := 7274195) (v := some (.int 0)) (h1 := ph_192) rfl rfl (fun ex => px_inv_hs ex rfl rfl rfl pg_508 rfl rfl rfl rfl) ?_ (Nat.le_of_ble_eq_true rfl) (Nat.le_of_ble_eq_true rfl) ?_
            · exact pq_96 a2 a3 a4 a5 ha5
            show px_T _ _ _ _ (2717, [(5, .int 0), (4, .int 0), (3, .ref 164), (2, .ref 136), (1, .ref 0), (0, .retAddr 0)], [.int 0], _) _ _ _
            refine pt_s (pc1 := 2719) (lv1 := [(6, .int 0), (5, .int 0), (4, .int 0), (3, .ref 164), (2, .ref 136), (1, .ref 0), (0, .retAddr 0)]) (st1 := []) rfl rfl (fun _ => rfl) ?_
            refine pt_s (pc1 := 2720) (st1 := [.ref 136]) rfl rfl (fun _ => rfl) ?_
            refine pt_callv (N := pm_X10_thrown) (as := [.ref 136]) (rest := []) (f := 2047) (l := 83980) (c1 := 0) (k1 := 0) (c2 := 599837) (k2 := 7274195) (v := some (.int 0)) (h1 := ph_192) rfl rfl (fun ex => px_inv_hs ex rfl rfl rfl pg_508 rfl rfl rfl rfl) ?_ (Nat.le_of_ble_eq_true rfl) (Nat.le_of_ble_eq_true rfl) ?_
            · refine px_C_of rfl ?_
              refine pr_s (pc1 := 1) (st1 := [.ref 136]) rfl (fun _ => rfl) ?_
              refine pr_getf (pc1 := 4) (v := .int 0) rfl rfl pg_508 rfl rfl ?_
              exact pr_e rfl (fun _ => rfl) ⟨rfl, rfl⟩
            show px_T _ _ _ _ (2723, [(6, .int 0), (5, .int 0), (4, .int 0), (3, .ref 164), (2, .ref 136), (1, .ref 0), (0, .retAddr 0)], [.int 0], _) _ _ _
            refine pt_s (pc1 := 2725) (st1 := [.int 0, .int 0]) rfl rfl (fun _ => rfl) ?_
            refine pt_bt (t := 2730) (off := 5) (bb := decide ((0 : Int32) = 0)) (st1 := []) rfl rfl rfl rfl rfl (by decide) ?_
            refine pt_s (pc1 := 2732) (st1 := [.int 0]) rfl rfl (fun _ => rfl) ?_
            refine pt_bf (t := 2754) (off := 22) (bb := !decide ((0 : Int32) = 0)) (st1 := []) rfl rfl rfl rfl rfl (px_not_f (by decide)) ?_
            refine pt_s (pc1 := 2736) (st1 := [.ref 164]) rfl rfl (fun _ => rfl) ?_
            refine pt_s (pc1 := 2737) (st1 := [.int 0, .ref 164]) rfl rfl (fun _ => rfl) ?_
            refine pt_lald (pc1 := 2738) (x := 0) rfl pg_511 rfl rfl rfl ?_
            refine pt_s (pc1 := 2740) (st1 := [.int 0, .long 0]) rfl rfl (fun _ => rfl) ?_
            refine pt_bt (t := 2747) (off := 7) (bb := decide ((0 : Int32) = 0)) (st1 := [.long 0]) rfl rfl rfl rfl rfl (by decide) ?_
            refine pt_s (pc1 := 2748) (st1 := [.long 0, .long 0]) rfl rfl (fun _ => rfl) ?_
            refine pt_s (pc1 := 2749) (st1 := [.int 0]) rfl rfl (fun _ => rfl) ?_
            refine pt_bt (t := 2754) (off := 5) (bb := decide ((0 : Int32) = 0)) (st1 := []) rfl rfl rfl rfl rfl (by decide) ?_
            refine pt_s (pc1 := 2771) (st1 := []) rfl rfl (fun _ => rfl) ?_
            refine pt_s (pc1 := 2774) (lv1 := [(4, .int 6), (6, .int 0), (5, .int 0), (3, .ref 164), (2, .ref 136), (1, .ref 0), (0, .retAddr 0)]) (st1 := []) rfl rfl (fun _ => rfl) ?_
            refine pt_s (pc1 := 23) (st1 := []) rfl rfl (fun _ => rfl) ?_
            refine pt_s (pc1 := 25) (st1 := [.int 6]) rfl rfl (fun _ => rfl) ?_
            refine pt_s (pc1 := 26) (st1 := [.retAddr 0, .int 6]) rfl rfl (fun _ => rfl) ?_
            refine pt_s (pc1 := 27) (st1 := [.int 6, .int 6]) rfl rfl (fun _ => rfl) ?_
            refine pt_s (pc1 := 29) (st1 := [.int 6, .int 6, .int 6]) rfl rfl (fun _ => rfl) ?_
            refine pt_s (pc1 := 30) (st1 := [.int 0, .int 6]) rfl rfl (fun _ => rfl) ?_
            refine pt_bt (t := 2777) (off := 2747) (bb := decide ((0 : Int32) < (6 : Int32))) (st1 := []) rfl rfl rfl rfl rfl (by decide) ?_
            refine pt_s (pc1 := 2778) (st1 := [.int 1]) rfl rfl (fun _ => rfl) ?_
            exact pt_e rfl ⟨rfl, (rfl : px_ins pm_law 2778 = some (.ireturn, 1))⟩
          · obtain rfl : a1 = 2 := Int32.toInt_inj.mp (hc.trans rfl)
            refine pt_s (pc1 := 2646) (st1 := []) rfl rfl (fun _ => rfl) ?_
            refine pt_s (pc1 := 2647) (st1 := [.ref 0]) rfl rfl (fun _ => rfl) ?_
            refine pt_s (pc1 := 2648) (st1 := [.retAddr 0, .ref 0]) rfl rfl (fun _ => rfl) ?_
            refine pt_s (pc1 := 2650) (st1 := [.int 0, .retAddr 0, .ref 0]) rfl rfl (fun _ => rfl) ?_
            refine pt_s (pc1 := 2651) (st1 := [.int 1, .int 0, .retAddr 0, .ref 0]) rfl rfl (fun _ => rfl) ?_
            refine pt_s (pc1 := 2652) (st1 := [.int 1, .retAddr 0, .ref 0]) rfl rfl (fun _ => rfl) ?_
            refine pt_s (pc1 := 2653) (st1 := [.int 2, .ref 0]) rfl rfl (fun _ => rfl) ?_
            refine pt_s (pc1 := 2654) (st1 := [.retAddr 0, .int 2, .ref 0]) rfl rfl (fun _ => rfl) ?_
            refine pt_s (pc1 := 2656) (st1 := [.int 0, .retAddr 0, .int 2, .ref 0]) rfl rfl (fun _ => rfl) ?_
            refine pt_s (pc1 := 2657) (st1 := [.int 2, .int 0, .retAddr 0, .int 2, .ref 0]) rfl rfl (fun _ => rfl) ?_
            refine pt_s (pc1 := 2658) (st1 := [.int 2, .retAddr 0, .int 2, .ref 0]) rfl rfl (fun _ => rfl) ?_
            refine pt_s (pc1 := 2659) (st1 := [.int a2, .int 2, .ref 0]) rfl rfl (fun _ => rfl) ?_
            refine pt_s (pc1 := 2660) (st1 := [.retAddr 0, .int a2, .int 2, .ref 0]) rfl rfl (fun _ => rfl) ?_
            refine pt_s (pc1 := 2662) (st1 := [.int 0, .retAddr 0, .int a2, .int 2, .ref 0]) rfl rfl (fun _ => rfl) ?_
            refine pt_s (pc1 := 2663) (st1 := [.int 3, .int 0, .retAddr 0, .int a2, .int 2, .ref 0]) rfl rfl (fun _ => rfl) ?_
            refine pt_s (pc1 := 2664) (st1 := [.int 3, .retAddr 0, .int a2, .int 2, .ref 0]) rfl rfl (fun _ => rfl) ?_
            refine pt_s (pc1 := 2665) (st1 := [.int a3, .int a2, .int 2, .ref 0]) rfl rfl (fun _ => rfl) ?_
            refine pt_s (pc1 := 2666) (st1 := [.retAddr 0, .int a3, .int a2, .int 2, .ref 0]) rfl rfl (fun _ => rfl) ?_
            refine pt_s (pc1 := 2668) (st1 := [.int 0, .retAddr 0, .int a3, .int a2, .int 2, .ref 0]) rfl rfl (fun _ => rfl) ?_
            refine pt_s (pc1 := 2669) (st1 := [.int 4, .int 0, .retAddr 0, .int a3, .int a2, .int 2, .ref 0]) rfl rfl (fun _ => rfl) ?_
            refine pt_s (pc1 := 2670) (st1 := [.int 4, .retAddr 0, .int a3, .int a2, .int 2, .ref 0]) rfl rfl (fun _ => rfl) ?_
            refine pt_s (pc1 := 2671) (st1 := [.int a4, .int a3, .int a2, .int 2, .ref 0]) rfl rfl (fun _ => rfl) ?_
            refine pt_s (pc1 := 2672) (st1 := [.retAddr 0, .int a4, .int a3, .int a2, .int 2, .ref 0]) rfl rfl (fun _ => rfl) ?_
            refine pt_s (pc1 := 2674) (st1 := [.int 0, .retAddr 0, .int a4, .int a3, .int a2, .int 2, .ref 0]) rfl rfl (fun _ => rfl) ?_
            refine pt_s (pc1 := 2675) (st1 := [.int 5, .int 0, .retAddr 0, .int a4, .int a3, .int a2, .int 2, .ref 0]) rfl rfl (fun _ => rfl) ?_
            refine pt_s (pc1 := 2676) (st1 := [.int 5, .retAddr 0, .int a4, .int a3, .int a2, .int 2, .ref 0]) rfl rfl (fun _ => rfl) ?_
            refine pt_s (pc1 := 2677) (st1 := [.int a5, .int a4, .int a3, .int a2, .int 2, .ref 0]) rfl rfl (fun _ => rfl) ?_
            refine pt_s (pc1 := 2678) (st1 := [.ref 164, .int a5, .int a4, .int a3, .int a2, .int 2, .ref 0]) rfl rfl (fun _ => rfl) ?_
            refine pt_callv (N := pm_L_wouldHold) (as := [.ref 0, .int 2, .int a2, .int a3, .int a4, .int a5, .ref 164]) (rest := []) (f := 2047) (l := 83973) (c1 := 0) (k1 := 0) (c2 := 599837) (k2 := 7274195) (v := some (.int 0)) (h1 := ph_192) rfl rfl (fun _ => rfl) ?_ (Nat.le_of_ble_eq_true rfl) (Nat.le_of_ble_eq_true rfl) ?_
            · exact pq_98 a2 a3 a4 a5 ha5
            show px_T _ _ _ _ (2681, [(4, .int 0), (3, .ref 164), (2, .ref 136), (1, .ref 0), (0, .retAddr 0)], [.int 0], _) _ _ _
            refine pt_s (pc1 := 2683) (lv1 := [(5, .int 0), (4, .int 0), (3, .ref 164), (2, .ref 136), (1, .ref 0), (0, .retAddr 0)]) (st1 := []) rfl rfl (fun _ => rfl) ?_
            refine pt_s (pc1 := 2684) (st1 := [.ref 136]) rfl rfl (fun _ => rfl) ?_
            refine pt_s (pc1 := 2685) (st1 := [.retAddr 0, .ref 136]) rfl rfl (fun _ => rfl) ?_
            refine pt_s (pc1 := 2687) (st1 := [.int 0, .retAddr 0, .ref 136]) rfl rfl (fun _ => rfl) ?_
            refine pt_s (pc1 := 2688) (st1 := [.int 1, .int 0, .retAddr 0, .ref 136]) rfl rfl (fun _ => rfl) ?_
            refine pt_s (pc1 := 2689) (st1 := [.int 1, .retAddr 0, .ref 136]) rfl rfl (fun _ => rfl) ?_
            refine pt_s (pc1 := 2690) (st1 := [.int 2, .ref 136]) rfl rfl (fun _ => rfl) ?_
            refine pt_s (pc1 := 2691) (st1 := [.retAddr 0, .int 2, .ref 136]) rfl rfl (fun _ => rfl) ?_
            refine pt_s (pc1 := 2693) (st1 := [.int 0, .retAddr 0, .int 2, .ref 136]) rfl rfl (fun _ => rfl) ?_
            refine pt_s (pc1 := 2694) (st1 := [.int 2, .int 0, .retAddr 0, .int 2, .ref 136]) rfl rfl (fun _ => rfl) ?_
            refine pt_s (pc1 := 2695) (st1 := [.int 2, .retAddr 0, .int 2, .ref 136]) rfl rfl (fun _ => rfl) ?_
            refine pt_s (pc1 := 2696) (st1 := [.int a2, .int 2, .ref 136]) rfl rfl (fun _ => rfl) ?_
            refine pt_s (pc1 := 2697) (st1 := [.retAddr 0, .int a2, .int 2, .ref 136]) rfl rfl (fun _ => rfl) ?_
            refine pt_s (pc1 := 2699) (st1 := [.int 0, .retAddr 0, .int a2, .int 2, .ref 136]) rfl rfl (fun _ => rfl) ?_
            refine pt_s (pc1 := 2700) (st1 := [.int 3, .int 0, .retAddr 0, .int a2, .int 2, .ref 136]) rfl rfl (fun _ => rfl) ?_
            refine pt_s (pc1 := 2701) (st1 := [.int 3, .retAddr 0, .int a2, .int 2, .ref 136]) rfl rfl (fun _ => rfl) ?_
            refine pt_s (pc1 := 2702) (st1 := [.int a3, .int a2, .int 2, .ref 136]) rfl rfl (fun _ => rfl) ?_
            refine pt_s (pc1 := 2703) (st1 := [.retAddr 0, .int a3, .int a2, .int 2, .ref 136]) rfl rfl (fun _ => rfl) ?_
            refine pt_s (pc1 := 2705) (st1 := [.int 0, .retAddr 0, .int a3, .int a2, .int 2, .ref 136]) rfl rfl (fun _ => rfl) ?_
            refine pt_s (pc1 := 2706) (st1 := [.int 4, .int 0, .retAddr 0, .int a3, .int a2, .int 2, .ref 136]) rfl rfl (fun _ => rfl) ?_
            refine pt_s (pc1 := 2707) (st1 := [.int 4, .retAddr 0, .int a3, .int a2, .int 2, .ref 136]) rfl rfl (fun _ => rfl) ?_
            refine pt_s (pc1 := 2708) (st1 := [.int a4, .int a3, .int a2, .int 2, .ref 136]) rfl rfl (fun _ => rfl) ?_
            refine pt_s (pc1 := 2709) (st1 := [.retAddr 0, .int a4, .int a3, .int a2, .int 2, .ref 136]) rfl rfl (fun _ => rfl) ?_
            refine pt_s (pc1 := 2711) (st1 := [.int 0, .retAddr 0, .int a4, .int a3, .int a2, .int 2, .ref 136]) rfl rfl (fun _ => rfl) ?_
            refine pt_s (pc1 := 2712) (st1 := [.int 5, .int 0, .retAddr 0, .int a4, .int a3, .int a2, .int 2, .ref 136]) rfl rfl (fun _ => rfl) ?_
            refine pt_s (pc1 := 2713) (st1 := [.int 5, .retAddr 0, .int a4, .int a3, .int a2, .int 2, .ref 136]) rfl rfl (fun _ => rfl) ?_
            refine pt_s (pc1 := 2714) (st1 := [.int a5, .int a4, .int a3, .int a2, .int 2, .ref 136]) rfl rfl (fun _ => rfl) ?_
            refine pt_callv (N := pm_X10_wouldHold) (as := [.ref 136, .int 2, .int a2, .int a3, .int a4, .int a5]) (rest := []) (f := 2047) (l := 83975) (c1 := 0) (k1 := 0) (c2 := 599837) (k2 := 7274195) (v := some (.int 0)) (h1 := ph_192) rfl rfl (fun ex => px_inv_hs ex rfl rfl rfl pg_508 rfl rfl rfl rfl) ?_ (Nat.le_of_ble_eq_true rfl) (Nat.le_of_ble_eq_true rfl) ?_
            · exact pq_99 a2 a3 a4 a5 ha5
            show px_T _ _ _ _ (2717, [(5, .int 0), (4, .int 0), (3, .ref 164), (2, .ref 136), (1, .ref 0), (0, .retAddr 0)], [.int 0], _) _ _ _
            refine pt_s (pc1 := 2719) (lv1 := [(6, .int 0), (5, .int 0), (4, .int 0), (3, .ref 164), (2, .ref 136), (1, .ref 0), (0, .retAddr 0)]) (st1 := []) rfl rfl (fun _ => rfl) ?_
            refine pt_s (pc1 := 2720) (st1 := [.ref 136]) rfl rfl (fun _ => rfl) ?_
            refine pt_callv (N := pm_X10_thrown) (as := [.ref 136]) (rest := []) (f := 2047) (l := 83980) (c1 := 0) (k1 := 0) (c2 := 599837) (k2 := 7274195) (v := some (.int 0)) (h1 := ph_192) rfl rfl (fun ex => px_inv_hs ex rfl rfl rfl pg_508 rfl rfl rfl rfl) ?_ (Nat.le_of_ble_eq_true rfl) (Nat.le_of_ble_eq_true rfl) ?_
            · refine px_C_of rfl ?_
              refine pr_s (pc1 := 1) (st1 := [.ref 136]) rfl (fun _ => rfl) ?_
              refine pr_getf (pc1 := 4) (v := .int 0) rfl rfl pg_508 rfl rfl ?_
              exact pr_e rfl (fun _ => rfl) ⟨rfl, rfl⟩
            show px_T _ _ _ _ (2723, [(6, .int 0), (5, .int 0), (4, .int 0), (3, .ref 164), (2, .ref 136), (1, .ref 0), (0, .retAddr 0)], [.int 0], _) _ _ _
            refine pt_s (pc1 := 2725) (st1 := [.int 0, .int 0]) rfl rfl (fun _ => rfl) ?_
            refine pt_bt (t := 2730) (off := 5) (bb := decide ((0 : Int32) = 0)) (st1 := []) rfl rfl rfl rfl rfl (by decide) ?_
            refine pt_s (pc1 := 2732) (st1 := [.int 0]) rfl rfl (fun _ => rfl) ?_
            refine pt_bf (t := 2754) (off := 22) (bb := !decide ((0 : Int32) = 0)) (st1 := []) rfl rfl rfl rfl rfl (px_not_f (by decide)) ?_
            refine pt_s (pc1 := 2736) (st1 := [.ref 164]) rfl rfl (fun _ => rfl) ?_
            refine pt_s (pc1 := 2737) (st1 := [.int 0, .ref 164]) rfl rfl (fun _ => rfl) ?_
            refine pt_lald (pc1 := 2738) (x := 0) rfl pg_511 rfl rfl rfl ?_
            refine pt_s (pc1 := 2740) (st1 := [.int 0, .long 0]) rfl rfl (fun _ => rfl) ?_
            refine pt_bt (t := 2747) (off := 7) (bb := decide ((0 : Int32) = 0)) (st1 := [.long 0]) rfl rfl rfl rfl rfl (by decide) ?_
            refine pt_s (pc1 := 2748) (st1 := [.long 0, .long 0]) rfl rfl (fun _ => rfl) ?_
            refine pt_s (pc1 := 2749) (st1 := [.int 0]) rfl rfl (fun _ => rfl) ?_
            refine pt_bt (t := 2754) (off := 5) (bb := decide ((0 : Int32) = 0)) (st1 := []) rfl rfl rfl rfl rfl (by decide) ?_
            refine pt_s (pc1 := 2771) (st1 := []) rfl rfl (fun _ => rfl) ?_
            refine pt_s (pc1 := 2774) (lv1 := [(4, .int 6), (6, .int 0), (5, .int 0), (3, .ref 164), (2, .ref 136), (1, .ref 0), (0, .retAddr 0)]) (st1 := []) rfl rfl (fun _ => rfl) ?_
            refine pt_s (pc1 := 23) (st1 := []) rfl rfl (fun _ => rfl) ?_
            refine pt_s (pc1 := 25) (st1 := [.int 6]) rfl rfl (fun _ => rfl) ?_
            refine pt_s (pc1 := 26) (st1 := [.retAddr 0, .int 6]) rfl rfl (fun _ => rfl) ?_
            refine pt_s (pc1 := 27) (st1 := [.int 6, .int 6]) rfl rfl (fun _ => rfl) ?_
            refine pt_s (pc1 := 29) (st1 := [.int 6, .int 6, .int 6]) rfl rfl (fun _ => rfl) ?_
            refine pt_s (pc1 := 30) (st1 := [.int 0, .int 6]) rfl rfl (fun _ => rfl) ?_
            refine pt_bt (t := 2777) (off := 2747) (bb := decide ((0 : Int32) < (6 : Int32))) (st1 := []) rfl rfl rfl rfl rfl (by decide) ?_
            refine pt_s (pc1 := 2778) (st1 := [.int 1]) rfl rfl (fun _ => rfl) ?_
            exact pt_e rfl ⟨rfl, (rfl : px_ins pm_law 2778 = some (.ireturn, 1))⟩
          · obtain rfl : a1 = 3 := Int32.toInt_inj.mp (hc.trans rfl)
            refine pt_s (pc1 := 2646) (st1 := []) rfl rfl (fun _ => rfl) ?_
            refine pt_s (pc1 := 2647) (st1 := [.ref 0]) rfl rfl (fun _ => rfl) ?_
            refine pt_s (pc1 := 2648) (st1 := [.retAddr 0, .ref 0]) rfl rfl (fun _ => rfl) ?_
            refine pt_s (pc1 := 2650) (st1 := [.int 0, .retAddr 0, .ref 0]) rfl rfl (fun _ => rfl) ?_
            refine pt_s (pc1 := 2651) (st1 := [.int 1, .int 0, .retAddr 0, .ref 0]) rfl rfl (fun _ => rfl) ?_
            refine pt_s (pc1 := 2652) (st1 := [.int 1, .retAddr 0, .ref 0]) rfl rfl (fun _ => rfl) ?_
            refine pt_s (pc1 := 2653) (st1 := [.int 3, .ref 0]) rfl rfl (fun _ => rfl) ?_
            refine pt_s (pc1 := 2654) (st1 := [.retAddr 0, .int 3, .ref 0]) rfl rfl (fun _ => rfl) ?_
            refine pt_s (pc1 := 2656) (st1 := [.int 0, .retAddr 0, .int 3, .ref 0]) rfl rfl (fun _ => rfl) ?_
            refine pt_s (pc1 := 2657) (st1 := [.int 2, .int 0, .retAddr 0, .int 3, .ref 0]) rfl rfl (fun _ => rfl) ?_
            refine pt_s (pc1 := 2658) (st1 := [.int 2, .retAddr 0, .int 3, .ref 0]) rfl rfl (fun _ => rfl) ?_
            refine pt_s (pc1 := 2659) (st1 := [.int a2, .int 3, .ref 0]) rfl rfl (fun _ => rfl) ?_
            refine pt_s (pc1 := 2660) (st1 := [.retAddr 0, .int a2, .int 3, .ref 0]) rfl rfl (fun _ => rfl) ?_
            refine pt_s (pc1 := 2662) (st1 := [.int 0, .retAddr 0, .int a2, .int 3, .ref 0]) rfl rfl (fun _ => rfl) ?_
            refine pt_s (pc1 := 2663) (st1 := [.int 3, .int 0, .retAddr 0, .int a2, .int 3, .ref 0]) rfl rfl (fun _ => rfl) ?_
            refine pt_s (pc1 := 2664) (st1 := [.int 3, .retAddr 0, .int a2, .int 3, .ref 0]) rfl rfl (fun _ => rfl) ?_
            refine pt_s (pc1 := 2665) (st1 := [.int a3, .int a2, .int 3, .ref 0]) rfl rfl (fun _ => rfl) ?_
            refine pt_s (pc1 := 2666) (st1 := [.retAddr 0, .int a3, .int a2, .int 3, .ref 0]) rfl rfl (fun _ => rfl) ?_
            refine pt_s (pc1 := 2668) (st1 := [.int 0, .retAddr 0, .int a3, .int a2, .int 3, .ref 0]) rfl rfl (fun _ => rfl) ?_
            refine pt_s (pc1 := 2669) (st1 := [.int 4, .int 0, .retAddr 0, .int a3, .int a2, .int 3, .ref 0]) rfl rfl (fun _ => rfl) ?_
            refine pt_s (pc1 := 2670) (st1 := [.int 4, .retAddr 0, .int a3, .int a2, .int 3, .ref 0]) rfl rfl (fun _ => rfl) ?_
            refine pt_s (pc1 := 2671) (st1 := [.int a4, .int a3, .int a2, .int 3, .ref 0]) rfl rfl (fun _ => rfl) ?_
            refine pt_s (pc1 := 2672) (st1 := [.retAddr 0, .int a4, .int a3, .int a2, .int 3, .ref 0]) rfl rfl (fun _ => rfl) ?_
            refine pt_s (pc1 := 2674) (st1 := [.int 0, .retAddr 0, .int a4, .int a3, .int a2, .int 3, .ref 0]) rfl rfl (fun _ => rfl) ?_
            refine pt_s (pc1 := 2675) (st1 := [.int 5, .int 0, .retAddr 0, .int a4, .int a3, .int a2, .int 3, .ref 0]) rfl rfl (fun _ => rfl) ?_
            refine pt_s (pc1 := 2676) (st1 := [.int 5, .retAddr 0, .int a4, .int a3, .int a2, .int 3, .ref 0]) rfl rfl (fun _ => rfl) ?_
            refine pt_s (pc1 := 2677) (st1 := [.int a5, .int a4, .int a3, .int a2, .int 3, .ref 0]) rfl rfl (fun _ => rfl) ?_
            refine pt_s (pc1 := 2678) (st1 := [.ref 164, .int a5, .int a4, .int a3, .int a2, .int 3, .ref 0]) rfl rfl (fun _ => rfl) ?_
            refine pt_callv (N := pm_L_wouldHold) (as := [.ref 0, .int 3, .int a2, .int a3, .int a4, .int a5, .ref 164]) (rest := []) (f := 2047) (l := 83973) (c1 := 0) (k1 := 0) (c2 := 599837) (k2 := 7274195) (v := some (.int 0)) (h1 := ph_192) rfl rfl (fun _ => rfl) ?_ (Nat.le_of_ble_eq_true rfl) (Nat.le_of_ble_eq_true rfl) ?_
            · exact pq_101 a2 a3 a4 a5 ha5
            show px_T _ _ _ _ (2681, [(4, .int 0), (3, .ref 164), (2, .ref 136), (1, .ref 0), (0, .retAddr 0)], [.int 0], _) _ _ _
            refine pt_s (pc1 := 2683) (lv1 := [(5, .int 0), (4, .int 0), (3, .ref 164), (2, .ref 136), (1, .ref 0), (0, .retAddr 0)]) (st1 := []) rfl rfl (fun _ => rfl) ?_
            refine pt_s (pc1 := 2684) (st1 := [.ref 136]) rfl rfl (fun _ => rfl) ?_
            refine pt_s (pc1 := 2685) (st1 := [.retAddr 0, .ref 136]) rfl rfl (fun _ => rfl) ?_
            refine pt_s (pc1 := 2687) (st1 := [.int 0, .retAddr 0, .ref 136]) rfl rfl (fun _ => rfl) ?_
            refine pt_s (pc1 := 2688) (st1 := [.int 1, .int 0, .retAddr 0, .ref 136]) rfl rfl (fun _ => rfl) ?_
            refine pt_s (pc1 := 2689) (st1 := [.int 1, .retAddr 0, .ref 136]) rfl rfl (fun _ => rfl) ?_
            refine pt_s (pc1 := 2690) (st1 := [.int 3, .ref 136]) rfl rfl (fun _ => rfl) ?_
            refine pt_s (pc1 := 2691) (st1 := [.retAddr 0, .int 3, .ref 136]) rfl rfl (fun _ => rfl) ?_
            refine pt_s (pc1 := 2693) (st1 := [.int 0, .retAddr 0, .int 3, .ref 136]) rfl rfl (fun _ => rfl) ?_
            refine pt_s (pc1 := 2694) (st1 := [.int 2, .int 0, .retAddr 0, .int 3, .ref 136]) rfl rfl (fun _ => rfl) ?_
            refine pt_s (pc1 := 2695) (st1 := [.int 2, .retAddr 0, .int 3, .ref 136]) rfl rfl (fun _ => rfl) ?_
            refine pt_s (pc1 := 2696) (st1 := [.int a2, .int 3, .ref 136]) rfl rfl (fun _ => rfl) ?_
            refine pt_s (pc1 := 2697) (st1 := [.retAddr 0, .int a2, .int 3, .ref 136]) rfl rfl (fun _ => rfl) ?_
            refine pt_s (pc1 := 2699) (st1 := [.int 0, .retAddr 0, .int a2, .int 3, .ref 136]) rfl rfl (fun _ => rfl) ?_
            refine pt_s (pc1 := 2700) (st1 := [.int 3, .int 0, .retAddr 0, .int a2, .int 3, .ref 136]) rfl rfl (fun _ => rfl) ?_
            refine pt_s (pc1 := 2701) (st1 := [.int 3, .retAddr 0, .int a2, .int 3, .ref 136]) rfl rfl (fun _ => rfl) ?_
            refine pt_s (pc1 := 2702) (st1 := [.int a3, .int a2, .int 3, .ref 136]) rfl rfl (fun _ => rfl) ?_
            refine pt_s (pc1 := 2703) (st1 := [.retAddr 0, .int a3, .int a2, .int 3, .ref 136]) rfl rfl (fun _ => rfl) ?_
            refine pt_s (pc1 := 2705) (st1 := [.int 0, .retAddr 0, .int a3, .int a2, .int 3, .ref 136]) rfl rfl (fun _ => rfl) ?_
            refine pt_s (pc1 := 2706) (st1 := [.int 4, .int 0, .retAddr 0, .int a3, .int a2, .int 3, .ref 136]) rfl rfl (fun _ => rfl) ?_
            refine pt_s (pc1 := 2707) (st1 := [.int 4, .retAddr 0, .int a3, .int a2, .int 3, .ref 136]) rfl rfl (fun _ => rfl) ?_
            refine pt_s (pc1 := 2708) (st1 := [.int a4, .int a3, .int a2, .int 3, .ref 136]) rfl rfl (fun _ => rfl) ?_
            refine pt_s (pc1 := 2709) (st1 := [.retAddr 0, .int a4, .int a3, .int a2, .int 3, .ref 136]) rfl rfl (fun _ => rfl) ?_
            refine pt_s (pc1 := 2711) (st1 := [.int 0, .retAddr 0, .int a4, .int a3, .int a2, .int 3, .ref 136]) rfl rfl (fun _ => rfl) ?_
            refine pt_s (pc1 := 2712) (st1 := [.int 5, .int 0, .retAddr 0, .int a4, .int a3, .int a2, .int 3, .ref 136]) rfl rfl (fun _ => rfl) ?_
            refine pt_s (pc1 := 2713) (st1 := [.int 5, .retAddr 0, .int a4, .int a3, .int a2, .int 3, .ref 136]) rfl rfl (fun _ => rfl) ?_
            refine pt_s (pc1 := 2714) (st1 := [.int a5, .int a4, .int a3, .int a2, .int 3, .ref 136]) rfl rfl (fun _ => rfl) ?_
            refine pt_callv (N := pm_X10_wouldHold) (as := [.ref 136, .int 3, .int a2, .int a3, .int a4, .int a5]) (rest := []) (f := 2047) (l := 83975) (c1 := 0) (k1 := 0) (c2 := 599837) (k2 := 7274195) (v := some (.int 0)) (h1 := ph_192) rfl rfl (fun ex => px_inv_hs ex rfl rfl rfl pg_508 rfl rfl rfl rfl) ?_ (Nat.le_of_ble_eq_true rfl) (Nat.le_of_ble_eq_true rfl) ?_
            · exact pq_102 a2 a3 a4 a5 ha5
            show px_T _ _ _ _ (2717, [(5, .int 0), (4, .int 0), (3, .ref 164), (2, .ref 136), (1, .ref 0), (0, .retAddr 0)], [.int 0], _) _ _ _
            refine pt_s (pc1 := 2719) (lv1 := [(6, .int 0), (5, .int 0), (4, .int 0), (3, .ref 164), (2, .ref 136), (1, .ref 0), (0, .retAddr 0)]) (st1 := []) rfl rfl (fun _ => rfl) ?_
            refine pt_s (pc1 := 2720) (st1 := [.ref 136]) rfl rfl (fun _ => rfl) ?_
            refine pt_callv (N := pm_X10_thrown) (as := [.ref 136]) (rest := []) (f := 2047) (l := 83980) (c1 := 0) (k1 := 0) (c2 := 599837) (k2 := 7274195) (v := some (.int 0)) (h1 := ph_192) rfl rfl (fun ex => px_inv_hs ex rfl rfl rfl pg_508 rfl rfl rfl rfl) ?_ (Nat.le_of_ble_eq_true rfl) (Nat.le_of_ble_eq_true rfl) ?_
            · refine px_C_of rfl ?_
              refine pr_s (pc1 := 1) (st1 := [.ref 136]) rfl (fun _ => rfl) ?_
              refine pr_getf (pc1 := 4) (v := .int 0) rfl rfl pg_508 rfl rfl ?_
              exact pr_e rfl (fun _ => rfl) ⟨rfl, rfl⟩
            show px_T _ _ _ _ (2723, [(6, .int 0), (5, .int 0), (4, .int 0), (3, .ref 164), (2, .ref 136), (1, .ref 0), (0, .retAddr 0)], [.int 0], _) _ _ _
            refine pt_s (pc1 := 2725) (st1 := [.int 0, .int 0]) rfl rfl (fun _ => rfl) ?_
            refine pt_bt (t := 2730) (off := 5) (bb := decide ((0 : Int32) = 0)) (st1 := []) rfl rfl rfl rfl rfl (by decide) ?_
            refine pt_s (pc1 := 2732) (st1 := [.int 0]) rfl rfl (fun _ => rfl) ?_
            refine pt_bf (t := 2754) (off := 22) (bb := !decide ((0 : Int32) = 0)) (st1 := []) rfl rfl rfl rfl rfl (px_not_f (by decide)) ?_
            refine pt_s (pc1 := 2736) (st1 := [.ref 164]) rfl rfl (fun _ => rfl) ?_
            refine pt_s (pc1 := 2737) (st1 := [.int 0, .ref 164]) rfl rfl (fun _ => rfl) ?_
            refine pt_lald (pc1 := 2738) (x := 0) rfl pg_511 rfl rfl rfl ?_
            refine pt_s (pc1 := 2740) (st1 := [.int 0, .long 0]) rfl rfl (fun _ => rfl) ?_
            refine pt_bt (t := 2747) (off := 7) (bb := decide ((0 : Int32) = 0)) (st1 := [.long 0]) rfl rfl rfl rfl rfl (by decide) ?_
            refine pt_s (pc1 := 2748) (st1 := [.long 0, .long 0]) rfl rfl (fun _ => rfl) ?_
            refine pt_s (pc1 := 2749) (st1 := [.int 0]) rfl rfl (fun _ => rfl) ?_
            refine pt_bt (t := 2754) (off := 5) (bb := decide ((0 : Int32) = 0)) (st1 := []) rfl rfl rfl rfl rfl (by decide) ?_
            refine pt_s (pc1 := 2771) (st1 := []) rfl rfl (fun _ => rfl) ?_
            refine pt_s (pc1 := 2774) (lv1 := [(4, .int 6), (6, .int 0), (5, .int 0), (3, .ref 164), (2, .ref 136), (1, .ref 0), (0, .retAddr 0)]) (st1 := []) rfl rfl (fun _ => rfl) ?_
            refine pt_s (pc1 := 23) (st1 := []) rfl rfl (fun _ => rfl) ?_
            refine pt_s (pc1 := 25) (st1 := [.int 6]) rfl rfl (fun _ => rfl) ?_
            refine pt_s (pc1 := 26) (st1 := [.retAddr 0, .int 6]) rfl rfl (fun _ => rfl) ?_
            refine pt_s (pc1 := 27) (st1 := [.int 6, .int 6]) rfl rfl (fun _ => rfl) ?_
            refine pt_s (pc1 := 29) (st1 := [.int 6, .int 6, .int 6]) rfl rfl (fun _ => rfl) ?_
            refine pt_s (pc1 := 30) (st1 := [.int 0, .int 6]) rfl rfl (fun _ => rfl) ?_
            refine pt_bt (t := 2777) (off := 2747) (bb := decide ((0 : Int32) < (6 : Int32))) (st1 := []) rfl rfl rfl rfl rfl (by decide) ?_
            refine pt_s (pc1 := 2778) (st1 := [.int 1]) rfl rfl (fun _ => rfl) ?_
            exact pt_e rfl ⟨rfl, (rfl : px_ins pm_law 2778 = some (.ireturn, 1))⟩
          · obtain rfl : a1 = 4 := Int32.toInt_inj.mp (hc.trans rfl)
            refine pt_s (pc1 := 2646) (st1 := []) rfl rfl (fun _ => rfl) ?_
            refine pt_s (pc1 := 2647) (st1 := [.ref 0]) rfl rfl (fun _ => rfl) ?_
            refine pt_s (pc1 := 2648) (st1 := [.retAddr 0, .ref 0]) rfl rfl (fun _ => rfl) ?_
            refine pt_s (pc1 := 2650) (st1 := [.int 0, .retAddr 0, .ref 0]) rfl rfl (fun _ => rfl) ?_
            refine pt_s (pc1 := 2651) (st1 := [.int 1, .int 0, .retAddr 0, .ref 0]) rfl rfl (fun _ => rfl) ?_
            refine pt_s (pc1 := 2652) (st1 := [.int 1, .retAddr 0, .ref 0]) rfl rfl (fun _ => rfl) ?_
            refine pt_s (pc1 := 2653) (st1 := [.int 4, .ref 0]) rfl rfl (fun _ => rfl) ?_
            refine pt_s (pc1 := 2654) (st1 := [.retAddr 0, .int 4, .ref 0]) rfl rfl (fun _ => rfl) ?_
            refine pt_s (pc1 := 2656) (st1 := [.int 0, .retAddr 0, .int 4, .ref 0]) rfl rfl (fun _ => rfl) ?_
            refine pt_s (pc1 := 2657) (st1 := [.int 2, .int 0, .retAddr 0, .int 4, .ref 0]) rfl rfl (fun _ => rfl) ?_
            refine pt_s (pc1 := 2658) (st1 := [.int 2, .retAddr 0, .int 4, .ref 0]) rfl rfl (fun _ => rfl) ?_
            refine pt_s (pc1 := 2659) (st1 := [.int a2, .int 4, .ref 0]) rfl rfl (fun _ => rfl) ?_
            refine pt_s (pc1 := 2660) (st1 := [.retAddr 0, .int a2, .int 4, .ref 0]) rfl rfl (fun _ => rfl) ?_
            refine pt_s (pc1 := 2662) (st1 := [.int 0, .retAddr 0, .int a2, .int 4, .ref 0]) rfl rfl (fun _ => rfl) ?_
            refine pt_s (pc1 := 2663) (st1 := [.int 3, .int 0, .retAddr 0, .int a2, .int 4, .ref 0]) rfl rfl (fun _ => rfl) ?_
            refine pt_s (pc1 := 2664) (st1 := [.int 3, .retAddr 0, .int a2, .int 4, .ref 0]) rfl rfl (fun _ => rfl) ?_
            refine pt_s (pc1 := 2665) (st1 := [.int a3, .int a2, .int 4, .ref 0]) rfl rfl (fun _ => rfl) ?_
            refine pt_s (pc1 := 2666) (st1 := [.retAddr 0, .int a3, .int a2, .int 4, .ref 0]) rfl rfl (fun _ => rfl) ?_
            refine pt_s (pc1 := 2668) (st1 := [.int 0, .retAddr 0, .int a3, .int a2, .int 4, .ref 0]) rfl rfl (fun _ => rfl) ?_
            refine pt_s (pc1 := 2669) (st1 := [.int 4, .int 0, .retAddr 0, .int a3, .int a2, .int 4, .ref 0]) rfl rfl (fun _ => rfl) ?_
            refine pt_s (pc1 := 2670) (st1 := [.int 4, .retAddr 0, .int a3, .int a2, .int 4, .ref 0]) rfl rfl (fun _ => rfl) ?_
            refine pt_s (pc1 := 2671) (st1 := [.int a4, .int a3, .int a2, .int 4, .ref 0]) rfl rfl (fun _ => rfl) ?_
            refine pt_s (pc1 := 2672) (st1 := [.retAddr 0, .int a4, .int a3, .int a2, .int 4, .ref 0]) rfl rfl (fun _ => rfl) ?_
            refine pt_s (pc1 := 2674) (st1 := [.int 0, .retAddr 0, .int a4, .int a3, .int a2, .int 4, .ref 0]) rfl rfl (fun _ => rfl) ?_
            refine pt_s (pc1 := 2675) (st1 := [.int 5, .int 0, .retAddr 0, .int a4, .int a3, .int a2, .int 4, .ref 0]) rfl rfl (fun _ => rfl) ?_
            refine pt_s (pc1 := 2676) (st1 := [.int 5, .retAddr 0, .int a4, .int a3, .int a2, .int 4, .ref 0]) rfl rfl (fun _ => rfl) ?_
            refine pt_s (pc1 := 2677) (st1 := [.int a5, .int a4, .int a3, .int a2, .int 4, .ref 0]) rfl rfl (fun _ => rfl) ?_
            refine pt_s (pc1 := 2678) (st1 := [.ref 164, .int a5, .int a4, .int a3, .int a2, .int 4, .ref 0]) rfl rfl (fun _ => rfl) ?_
            refine pt_callv (N := pm_L_wouldHold) (as := [.ref 0, .int 4, .int a2, .int a3, .int a4, .int a5, .ref 164]) (rest := []) (f := 2047) (l := 83973) (c1 := 0) (k1 := 0) (c2 := 599837) (k2 := 7274195) (v := some (.int 0)) (h1 := ph_192) rfl rfl (fun _ => rfl) ?_ (Nat.le_of_ble_eq_true rfl) (Nat.le_of_ble_eq_true rfl) ?_
            · exact pq_104 a2 a3 a4 a5 ha5
            show px_T _ _ _ _ (2681, [(4, .int 0), (3, .ref 164), (2, .ref 136), (1, .ref 0), (0, .retAddr 0)], [.int 0], _) _ _ _
            refine pt_s (pc1 := 2683) (lv1 := [(5, .int 0), (4, .int 0), (3, .ref 164), (2, .ref 136), (1, .ref 0), (0, .retAddr 0)]) (st1 := []) rfl rfl (fun _ => rfl) ?_
            refine pt_s (pc1 := 2684) (st1 := [.ref 136]) rfl rfl (fun _ => rfl) ?_
            refine pt_s (pc1 := 2685) (st1 := [.retAddr 0, .ref 136]) rfl rfl (fun _ => rfl) ?_
            refine pt_s (pc1 := 2687) (st1 := [.int 0, .retAddr 0, .ref 136]) rfl rfl (fun _ => rfl) ?_
            refine pt_s (pc1 := 2688) (st1 := [.int 1, .int 0, .retAddr 0, .ref 136]) rfl rfl (fun _ => rfl) ?_
            refine pt_s (pc1 := 2689) (st1 := [.int 1, .retAddr 0, .ref 136]) rfl rfl (fun _ => rfl) ?_
            refine pt_s (pc1 := 2690) (st1 := [.int 4, .ref 136]) rfl rfl (fun _ => rfl) ?_
            refine pt_s (pc1 := 2691) (st1 := [.retAddr 0, .int 4, .ref 136]) rfl rfl (fun _ => rfl) ?_
            refine pt_s (pc1 := 2693) (st1 := [.int 0, .retAddr 0, .int 4, .ref 136]) rfl rfl (fun _ => rfl) ?_
            refine pt_s (pc1 := 2694) (st1 := [.int 2, .int 0, .retAddr 0, .int 4, .ref 136]) rfl rfl (fun _ => rfl) ?_
            refine pt_s (pc1 := 2695) (st1 := [.int 2, .retAddr 0, .int 4, .ref 136]) rfl rfl (fun _ => rfl) ?_
            refine pt_s (pc1 := 2696) (st1 := [.int a2, .int 4, .ref 136]) rfl rfl (fun _ => rfl) ?_
            refine pt_s (pc1 := 2697) (st1 := [.retAddr 0, .int a2, .int 4, .ref 136]) rfl rfl (fun _ => rfl) ?_
            refine pt_s (pc1 := 2699) (st1 := [.int 0, .retAddr 0, .int a2, .int 4, .ref 136]) rfl rfl (fun _ => rfl) ?_
            refine pt_s (pc1 := 2700) (st1 := [.int 3, .int 0, .retAddr 0, .int a2, .int 4, .ref 136]) rfl rfl (fun _ => rfl) ?_
            refine pt_s (pc1 := 2701) (st1 := [.int 3, .retAddr 0, .int a2, .int 4, .ref 136]) rfl rfl (fun _ => rfl) ?_
            refine pt_s (pc1 := 2702) (st1 := [.int a3, .int a2, .int 4, .ref 136]) rfl rfl (fun _ => rfl) ?_
            refine pt_s (pc1 := 2703) (st1 := [.retAddr 0, .int a3, .int a2, .int 4, .ref 136]) rfl rfl (fun _ => rfl) ?_
            refine pt_s (pc1 := 2705) (st1 := [.int 0, .retAddr 0, .int a3, .int a2, .int 4, .ref 136]) rfl rfl (fun _ => rfl) ?_
            refine pt_s (pc1 := 2706) (st1 := [.int 4, .int 0, .retAddr 0, .int a3, .int a2, .int 4, .ref 136]) rfl rfl (fun _ => rfl) ?_
            refine pt_s (pc1 := 2707) (st1 := [.int 4, .retAddr 0, .int a3, .int a2, .int 4, .ref 136]) rfl rfl (fun _ => rfl) ?_
            refine pt_s (pc1 := 2708) (st1 := [.int a4, .int a3, .int a2, .int 4, .ref 136]) rfl rfl (fun _ => rfl) ?_
            refine pt_s (pc1 := 2709) (st1 := [.retAddr 0, .int a4, .int a3, .int a2, .int 4, .ref 136]) rfl rfl (fun _ => rfl) ?_
            refine pt_s (pc1 := 2711) (st1 := [.int 0, .retAddr 0, .int a4, .int a3, .int a2, .int 4, .ref 136]) rfl rfl (fun _ => rfl) ?_
            refine pt_s (pc1 := 2712) (st1 := [.int 5, .int 0, .retAddr 0, .int a4, .int a3, .int a2, .int 4, .ref 136]) rfl rfl (fun _ => rfl) ?_
            refine pt_s (pc1 := 2713) (st1 := [.int 5, .retAddr 0, .int a4, .int a3, .int a2, .int 4, .ref 136]) rfl rfl (fun _ => rfl) ?_
            refine pt_s (pc1 := 2714) (st1 := [.int a5, .int a4, .int a3, .int a2, .int 4, .ref 136]) rfl rfl (fun _ => rfl) ?_
            refine pt_callv (N := pm_X10_wouldHold) (as := [.ref 136, .int 4, .int a2, .int a3, .int a4, .int a5]) (rest := []) (f := 2047) (l := 83975) (c1 := 0) (k1 := 0) (c2 := 599837) (k2 := 7274195) (v := some (.int 0)) (h1 := ph_192) rfl rfl (fun ex => px_inv_hs ex rfl rfl rfl pg_508 rfl rfl rfl rfl) ?_ (Nat.le_of_ble_eq_true rfl) (Nat.le_of_ble_eq_true rfl) ?_
            · exact pq_105 a2 a3 a4 a5 ha5
            show px_T _ _ _ _ (2717, [(5, .int 0), (4, .int 0), (3, .ref 164), (2, .ref 136), (1, .ref 0), (0, .retAddr 0)], [.int 0], _) _ _ _
            refine pt_s (pc1 := 2719) (lv1 := [(6, .int 0), (5, .int 0), (4, .int 0), (3, .ref 164), (2, .ref 136), (1, .ref 0), (0, .retAddr 0)]) (st1 := []) rfl rfl (fun _ => rfl) ?_
            refine pt_s (pc1 := 2720) (st1 := [.ref 136]) rfl rfl (fun _ => rfl) ?_
            refine pt_callv (N := pm_X10_thrown) (as := [.ref 136]) (rest := []) (f := 2047) (l := 83980) (c1 := 0) (k1 := 0) (c2 := 599837) (k2 := 7274195) (v := some (.int 0)) (h1 := ph_192) rfl rfl (fun ex => px_inv_hs ex rfl rfl rfl pg_508 rfl rfl rfl rfl) ?_ (Nat.le_of_ble_eq_true rfl) (Nat.le_of_ble_eq_true rfl) ?_
            · refine px_C_of rfl ?_
              refine pr_s (pc1 := 1) (st1 := [.ref 136]) rfl (fun _ => rfl) ?_
              refine pr_getf (pc1 := 4) (v := .int 0) rfl rfl pg_508 rfl rfl ?_
              exact pr_e rfl (fun _ => rfl) ⟨rfl, rfl⟩
            show px_T _ _ _ _ (2723, [(6, .int 0), (5, .int 0), (4, .int 0), (3, .ref 164), (2, .ref 136), (1, .ref 0), (0, .retAddr 0)], [.int 0], _) _ _ _
            refine pt_s (pc1 := 2725) (st1 := [.int 0, .int 0]) rfl rfl (fun _ => rfl) ?_
            refine pt_bt (t := 2730) (off := 5) (bb := decide ((0 : Int32) = 0)) (st1 := []) rfl rfl rfl rfl rfl (by decide) ?_
            refine pt_s (pc1 := 2732) (st1 := [.int 0]) rfl rfl (fun _ => rfl) ?_
            refine pt_bf (t := 2754) (off := 22) (bb := !decide ((0 : Int32) = 0)) (st1 := []) rfl rfl rfl rfl rfl (px_not_f (by decide)) ?_
            refine pt_s (pc1 := 2736) (st1 := [.ref 164]) rfl rfl (fun _ => rfl) ?_
            refine pt_s (pc1 := 2737) (st1 := [.int 0, .ref 164]) rfl rfl (fun _ => rfl) ?_
            refine pt_lald (pc1 := 2738) (x := 0) rfl pg_511 rfl rfl rfl ?_
            refine pt_s (pc1 := 2740) (st1 := [.int 0, .long 0]) rfl rfl (fun _ => rfl) ?_
            refine pt_bt (t := 2747) (off := 7) (bb := decide ((0 : Int32) = 0)) (st1 := [.long 0]) rfl rfl rfl rfl rfl (by decide) ?_
            refine pt_s (pc1 := 2748) (st1 := [.long 0, .long 0]) rfl rfl (fun _ => rfl) ?_
            refine pt_s (pc1 := 2749) (st1 := [.int 0]) rfl rfl (fun _ => rfl) ?_
            refine pt_bt (t := 2754) (off := 5) (bb := decide ((0 : Int32) = 0)) (st1 := []) rfl rfl rfl rfl rfl (by decide) ?_
            refine pt_s (pc1 := 2771) (st1 := []) rfl rfl (fun _ => rfl) ?_
            refine pt_s (pc1 := 2774) (lv1 := [(4, .int 6), (6, .int 0), (5, .int 0), (3, .ref 164), (2, .ref 136), (1, .ref 0), (0, .retAddr 0)]) (st1 := []) rfl rfl (fun _ => rfl) ?_
            refine pt_s (pc1 := 23) (st1 := []) rfl rfl (fun _ => rfl) ?_
            refine pt_s (pc1 := 25) (st1 := [.int 6]) rfl rfl (fun _ => rfl) ?_
            refine pt_s (pc1 := 26) (st1 := [.retAddr 0, .int 6]) rfl rfl (fun _ => rfl) ?_
            refine pt_s (pc1 := 27) (st1 := [.int 6, .int 6]) rfl rfl (fun _ => rfl) ?_
            refine pt_s (pc1 := 29) (st1 := [.int 6, .int 6, .int 6]) rfl rfl (fun _ => rfl) ?_
            refine pt_s (pc1 := 30) (st1 := [.int 0, .int 6]) rfl rfl (fun _ => rfl) ?_
            refine pt_bt (t := 2777) (off := 2747) (bb := decide ((0 : Int32) < (6 : Int32))) (st1 := []) rfl rfl rfl rfl rfl (by decide) ?_
            refine pt_s (pc1 := 2778) (st1 := [.int 1]) rfl rfl (fun _ => rfl) ?_
            exact pt_e rfl ⟨rfl, (rfl : px_ins pm_law 2778 = some (.ireturn, 1))⟩
          · obtain rfl : a1 = 5 := Int32.toInt_inj.mp (hc.trans rfl)
            refine pt_s (pc1 := 2646) (st1 := []) rfl rfl (fun _ => rfl) ?_
            refine pt_s (pc1 := 2647) (st1 := [.ref 0]) rfl rfl (fun _ => rfl) ?_
            refine pt_s (pc1 := 2648) (st1 := [.retAddr 0, .ref 0]) rfl rfl (fun _ => rfl) ?_
            refine pt_s (pc1 := 2650) (st1 := [.int 0, .retAddr 0, .ref 0]) rfl rfl (fun _ => rfl) ?_
            refine pt_s (pc1 := 2651) (st1 := [.int 1, .int 0, .retAddr 0, .ref 0]) rfl rfl (fun _ => rfl) ?_
            refine pt_s (pc1 := 2652) (st1 := [.int 1, .retAddr 0, .ref 0]) rfl rfl (fun _ => rfl) ?_
            refine pt_s (pc1 := 2653) (st1 := [.int 5, .ref 0]) rfl rfl (fun _ => rfl) ?_
            refine pt_s (pc1 := 2654) (st1 := [.retAddr 0, .int 5, .ref 0]) rfl rfl (fun _ => rfl) ?_
            refine pt_s (pc1 := 2656) (st1 := [.int 0, .retAddr 0, .int 5, .ref 0]) rfl rfl (fun _ => rfl) ?_
            refine pt_s (pc1 := 2657) (st1 := [.int 2, .int 0, .retAddr 0, .int 5, .ref 0]) rfl rfl (fun _ => rfl) ?_
            refine pt_s (pc1 := 2658) (st1 := [.int 2, .retAddr 0, .int 5, .ref 0]) rfl rfl (fun _ => rfl) ?_
            refine pt_s (pc1 := 2659) (st1 := [.int a2, .int 5, .ref 0]) rfl rfl (fun _ => rfl) ?_
            refine pt_s (pc1 := 2660) (st1 := [.retAddr 0, .int a2, .int 5, .ref 0]) rfl rfl (fun _ => rfl) ?_
            refine pt_s (pc1 := 2662) (st1 := [.int 0, .retAddr 0, .int a2, .int 5, .ref 0]) rfl rfl (fun _ => rfl) ?_
            refine pt_s (pc1 := 2663) (st1 := [.int 3, .int 0, .retAddr 0, .int a2, .int 5, .ref 0]) rfl rfl (fun _ => rfl) ?_
            refine pt_s (pc1 := 2664) (st1 := [.int 3, .retAddr 0, .int a2, .int 5, .ref 0]) rfl rfl (fun _ => rfl) ?_
            refine pt_s (pc1 := 2665) (st1 := [.int a3, .int a2, .int 5, .ref 0]) rfl rfl (fun _ => rfl) ?_
            refine pt_s (pc1 := 2666) (st1 := [.retAddr 0, .int a3, .int a2, .int 5, .ref 0]) rfl rfl (fun _ => rfl) ?_
            refine pt_s (pc1 := 2668) (st1 := [.int 0, .retAddr 0, .int a3, .int a2, .int 5, .ref 0]) rfl rfl (fun _ => rfl) ?_
            refine pt_s (pc1 := 2669) (st1 := [.int 4, .int 0, .retAddr 0, .int a3, .int a2, .int 5, .ref 0]) rfl rfl (fun _ => rfl) ?_
            refine pt_s (pc1 := 2670) (st1 := [.int 4, .retAddr 0, .int a3, .int a2, .int 5, .ref 0]) rfl rfl (fun _ => rfl) ?_
            refine pt_s (pc1 := 2671) (st1 := [.int a4, .int a3, .int a2, .int 5, .ref 0]) rfl rfl (fun _ => rfl) ?_
            refine pt_s (pc1 := 2672) (st1 := [.retAddr 0, .int a4, .int a3, .int a2, .int 5, .ref 0]) rfl rfl (fun _ => rfl) ?_
            refine pt_s (pc1 := 2674) (st1 := [.int 0, .retAddr 0, .int a4, .int a3, .int a2, .int 5, .ref 0]) rfl rfl (fun _ => rfl) ?_
            refine pt_s (pc1 := 2675) (st1 := [.int 5, .int 0, .retAddr 0, .int a4, .int a3, .int a2, .int 5, .ref 0]) rfl rfl (fun _ => rfl) ?_
            refine pt_s (pc1 := 2676) (st1 := [.int 5, .retAddr 0, .int a4, .int a3, .int a2, .int 5, .ref 0]) rfl rfl (fun _ => rfl) ?_
            refine pt_s (pc1 := 2677) (st1 := [.int a5, .int a4, .int a3, .int a2, .int 5, .ref 0]) rfl rfl (fun _ => rfl) ?_
            refine pt_s (pc1 := 2678) (st1 := [.ref 164, .int a5, .int a4, .int a3, .int a2, .int 5, .ref 0]) rfl rfl (fun _ => rfl) ?_
            refine pt_callv (N := pm_L_wouldHold) (as := [.ref 0, .int 5, .int a2, .int a3, .int a4, .int a5, .ref 164]) (rest := []) (f := 2047) (l := 83973) (c1 := 0) (k1 := 0) (c2 := 599837) (k2 := 7274195) (v := some (.int 0)) (h1 := ph_192) rfl rfl (fun _ => rfl) ?_ (Nat.le_of_ble_eq_true rfl) (Nat.le_of_ble_eq_true rfl) ?_
            · exact pq_107 a2 a3 a4 a5 ha5
            show px_T _ _ _ _ (2681, [(4, .int 0), (3, .ref 164), (2, .ref 136), (1, .ref 0), (0, .retAddr 0)], [.int 0], _) _ _ _
            refine pt_s (pc1 := 2683) (lv1 := [(5, .int 0), (4, .int 0), (3, .ref 164), (2, .ref 136), (1, .ref 0), (0, .retAddr 0)]) (st1 := []) rfl rfl (fun _ => rfl) ?_
            refine pt_s (pc1 := 2684) (st1 := [.ref 136]) rfl rfl (fun _ => rfl) ?_
            refine pt_s (pc1 := 2685) (st1 := [.retAddr 0, .ref 136]) rfl rfl (fun _ => rfl) ?_
            refine pt_s (pc1 := 2687) (st1 := [.int 0, .retAddr 0, .ref 136]) rfl rfl (fun _ => rfl) ?_
            refine pt_s (pc1 := 2688) (st1 := [.int 1, .int 0, .retAddr 0, .ref 136]) rfl rfl (fun _ => rfl) ?_
            refine pt_s (pc1 := 2689) (st1 := [.int 1, .retAddr 0, .ref 136]) rfl rfl (fun _ => rfl) ?_
            refine pt_s (pc1 := 2690) (st1 := [.int 5, .ref 136]) rfl rfl (fun _ => rfl) ?_
            refine pt_s (pc1 := 2691) (st1 := [.retAddr 0, .int 5, .ref 136]) rfl rfl (fun _ => rfl) ?_
            refine pt_s (pc1 := 2693) (st1 := [.int 0, .retAddr 0, .int 5, .ref 136]) rfl rfl (fun _ => rfl) ?_
            refine pt_s (pc1 := 2694) (st1 := [.int 2, .int 0, .retAddr 0, .int 5, .ref 136]) rfl rfl (fun _ => rfl) ?_
            refine pt_s (pc1 := 2695) (st1 := [.int 2, .retAddr 0, .int 5, .ref 136]) rfl rfl (fun _ => rfl) ?_
            refine pt_s (pc1 := 2696) (st1 := [.int a2, .int 5, .ref 136]) rfl rfl (fun _ => rfl) ?_
            refine pt_s (pc1 := 2697) (st1 := [.retAddr 0, .int a2, .int 5, .ref 136]) rfl rfl (fun _ => rfl) ?_
            refine pt_s (pc1 := 2699) (st1 := [.int 0, .retAddr 0, .int a2, .int 5, .ref 136]) rfl rfl (fun _ => rfl) ?_
            refine pt_s (pc1 := 2700) (st1 := [.int 3, .int 0, .retAddr 0, .int a2, .int 5, .ref 136]) rfl rfl (fun _ => rfl) ?_
            refine pt_s (pc1 := 2701) (st1 := [.int 3, .retAddr 0, .int a2, .int 5, .ref 136]) rfl rfl (fun _ => rfl) ?_
            refine pt_s (pc1 := 2702) (st1 := [.int a3, .int a2, .int 5, .ref 136]) rfl rfl (fun _ => rfl) ?_
            refine pt_s (pc1 := 2703) (st1 := [.retAddr 0, .int a3, .int a2, .int 5, .ref 136]) rfl rfl (fun _ => rfl) ?_
            refine pt_s (pc1 := 2705) (st1 := [.int 0, .retAddr 0, .int a3, .int a2, .int 5, .ref 136]) rfl rfl (fun _ => rfl) ?_
            refine pt_s (pc1 := 2706) (st1 := [.int 4, .int 0, .retAddr 0, .int a3, .int a2, .int 5, .ref 136]) rfl rfl (fun _ => rfl) ?_
            refine pt_s (pc1 := 2707) (st1 := [.int 4, .retAddr 0, .int a3, .int a2, .int 5, .ref 136]) rfl rfl (fun _ => rfl) ?_
            refine pt_s (pc1 := 2708) (st1 := [.int a4, .int a3, .int a2, .int 5, .ref 136]) rfl rfl (fun _ => rfl) ?_
            refine pt_s (pc1 := 2709) (st1 := [.retAddr 0, .int a4, .int a3, .int a2, .int 5, .ref 136]) rfl rfl (fun _ => rfl) ?_
            refine pt_s (pc1 := 2711) (st1 := [.int 0, .retAddr 0, .int a4, .int a3, .int a2, .int 5, .ref 136]) rfl rfl (fun _ => rfl) ?_
            refine pt_s (pc1 := 2712) (st1 := [.int 5, .int 0, .retAddr 0, .int a4, .int a3, .int a2, .int 5, .ref 136]) rfl rfl (fun _ => rfl) ?_
            refine pt_s (pc1 := 2713) (st1 := [.int 5, .retAddr 0, .int a4, .int a3, .int a2, .int 5, .ref 136]) rfl rfl (fun _ => rfl) ?_
            refine pt_s (pc1 := 2714) (st1 := [.int a5, .int a4, .int a3, .int a2, .int 5, .ref 136]) rfl rfl (fun _ => rfl) ?_
            refine pt_callv (N := pm_X10_wouldHold) (as := [.ref 136, .int 5, .int a2, .int a3, .int a4, .int a5]) (rest := []) (f := 2047) (l := 83975) (c1 := 0) (k1 := 0) (c2 := 599837) (k2 := 7274195) (v := some (.int 0)) (h1 := ph_192) rfl rfl (fun ex => px_inv_hs ex rfl rfl rfl pg_508 rfl rfl rfl rfl) ?_ (Nat.le_of_ble_eq_true rfl) (Nat.le_of_ble_eq_true rfl) ?_
            · exact pq_108 a2 a3 a4 a5 ha5
            show px_T _ _ _ _ (2717, [(5, .int 0), (4, .int 0), (3, .ref 164), (2, .ref 136), (1, .ref 0), (0, .retAddr 0)], [.int 0], _) _ _ _
            refine pt_s (pc1 := 2719) (lv1 := [(6, .int 0), (5, .int 0), (4, .int 0), (3, .ref 164), (2, .ref 136), (1, .ref 0), (0, .retAddr 0)]) (st1 := []) rfl rfl (fun _ => rfl) ?_
            refine pt_s (pc1 := 2720) (st1 := [.ref 136]) rfl rfl (fun _ => rfl) ?_
            refine pt_callv (N := pm_X10_thrown) (as := [.ref 136]) (rest := []) (f := 2047) (l := 83980) (c1 := 0) (k1 := 0) (c2 := 599837) (k2 := 7274195) (v := some (.int 0)) (h1 := ph_192) rfl rfl (fun ex => px_inv_hs ex rfl rfl rfl pg_508 rfl rfl rfl rfl) ?_ (Nat.le_of_ble_eq_true rfl) (Nat.le_of_ble_eq_true rfl) ?_
            · refine px_C_of rfl ?_
              refine pr_s (pc1 := 1) (st1 := [.ref 136]) rfl (fun _ => rfl) ?_
              refine pr_getf (pc1 := 4) (v := .int 0) rfl rfl pg_508 rfl rfl ?_
              exact pr_e rfl (fun _ => rfl) ⟨rfl, rfl⟩
            show px_T _ _ _ _ (2723, [(6, .int 0), (5, .int 0), (4, .int 0), (3, .ref 164), (2, .ref 136), (1, .ref 0), (0, .retAddr 0)], [.int 0], _) _ _ _
            refine pt_s (pc1 := 2725) (st1 := [.int 0, .int 0]) rfl rfl (fun _ => rfl) ?_
            refine pt_bt (t := 2730) (off := 5) (bb := decide ((0 : Int32) = 0)) (st1 := []) rfl rfl rfl rfl rfl (by decide) ?_
            refine pt_s (pc1 := 2732) (st1 := [.int 0]) rfl rfl (fun _ => rfl) ?_
            refine pt_bf (t := 2754) (off := 22) (bb := !decide ((0 : Int32) = 0)) (st1 := []) rfl rfl rfl rfl rfl (px_not_f (by decide)) ?_
            refine pt_s (pc1 := 2736) (st1 := [.ref 164]) rfl rfl (fun _ => rfl) ?_
            refine pt_s (pc1 := 2737) (st1 := [.int 0, .ref 164]) rfl rfl (fun _ => rfl) ?_
            refine pt_lald (pc1 := 2738) (x := 0) rfl pg_511 rfl rfl rfl ?_
            refine pt_s (pc1 := 2740) (st1 := [.int 0, .long 0]) rfl rfl (fun _ => rfl) ?_
            refine pt_bt (t := 2747) (off := 7) (bb := decide ((0 : Int32) = 0)) (st1 := [.long 0]) rfl rfl rfl rfl rfl (by decide) ?_
            refine pt_s (pc1 := 2748) (st1 := [.long 0, .long 0]) rfl rfl (fun _ => rfl) ?_
            refine pt_s (pc1 := 2749) (st1 := [.int 0]) rfl rfl (fun _ => rfl) ?_
            refine pt_bt (t := 2754) (off := 5) (bb := decide ((0 : Int32) = 0)) (st1 := []) rfl rfl rfl rfl rfl (by decide) ?_
            refine pt_s (pc1 := 2771) (st1 := []) rfl rfl (fun _ => rfl) ?_
            refine pt_s (pc1 := 2774) (lv1 := [(4, .int 6), (6, .int 0), (5, .int 0), (3, .ref 164), (2, .ref 136), (1, .ref 0), (0, .retAddr 0)]) (st1 := []) rfl rfl (fun _ => rfl) ?_
            refine pt_s (pc1 := 23) (st1 := []) rfl rfl (fun _ => rfl) ?_
            refine pt_s (pc1 := 25) (st1 := [.int 6]) rfl rfl (fun _ => rfl) ?_
            refine pt_s (pc1 := 26) (st1 := [.retAddr 0, .int 6]) rfl rfl (fun _ => rfl) ?_
            refine pt_s (pc1 := 27) (st1 := [.int 6, .int 6]) rfl rfl (fun _ => rfl) ?_
            refine pt_s (pc1 := 29) (st1 := [.int 6, .int 6, .int 6]) rfl rfl (fun _ => rfl) ?_
            refine pt_s (pc1 := 30) (st1 := [.int 0, .int 6]) rfl rfl (fun _ => rfl) ?_
            refine pt_bt (t := 2777) (off := 2747) (bb := decide ((0 : Int32) < (6 : Int32))) (st1 := []) rfl rfl rfl rfl rfl (by decide) ?_
            refine pt_s (pc1 := 2778) (st1 := [.int 1]) rfl rfl (fun _ => rfl) ?_
            exact pt_e rfl ⟨rfl, (rfl : px_ins pm_law 2778 = some (.ireturn, 1))⟩
          · obtain rfl : a1 = 6 := Int32.toInt_inj.mp (hc.trans rfl)
            refine pt_s (pc1 := 2646) (st1 := []) rfl rfl (fun _ => rfl) ?_
            refine pt_s (pc1 := 2647) (st1 := [.ref 0]) rfl rfl (fun _ => rfl) ?_
            refine pt_s (pc1 := 2648) (st1 := [.retAddr 0, .ref 0]) rfl rfl (fun _ => rfl) ?_
            refine pt_s (pc1 := 2650) (st1 := [.int 0, .retAddr 0, .ref 0]) rfl rfl (fun _ => rfl) ?_
            refine pt_s (pc1 := 2651) (st1 := [.int 1, .int 0, .retAddr 0, .ref 0]) rfl rfl (fun _ => rfl) ?_
            refine pt_s (pc1 := 2652) (st1 := [.int 1, .retAddr 0, .ref 0]) rfl rfl (fun _ => rfl) ?_
            refine pt_s (pc1 := 2653) (st1 := [.int 6, .ref 0]) rfl rfl (fun _ => rfl) ?_
            refine pt_s (pc1 := 2654) (st1 := [.retAddr 0, .int 6, .ref 0]) rfl rfl (fun _ => rfl) ?_
            refine pt_s (pc1 := 2656) (st1 := [.int 0, .retAddr 0, .int 6, .ref 0]) rfl rfl (fun _ => rfl) ?_
            refine pt_s (pc1 := 2657) (st1 := [.int 2, .int 0, .retAddr 0, .int 6, .ref 0]) rfl rfl (fun _ => rfl) ?_
            refine pt_s (pc1 := 2658) (st1 := [.int 2, .retAddr 0, .int 6, .ref 0]) rfl rfl (fun _ => rfl) ?_
            refine pt_s (pc1 := 2659) (st1 := [.int a2, .int 6, .ref 0]) rfl rfl (fun _ => rfl) ?_
            refine pt_s (pc1 := 2660) (st1 := [.retAddr 0, .int a2, .int 6, .ref 0]) rfl rfl (fun _ => rfl) ?_
            refine pt_s (pc1 := 2662) (st1 := [.int 0, .retAddr 0, .int a2, .int 6, .ref 0]) rfl rfl (fun _ => rfl) ?_
            refine pt_s (pc1 := 2663) (st1 := [.int 3, .int 0, .retAddr 0, .int a2, .int 6, .ref 0]) rfl rfl (fun _ => rfl) ?_
            refine pt_s (pc1 := 2664) (st1 := [.int 3, .retAddr 0, .int a2, .int 6, .ref 0]) rfl rfl (fun _ => rfl) ?_
            refine pt_s (pc1 := 2665) (st1 := [.int a3, .int a2, .int 6, .ref 0]) rfl rfl (fun _ => rfl) ?_
            refine pt_s (pc1 := 2666) (st1 := [.retAddr 0, .int a3, .int a2, .int 6, .ref 0]) rfl rfl (fun _ => rfl) ?_
            refine pt_s (pc1 := 2668) (st1 := [.int 0, .retAddr 0, .int a3, .int a2, .int 6, .ref 0]) rfl rfl (fun _ => rfl) ?_
            refine pt_s (pc1 := 2669) (st1 := [.int 4, .int 0, .retAddr 0, .int a3, .int a2, .int 6, .ref 0]) rfl rfl (fun _ => rfl) ?_
            refine pt_s (pc1 := 2670) (st1 := [.int 4, .retAddr 0, .int a3, .int a2, .int 6, .ref 0]) rfl rfl (fun _ => rfl) ?_
            refine pt_s (pc1 := 2671) (st1 := [.int a4, .int a3, .int a2, .int 6, .ref 0]) rfl rfl (fun _ => rfl) ?_
            refine pt_s (pc1 := 2672) (st1 := [.retAddr 0, .int a4, .int a3, .int a2, .int 6, .ref 0]) rfl rfl (fun _ => rfl) ?_
            refine pt_s (pc1 := 2674) (st1 := [.int 0, .retAddr 0, .int a4, .int a3, .int a2, .int 6, .ref 0]) rfl rfl (fun _ => rfl) ?_
            refine pt_s (pc1 := 2675) (st1 := [.int 5, .int 0, .retAddr 0, .int a4, .int a3, .int a2, .int 6, .ref 0]) rfl rfl (fun _ => rfl) ?_
            refine pt_s (pc1 := 2676) (st1 := [.int 5, .retAddr 0, .int a4, .int a3, .int a2, .int 6, .ref 0]) rfl rfl (fun _ => rfl) ?_
            refine pt_s (pc1 := 2677) (st1 := [.int a5, .int a4, .int a3, .int a2, .int 6, .ref 0]) rfl rfl (fun _ => rfl) ?_
            refine pt_s (pc1 := 2678) (st1 := [.ref 164, .int a5, .int a4, .int a3, .int a2, .int 6, .ref 0]) rfl rfl (fun _ => rfl) ?_
            refine pt_callv (N := pm_L_wouldHold) (as := [.ref 0, .int 6, .int a2, .int a3, .int a4, .int a5, .ref 164]) (rest := []) (f := 2047) (l := 83973) (c1 := 0) (k1 := 0) (c2 := 599837) (k2 := 7274195) (v := some (.int 0)) (h1 := ph_192) rfl rfl (fun _ => rfl) ?_ (Nat.le_of_ble_eq_true rfl) (Nat.le_of_ble_eq_true rfl) ?_
            · exact pq_110 a2 a3 a4 a5 ha5
            show px_T _ _ _ _ (2681, [(4, .int 0), (3, .ref 164), (2, .ref 136), (1, .ref 0), (0, .retAddr 0)], [.int 0], _) _ _ _
            refine pt_s (pc1 := 2683) (lv1 := [(5, .int 0), (4, .int 0), (3, .ref 164), (2, .ref 136), (1, .ref 0), (0, .retAddr 0)]) (st1 := []) rfl rfl (fun _ => rfl) ?_
            refine pt_s (pc1 := 2684) (st1 := [.ref 136]) rfl rfl (fun _ => rfl) ?_
            refine pt_s (pc1 := 2685) (st1 := [.retAddr 0, .ref 136]) rfl rfl (fun _ => rfl) ?_
            refine pt_s (pc1 := 2687) (st1 := [.int 0, .retAddr 0, .ref 136]) rfl rfl (fun _ => rfl) ?_
            refine pt_s (pc1 := 2688) (st1 := [.int 1, .int 0, .retAddr 0, .ref 136]) rfl rfl (fun _ => rfl) ?_
            refine pt_s (pc1 := 2689) (st1 := [.int 1, .retAddr 0, .ref 136]) rfl rfl (fun _ => rfl) ?_
            refine pt_s (pc1 := 2690) (st1 := [.int 6, .ref 136]) rfl rfl (fun _ => rfl) ?_
            refine pt_s (pc1 := 2691) (st1 := [.retAddr 0, .int 6, .ref 136]) rfl rfl (fun _ => rfl) ?_
            refine pt_s (pc1 := 2693) (st1 := [.int 0, .retAddr 0, .int 6, .ref 136]) rfl rfl (fun _ => rfl) ?_
            refine pt_s (pc1 := 2694) (st1 := [.int 2, .int 0, .retAddr 0, .int 6, .ref 136]) rfl rfl (fun _ => rfl) ?_
            refine pt_s (pc1 := 2695) (st1 := [.int 2, .retAddr 0, .int 6, .ref 136]) rfl rfl (fun _ => rfl) ?_
            refine pt_s (pc1 := 2696) (st1 := [.int a2, .int 6, .ref 136]) rfl rfl (fun _ => rfl) ?_
            refine pt_s (pc1 := 2697) (st1 := [.retAddr 0, .int a2, .int 6, .ref 136]) rfl rfl (fun _ => rfl) ?_
            refine pt_s (pc1 := 2699) (st1 := [.int 0, .retAddr 0, .int a2, .int 6, .ref 136]) rfl rfl (fun _ => rfl) ?_
            refine pt_s (pc1 := 2700) (st1 := [.int 3, .int 0, .retAddr 0, .int a2, .int 6, .ref 136]) rfl rfl (fun _ => rfl) ?_
            refine pt_s (pc1 := 2701) (st1 := [.int 3, .retAddr 0, .int a2, .int 6, .ref 136]) rfl rfl (fun _ => rfl) ?_
            refine pt_s (pc1 := 2702) (st1 := [.int a3, .int a2, .int 6, .ref 136]) rfl rfl (fun _ => rfl) ?_
            refine pt_s (pc1 := 2703) (st1 := [.retAddr 0, .int a3, .int a2, .int 6, .ref 136]) rfl rfl (fun _ => rfl) ?_
            refine pt_s (pc1 := 2705) (st1 := [.int 0, .retAddr 0, .int a3, .int a2, .int 6, .ref 136]) rfl rfl (fun _ => rfl) ?_
            refine pt_s (pc1 := 2706) (st1 := [.int 4, .int 0, .retAddr 0, .int a3, .int a2, .int 6, .ref 136]) rfl rfl (fun _ => rfl) ?_
            refine pt_s (pc1 := 2707) (st1 := [.int 4, .retAddr 0, .int a3, .int a2, .int 6, .ref 136]) rfl rfl (fun _ => rfl) ?_
            refine pt_s (pc1 := 2708) (st1 := [.int a4, .int a3, .int a2, .int 6, .ref 136]) rfl rfl (fun _ => rfl) ?_
            refine pt_s (pc1 := 2709) (st1 := [.retAddr 0, .int a4, .int a3, .int a2, .int 6, .ref 136]) rfl rfl (fun _ => rfl) ?_
            refine pt_s (pc1 := 2711) (st1 := [.int 0, .retAddr 0, .int a4, .int a3, .int a2, .int 6, .ref 136]) rfl rfl (fun _ => rfl) ?_
            refine pt_s (pc1 := 2712) (st1 := [.int 5, .int 0, .retAddr 0, .int a4, .int a3, .int a2, .int 6, .ref 136]) rfl rfl (fun _ => rfl) ?_
            refine pt_s (pc1 := 2713) (st1 := [.int 5, .retAddr 0, .int a4, .int a3, .int a2, .int 6, .ref 136]) rfl rfl (fun _ => rfl) ?_
            refine pt_s (pc1 := 2714) (st1 := [.int a5, .int a4, .int a3, .int a2, .int 6, .ref 136]) rfl rfl (fun _ => rfl) ?_
            refine pt_callv (N := pm_X10_wouldHold) (as := [.ref 136, .int 6, .int a2, .int a3, .int a4, .int a5]) (rest := []) (f := 2047) (l := 83975) (c1 := 0) (k1 := 0) (c2 := 599837) (k2 := 7274195) (v := some (.int 0)) (h1 := ph_192) rfl rfl (fun ex => px_inv_hs ex rfl rfl rfl pg_508 rfl rfl rfl rfl) ?_ (Nat.le_of_ble_eq_true rfl) (Nat.le_of_ble_eq_true rfl) ?_
            · exact pq_111 a2 a3 a4 a5 ha5
            show px_T _ _ _ _ (2717, [(5, .int 0), (4, .int 0), (3, .ref 164), (2, .ref 136), (1, .ref 0), (0, .retAddr 0)], [.int 0], _) _ _ _
            refine pt_s (pc1 := 2719) (lv1 := [(6, .int 0), (5, .int 0), (4, .int 0), (3, .ref 164), (2, .ref 136), (1, .ref 0), (0, .retAddr 0)]) (st1 := []) rfl rfl (fun _ => rfl) ?_
            refine pt_s (pc1 := 2720) (st1 := [.ref 136]) rfl rfl (fun _ => rfl) ?_
            refine pt_callv (N := pm_X10_thrown) (as := [.ref 136]) (rest := []) (f := 2047) (l := 83980) (c1 := 0) (k1 := 0) (c2 := 599837) (k2 := 7274195) (v := some (.int 0)) (h1 := ph_192) rfl rfl (fun ex => px_inv_hs ex rfl rfl rfl pg_508 rfl rfl rfl rfl) ?_ (Nat.le_of_ble_eq_true rfl) (Nat.le_of_ble_eq_true rfl) ?_
            · refine px_C_of rfl ?_
              refine pr_s (pc1 := 1) (st1 := [.ref 136]) rfl (fun _ => rfl) ?_
              refine pr_getf (pc1 := 4) (v := .int 0) rfl rfl pg_508 rfl rfl ?_
              exact pr_e rfl (fun _ => rfl) ⟨rfl, rfl⟩
            show px_T _ _ _ _ (2723, [(6, .int 0), (5, .int 0), (4, .int 0), (3, .ref 164), (2, .ref 136), (1, .ref 0), (0, .retAddr 0)], [.int 0], _) _ _ _
            refine pt_s (pc1 := 2725) (st1 := [.int 0, .int 0]) rfl rfl (fun _ => rfl) ?_
            refine pt_bt (t := 2730) (off := 5) (bb := decide ((0 : Int32) = 0)) (st1 := []) rfl rfl rfl rfl rfl (by decide) ?_
            refine pt_s (pc1 := 2732) (st1 := [.int 0]) rfl rfl (fun _ => rfl) ?_
            refine pt_bf (t := 2754) (off := 22) (bb := !decide ((0 : Int32) = 0)) (st1 := []) rfl rfl rfl rfl rfl (px_not_f (by decide)) ?_
            refine pt_s (pc1 := 2736) (st1 := [.ref 164]) rfl rfl (fun _ => rfl) ?_
            refine pt_s (pc1 := 2737) (st1 := [.int 0, .ref 164]) rfl rfl (fun _ => rfl) ?_
            refine pt_lald (pc1 := 2738) (x := 0) rfl pg_511 rfl rfl rfl ?_
            refine pt_s (pc1 := 2740) (st1 := [.int 0, .long 0]) rfl rfl (fun _ => rfl) ?_
            refine pt_bt (t := 2747) (off := 7) (bb := decide ((0 : Int32) = 0)) (st1 := [.long 0]) rfl rfl rfl rfl rfl (by decide) ?_
            refine pt_s (pc1 := 2748) (st1 := [.long 0, .long 0]) rfl rfl (fun _ => rfl) ?_
            refine pt_s (pc1 := 2749) (st1 := [.int 0]) rfl rfl (fun _ => rfl) ?_
            refine pt_bt (t := 2754) (off := 5) (bb := decide ((0 : Int32) = 0)) (st1 := []) rfl rfl rfl rfl rfl (by decide) ?_
            refine pt_s (pc1 := 2771) (st1 := []) rfl rfl (fun _ => rfl) ?_
            refine pt_s (pc1 := 2774) (lv1 := [(4, .int 6), (6, .int 0), (5, .int 0), (3, .ref 164), (2, .ref 136), (1, .ref 0), (0, .retAddr 0)]) (st1 := []) rfl rfl (fun _ => rfl) ?_
            refine pt_s (pc1 := 23) (st1 := []) rfl rfl (fun _ => rfl) ?_
            refine pt_s (pc1 := 25) (st1 := [.int 6]) rfl rfl (fun _ => rfl) ?_
            refine pt_s (pc1 := 26) (st1 := [.retAddr 0, .int 6]) rfl rfl (fun _ => rfl) ?_
            refine pt_s (pc1 := 27) (st1 := [.int 6, .int 6]) rfl rfl (fun _ => rfl) ?_
            refine pt_s (pc1 := 29) (st1 := [.int 6, .int 6, .int 6]) rfl rfl (fun _ => rfl) ?_
            refine pt_s (pc1 := 30) (st1 := [.int 0, .int 6]) rfl rfl (fun _ => rfl) ?_
            refine pt_bt (t := 2777) (off := 2747) (bb := decide ((0 : Int32) < (6 : Int32))) (st1 := []) rfl rfl rfl rfl rfl (by decide) ?_
            refine pt_s (pc1 := 2778) (st1 := [.int 1]) rfl rfl (fun _ => rfl) ?_
            exact pt_e rfl ⟨rfl, (rfl : px_ins pm_law 2778 = some (.ireturn, 1))⟩
          · obtain rfl : a1 = 7 := Int32.toInt_inj.mp (hc.trans rfl)
            refine pt_s (pc1 := 2646) (st1 := []) rfl rfl (fun _ => rfl) ?_
            refine pt_s (pc1 := 2647) (st1 := [.ref 0]) rfl rfl (fun _ => rfl) ?_
            refine pt_s (pc1 := 2648) (st1 := [.retAddr 0, .ref 0]) rfl rfl (fun _ => rfl) ?_
            refine pt_s (pc1 := 2650) (st1 := [.int 0, .retAddr 0, .ref 0]) rfl rfl (fun _ => rfl) ?_
            refine pt_s (pc1 := 2651) (st1 := [.int 1, .int 0, .retAddr 0, .ref 0]) rfl rfl (fun _ => rfl) ?_
            refine pt_s (pc1 := 2652) (st1 := [.int 1, .retAddr 0, .ref 0]) rfl rfl (fun _ => rfl) ?_
            refine pt_s (pc1 := 2653) (st1 := [.int 7, .ref 0]) rfl rfl (fun _ => rfl) ?_
            refine pt_s (pc1 := 2654) (st1 := [.retAddr 0, .int 7, .ref 0]) rfl rfl (fun _ => rfl) ?_
            refine pt_s (pc1 := 2656) (st1 := [.int 0, .retAddr 0, .int 7, .ref 0]) rfl rfl (fun _ => rfl) ?_
            refine pt_s (pc1 := 2657) (st1 := [.int 2, .int 0, .retAddr 0, .int 7, .ref 0]) rfl rfl (fun _ => rfl) ?_
            refine pt_s (pc1 := 2658) (st1 := [.int 2, .retAddr 0, .int 7, .ref 0]) rfl rfl (fun _ => rfl) ?_
            refine pt_s (pc1 := 2659) (st1 := [.int a2, .int 7, .ref 0]) rfl rfl (fun _ => rfl) ?_
            refine pt_s (pc1 := 2660) (st1 := [.retAddr 0, .int a2, .int 7, .ref 0]) rfl rfl (fun _ => rfl) ?_
            refine pt_s (pc1 := 2662) (st1 := [.int 0, .retAddr 0, .int a2, .int 7, .ref 0]) rfl rfl (fun _ => rfl) ?_
            refine pt_s (pc1 := 2663) (st1 := [.int 3, .int 0, .retAddr 0, .int a2, .int 7, .ref 0]) rfl rfl (fun _ => rfl) ?_
            refine pt_s (pc1 := 2664) (st1 := [.int 3, .retAddr 0, .int a2, .int 7, .ref 0]) rfl rfl (fun _ => rfl) ?_
            refine pt_s (pc1 := 2665) (st1 := [.int a3, .int a2, .int 7, .ref 0]) rfl rfl (fun _ => rfl) ?_
            refine pt_s (pc1 := 2666) (st1 := [.retAddr 0, .int a3, .int a2, .int 7, .ref 0]) rfl rfl (fun _ => rfl) ?_
            refine pt_s (pc1 := 2668) (st1 := [.int 0, .retAddr 0, .int a3, .int a2, .int 7, .ref 0]) rfl rfl (fun _ => rfl) ?_
            refine pt_s (pc1 := 2669) (st1 := [.int 4, .int 0, .retAddr 0, .int a3, .int a2, .int 7, .ref 0]) rfl rfl (fun _ => rfl) ?_
            refine pt_s (pc1 := 2670) (st1 := [.int 4, .retAddr 0, .int a3, .int a2, .int 7, .ref 0]) rfl rfl (fun _ => rfl) ?_
            refine pt_s (pc1 := 2671) (st1 := [.int a4, .int a3, .int a2, .int 7, .ref 0]) rfl rfl (fun _ => rfl) ?_
            refine pt_s (pc1 := 2672) (st1 := [.retAddr 0, .int a4, .int a3, .int a2, .int 7, .ref 0]) rfl rfl (fun _ => rfl) ?_
            refine pt_s (pc1 := 2674) (st1 := [.int 0, .retAddr 0, .int a4, .int a3, .int a2, .int 7, .ref 0]) rfl rfl (fun _ => rfl) ?_
            refine pt_s (pc1 := 2675) (st1 := [.int 5, .int 0, .retAddr 0, .int a4, .int a3, .int a2, .int 7, .ref 0]) rfl rfl (fun _ => rfl) ?_
            refine pt_s (pc1 := 2676) (st1 := [.int 5, .retAddr 0, .int a4, .int a3, .int a2, .int 7, .ref 0]) rfl rfl (fun _ => rfl) ?_
            refine pt_s (pc1 := 2677) (st1 := [.int a5, .int a4, .int a3, .int a2, .int 7, .ref 0]) rfl rfl (fun _ => rfl) ?_
            refine pt_s (pc1 := 2678) (st1 := [.ref 164, .int a5, .int a4, .int a3, .int a2, .int 7, .ref 0]) rfl rfl (fun _ => rfl) ?_
            refine pt_callv (N := pm_L_wouldHold) (as := [.ref 0, .int 7, .int a2, .int a3, .int a4, .int a5, .ref 164]) (rest := []) (f := 2047) (l := 83973) (c1 := 0) (k1 := 0) (c2 := 599837) (k2 := 7274195) (v := some (.int 0)) (h1 := ph_192) rfl rfl (fun _ => rfl) ?_ (Nat.le_of_ble_eq_true rfl) (Nat.le_of_ble_eq_true rfl) ?_
            · exact pq_113 a2 a3 a4 a5 ha5
            show px_T _ _ _ _ (2681, [(4, .int 0), (3, .ref 164), (2, .ref 136), (1, .ref 0), (0, .retAddr 0)], [.int 0], _) _ _ _
            refine pt_s (pc1 := 2683) (lv1 := [(5, .int 0), (4, .int 0), (3, .ref 164), (2, .ref 136), (1, .ref 0), (0, .retAddr 0)]) (st1 := []) rfl rfl (fun _ => rfl) ?_
            refine pt_s (pc1 := 2684) (st1 := [.ref 136]) rfl rfl (fun _ => rfl) ?_
            refine pt_s (pc1 := 2685) (st1 := [.retAddr 0, .ref 136]) rfl rfl (fun _ => rfl) ?_
            refine pt_s (pc1 := 2687) (st1 := [.int 0, .retAddr 0, .ref 136]) rfl rfl (fun _ => rfl) ?_
            refine pt_s (pc1 := 2688) (st1 := [.int 1, .int 0, .retAddr 0, .ref 136]) rfl rfl (fun _ => rfl) ?_
            refine pt_s (pc1 := 2689) (st1 := [.int 1, .retAddr 0, .ref 136]) rfl rfl (fun _ => rfl) ?_
            refine pt_s (pc1 := 2690) (st1 := [.int 7, .ref 136]) rfl rfl (fun _ => rfl) ?_
            refine pt_s (pc1 := 2691) (st1 := [.retAddr 0, .int 7, .ref 136]) rfl rfl (fun _ => rfl) ?_
            refine pt_s (pc1 := 2693) (st1 := [.int 0, .retAddr 0, .int 7, .ref 136]) rfl rfl (fun _ => rfl) ?_
            refine pt_s (pc1 := 2694) (st1 := [.int 2, .int 0, .retAddr 0, .int 7, .ref 136]) rfl rfl (fun _ => rfl) ?_
            refine pt_s (pc1 := 2695) (st1 := [.int 2, .retAddr 0, .int 7, .ref 136]) rfl rfl (fun _ => rfl) ?_
            refine pt_s (pc1 := 2696) (st1 := [.int a2, .int 7, .ref 136]) rfl rfl (fun _ => rfl) ?_
            refine pt_s (pc1 := 2697) (st1 := [.retAddr 0, .int a2, .int 7, .ref 136]) rfl rfl (fun _ => rfl) ?_
            refine pt_s (pc1 := 2699) (st1 := [.int 0, .retAddr 0, .int a2, .int 7, .ref 136]) rfl rfl (fun _ => rfl) ?_
            refine pt_s (pc1 := 2700) (st1 := [.int 3, .int 0, .retAddr 0, .int a2, .int 7, .ref 136]) rfl rfl (fun _ => rfl) ?_
            refine pt_s (pc1 := 2701) (st1 := [.int 3, .retAddr 0, .int a2, .int 7, .ref 136]) rfl rfl (fun _ => rfl) ?_
            refine pt_s (pc1 := 2702) (st1 := [.int a3, .int a2, .int 7, .ref 136]) rfl rfl (fun _ => rfl) ?_
            refine pt_s (pc1 := 2703) (st1 := [.retAddr 0, .int a3, .int a2, .int 7, .ref 136]) rfl rfl (fun _ => rfl) ?_
            refine pt_s (pc1 := 2705) (st1 := [.int 0, .retAddr 0, .int a3, .int a2, .int 7, .ref 136]) rfl rfl (fun _ => rfl) ?_
            refine pt_s (pc1 := 2706) (st1 := [.int 4, .int 0, .retAddr 0, .int a3, .int a2, .int 7, .ref 136]) rfl rfl (fun _ => rfl) ?_
            refine pt_s (pc1 := 2707) (st1 := [.int 4, .retAddr 0, .int a3, .int a2, .int 7, .ref 136]) rfl rfl (fun _ => rfl) ?_
            refine pt_s (pc1 := 2708) (st1 := [.int a4, .int a3, .int a2, .int 7, .ref 136]) rfl rfl (fun _ => rfl) ?_
            refine pt_s (pc1 := 2709) (st1 := [.retAddr 0, .int a4, .int a3, .int a2, .int 7, .ref 136]) rfl rfl (fun _ => rfl) ?_
            refine pt_s (pc1 := 2711) (st1 := [.int 0, .retAddr 0, .int a4, .int a3, .int a2, .int 7, .ref 136]) rfl rfl (fun _ => rfl) ?_
            refine pt_s (pc1 := 2712) (st1 := [.int 5, .int 0, .retAddr 0, .int a4, .int a3, .int a2, .int 7, .ref 136]) rfl rfl (fun _ => rfl) ?_
            refine pt_s (pc1 := 2713) (st1 := [.int 5, .retAddr 0, .int a4, .int a3, .int a2, .int 7, .ref 136]) rfl rfl (fun _ => rfl) ?_
            refine pt_s (pc1 := 2714) (st1 := [.int a5, .int a4, .int a3, .int a2, .int 7, .ref 136]) rfl rfl (fun _ => rfl) ?_
            refine pt_callv (N := pm_X10_wouldHold) (as := [.ref 136, .int 7, .int a2, .int a3, .int a4, .int a5]) (rest := []) (f := 2047) (l := 83975) (c1 := 0) (k1 := 0) (c2 := 599837) (k2 := 7274195) (v := some (.int 0)) (h1 := ph_192) rfl rfl (fun ex => px_inv_hs ex rfl rfl rfl pg_508 rfl rfl rfl rfl) ?_ (Nat.le_of_ble_eq_true rfl) (Nat.le_of_ble_eq_true rfl) ?_
            · exact pq_114 a2 a3 a4 a5 ha5
            show px_T _ _ _ _ (2717, [(5, .int 0), (4, .int 0), (3, .ref 164), (2, .ref 136), (1, .ref 0), (0, .retAddr 0)], [.int 0], _) _ _ _
            refine pt_s (pc1 := 2719) (lv1 := [(6, .int 0), (5, .int 0), (4, .int 0), (3, .ref 164), (2, .ref 136), (1, .ref 0), (0, .retAddr 0)]) (st1 := []) rfl rfl (fun _ => rfl) ?_
            refine pt_s (pc1 := 2720) (st1 := [.ref 136]) rfl rfl (fun _ => rfl) ?_
            refine pt_callv (N := pm_X10_thrown) (as := [.ref 136]) (rest := []) (f := 2047) (l := 83980) (c1 := 0) (k1 := 0) (c2 := 599837) (k2 := 7274195) (v := some (.int 0)) (h1 := ph_192) rfl rfl (fun ex => px_inv_hs ex rfl rfl rfl pg_508 rfl rfl rfl rfl) ?_ (Nat.le_of_ble_eq_true rfl) (Nat.le_of_ble_eq_true rfl) ?_
            · refine px_C_of rfl ?_
              refine pr_s (pc1 := 1) (st1 := [.ref 136]) rfl (fun _ => rfl) ?_
              refine pr_getf (pc1 := 4) (v := .int 0) rfl rfl pg_508 rfl rfl ?_
              exact pr_e rfl (fun _ => rfl) ⟨rfl, rfl⟩
            show px_T _ _ _ _ (2723, [(6, .int 0), (5, .int 0), (4, .int 0), (3, .ref 164), (2, .ref 136), (1, .ref 0), (0, .retAddr 0)], [.int 0], _) _ _ _
            refine pt_s (pc1 := 2725) (st1 := [.int 0, .int 0]) rfl rfl (fun _ => rfl) ?_
            refine pt_bt (t := 2730) (off := 5) (bb := decide ((0 : Int32) = 0)) (st1 := []) rfl rfl rfl rfl rfl (by decide) ?_
            refine pt_s (pc1 := 2732) (st1 := [.int 0]) rfl rfl (fun _ => rfl) ?_
            refine pt_bf (t := 2754) (off := 22) (bb := !decide ((0 : Int32) = 0)) (st1 := []) rfl rfl rfl rfl rfl (px_not_f (by decide)) ?_
            refine pt_s (pc1 := 2736) (st1 := [.ref 164]) rfl rfl (fun _ => rfl) ?_
            refine pt_s (pc1 := 2737) (st1 := [.int 0, .ref 164]) rfl rfl (fun _ => rfl) ?_
            refine pt_lald (pc1 := 2738) (x := 0) rfl pg_511 rfl rfl rfl ?_
            refine pt_s (pc1 := 2740) (st1 := [.int 0, .long 0]) rfl rfl (fun _ => rfl) ?_
            refine pt_bt (t := 2747) (off := 7) (bb := decide ((0 : Int32) = 0)) (st1 := [.long 0]) rfl rfl rfl rfl rfl (by decide) ?_
            refine pt_s (pc1 := 2748) (st1 := [.long 0, .long 0]) rfl rfl (fun _ => rfl) ?_
            refine pt_s (pc1 := 2749) (st1 := [.int 0]) rfl rfl (fun _ => rfl) ?_
            refine pt_bt (t := 2754) (off := 5) (bb := decide ((0 : Int32) = 0)) (st1 := []) rfl rfl rfl rfl rfl (by decide) ?_
            refine pt_s (pc1 := 2771) (st1 := []) rfl rfl (fun _ => rfl) ?_
            refine pt_s (pc1 := 2774) (lv1 := [(4, .int 6), (6, .int 0), (5, .int 0), (3, .ref 164), (2, .ref 136), (1, .ref 0), (0, .retAddr 0)]) (st1 := []) rfl rfl (fun _ => rfl) ?_
            refine pt_s (pc1 := 23) (st1 := []) rfl rfl (fun _ => rfl) ?_
            refine pt_s (pc1 := 25) (st1 := [.int 6]) rfl rfl (fun _ => rfl) ?_
            refine pt_s (pc1 := 26) (st1 := [.retAddr 0, .int 6]) rfl rfl (fun _ => rfl) ?_
            refine pt_s (pc1 := 27) (st1 := [.int 6, .int 6]) rfl rfl (fun _ => rfl) ?_
            refine pt_s (pc1 := 29) (st1 := [.int 6, .int 6, .int 6]) rfl rfl (fun _ => rfl) ?_
            refine pt_s (pc1 := 30) (st1 := [.int 0, .int 6]) rfl rfl (fun _ => rfl) ?_
            refine pt_bt (t := 2777) (off := 2747) (bb := decide ((0 : Int32) < (6 : Int32))) (st1 := []) rfl rfl rfl rfl rfl (by decide) ?_
            refine pt_s (pc1 := 2778) (st1 := [.int 1]) rfl rfl (fun _ => rfl) ?_
            exact pt_e rfl ⟨rfl, (rfl : px_ins pm_law 2778 = some (.ireturn, 1))⟩
        · have ha1 : 8 ≤ a1.toInt ∧ a1.toInt ≤ 2147483647 := ⟨by omega, ha1.2⟩
          refine pt_s (pc1 := 2646) (st1 := []) rfl rfl (fun _ => rfl) ?_
          refine pt_s (pc1 := 2647) (st1 := [.ref 0]) rfl rfl (fun _ => rfl) ?_
          refine pt_s (pc1 := 2648) (st1 := [.retAddr 0, .ref 0]) rfl rfl (fun _ => rfl) ?_
          refine pt_s (pc1 := 2650) (st1 := [.int 0, .retAddr 0, .ref 0]) rfl rfl (fun _ => rfl) ?_
          refine pt_s (pc1 := 2651) (st1 := [.int 1, .int 0, .retAddr 0, .ref 0]) rfl rfl (fun _ => rfl) ?_
          refine pt_s (pc1 := 2652) (st1 := [.int 1, .retAddr 0, .ref 0]) rfl rfl (fun _ => rfl) ?_
          refine pt_s (pc1 := 2653) (st1 := [.int a1, .ref 0]) rfl rfl (fun _ => rfl) ?_
          refine pt_s (pc1 := 2654) (st1 := [.retAddr 0, .int a1, .ref 0]) rfl rfl (fun _ => rfl) ?_
          refine pt_s (pc1 := 2656) (st1 := [.int 0, .retAddr 0, .int a1, .ref 0]) rfl rfl (fun _ => rfl) ?_
          refine pt_s (pc1 := 2657) (st1 := [.int 2, .int 0, .retAddr 0, .int a1, .ref 0]) rfl rfl (fun _ => rfl) ?_
          refine pt_s (pc1 := 2658) (st1 := [.int 2, .retAddr 0, .int a1, .ref 0]) rfl rfl (fun _ => rfl) ?_
          refine pt_s (pc1 := 2659) (st1 := [.int a2, .int a1, .ref 0]) rfl rfl (fun _ => rfl) ?_
          refine pt_s (pc1 := 2660) (st1 := [.retAddr 0, .int a2, .int a1, .ref 0]) rfl rfl (fun _ => rfl) ?_
          refine pt_s (pc1 := 2662) (st1 := [.int 0, .retAddr 0, .int a2, .int a1, .ref 0]) rfl rfl (fun _ => rfl) ?_
          refine pt_s (pc1 := 2663) (st1 := [.int 3, .int 0, .retAddr 0, .int a2, .int a1, .ref 0]) rfl rfl (fun _ => rfl) ?_
          refine pt_s (pc1 := 2664) (st1 := [.int 3, .retAddr 0, .int a2, .int a1, .ref 0]) rfl rfl (fun _ => rfl) ?_
          refine pt_s (pc1 := 2665) (st1 := [.int a3, .int a2, .int a1, .ref 0]) rfl rfl (fun _ => rfl) ?_
          refine pt_s (pc1 := 2666) (st1 := [.retAddr 0, .int a3, .int a2, .int a1, .ref 0]) rfl rfl (fun _ => rfl) ?_
          refine pt_s (pc1 := 2668) (st1 := [.int 0, .retAddr 0, .int a3, .int a2, .int a1, .ref 0]) rfl rfl (fun _ => rfl) ?_
          refine pt_s (pc1 := 2669) (st1 := [.int 4, .int 0, .retAddr 0, .int a3, .int a2, .int a1, .ref 0]) rfl rfl (fun _ => rfl) ?_
          refine pt_s (pc1 := 2670) (st1 := [.int 4, .retAddr 0, .int a3, .int a2, .int a1, .ref 0]) rfl rfl (fun _ => rfl) ?_
          refine pt_s (pc1 := 2671) (st1 := [.int a4, .int a3, .int a2, .int a1, .ref 0]) rfl rfl (fun _ => rfl) ?_
          refine pt_s (pc1 := 2672) (st1 := [.retAddr 0, .int a4, .int a3, .int a2, .int a1, .ref 0]) rfl rfl (fun _ => rfl) ?_
          refine pt_s (pc1 := 2674) (st1 := [.int 0, .retAddr 0, .int a4, .int a3, .int a2, .int a1, .ref 0]) rfl rfl (fun _ => rfl) ?_
          refine pt_s (pc1 := 2675) (st1 := [.int 5, .int 0, .retAddr 0, .int a4, .int a3, .int a2, .int a1, .ref 0]) rfl rfl (fun _ => rfl) ?_
          refine pt_s (pc1 := 2676) (st1 := [.int 5, .retAddr 0, .int a4, .int a3, .int a2, .int a1, .ref 0]) rfl rfl (fun _ => rfl) ?_
          refine pt_s (pc1 := 2677) (st1 := [.int a5, .int a4, .int a3, .int a2, .int a1, .ref 0]) rfl rfl (fun _ => rfl) ?_
          refine pt_s (pc1 := 2678) (st1 := [.ref 164, .int a5, .int a4, .int a3, .int a2, .int a1, .ref 0]) rfl rfl (fun _ => rfl) ?_
          refine pt_callv (N := pm_L_wouldHold) (as := [.ref 0, .int a1, .int a2, .int a3, .int a4, .int a5, .ref 164]) (rest := []) (f := 2047) (l := 83973) (c1 := 0) (k1 := 0) (c2 := 599837) (k2 := 7274195) (v := some (.int 0)) (h1 := ph_192) rfl rfl (fun _ => rfl) ?_ (Nat.le_of_ble_eq_true rfl) (Nat.le_of_ble_eq_true rfl) ?_
          · exact pq_115 a1 a2 a3 a4 a5 ha1 ha5
          show px_T _ _ _ _ (2681, [(4, .int 0), (3, .ref 164), (2, .ref 136), (1, .ref 0), (0, .retAddr 0)], [.int 0], _) _ _ _
          refine pt_s (pc1 := 2683) (lv1 := [(5, .int 0), (4, .int 0), (3, .ref 164), (2, .ref 136), (1, .ref 0), (0, .retAddr 0)]) (st1 := []) rfl rfl (fun _ => rfl) ?_
          refine pt_s (pc1 := 2684) (st1 := [.ref 136]) rfl rfl (fun _ => rfl) ?_
          refine pt_s (pc1 := 2685) (st1 := [.retAddr 0, .ref 136]) rfl rfl (fun _ => rfl) ?_
          refine pt_s (pc1 := 2687) (st1 := [.int 0, .retAddr 0, .ref 136]) rfl rfl (fun _ => rfl) ?_
          refine pt_s (pc1 := 2688) (st1 := [.int 1, .int 0, .retAddr 0, .ref 136]) rfl rfl (fun _ => rfl) ?_
          refine pt_s (pc1 := 2689) (st1 := [.int 1, .retAddr 0, .ref 136]) rfl rfl (fun _ => rfl) ?_
          refine pt_s (pc1 := 2690) (st1 := [.int a1, .ref 136]) rfl rfl (fun _ => rfl) ?_
          refine pt_s (pc1 := 2691) (st1 := [.retAddr 0, .int a1, .ref 136]) rfl rfl (fun _ => rfl) ?_
          refine pt_s (pc1 := 2693) (st1 := [.int 0, .retAddr 0, .int a1, .ref 136]) rfl rfl (fun _ => rfl) ?_
          refine pt_s (pc1 := 2694) (st1 := [.int 2, .int 0, .retAddr 0, .int a1, .ref 136]) rfl rfl (fun _ => rfl) ?_
          refine pt_s (pc1 := 2695) (st1 := [.int 2, .retAddr 0, .int a1, .ref 136]) rfl rfl (fun _ => rfl) ?_
          refine pt_s (pc1 := 2696) (st1 := [.int a2, .int a1, .ref 136]) rfl rfl (fun _ => rfl) ?_
          refine pt_s (pc1 := 2697) (st1 := [.retAddr 0, .int a2, .int a1, .ref 136]) rfl rfl (fun _ => rfl) ?_
          refine pt_s (pc1 := 2699) (st1 := [.int 0, .retAddr 0, .int a2, .int a1, .ref 136]) rfl rfl (fun _ => rfl) ?_
          refine pt_s (pc1 := 2700) (st1 := [.int 3, .int 0, .retAddr 0, .int a2, .int a1, .ref 136]) rfl rfl (fun _ => rfl) ?_
          refine pt_s (pc1 := 2701) (st1 := [.int 3, .retAddr 0, .int a2, .int a1, .ref 136]) rfl rfl (fun _ => rfl) ?_
          refine pt_s (pc1 := 2702) (st1 := [.int a3, .int a2, .int a1, .ref 136]) rfl rfl (fun _ => rfl) ?_
          refine pt_s (pc1 := 2703) (st1 := [.retAddr 0, .int a3, .int a2, .int a1, .ref 136]) rfl rfl (fun _ => rfl) ?_
          refine pt_s (pc1 := 2705) (st1 := [.int 0, .retAddr 0, .int a3, .int a2, .int a1, .ref 136]) rfl rfl (fun _ => rfl) ?_
          refine pt_s (pc1 := 2706) (st1 := [.int 4, .int 0, .retAddr 0, .int a3, .int a2, .int a1, .ref 136]) rfl rfl (fun _ => rfl) ?_
          refine pt_s (pc1 := 2707) (st1 := [.int 4, .retAddr 0, .int a3, .int a2, .int a1, .ref 136]) rfl rfl (fun _ => rfl) ?_
          refine pt_s (pc1 := 2708) (st1 := [.int a4, .int a3, .int a2, .int a1, .ref 136]) rfl rfl (fun _ => rfl) ?_
          refine pt_s (pc1 := 2709) (st1 := [.retAddr 0, .int a4, .int a3, .int a2, .int a1, .ref 136]) rfl rfl (fun _ => rfl) ?_
          refine pt_s (pc1 := 2711) (st1 := [.int 0, .retAddr 0, .int a4, .int a3, .int a2, .int a1, .ref 136]) rfl rfl (fun _ => rfl) ?_
          refine pt_s (pc1 := 2712) (st1 := [.int 5, .int 0, .retAddr 0, .int a4, .int a3, .int a2, .int a1, .ref 136]) rfl rfl (fun _ => rfl) ?_
          refine pt_s (pc1 := 2713) (st1 := [.int 5, .retAddr 0, .int a4, .int a3, .int a2, .int a1, .ref 136]) rfl rfl (fun _ => rfl) ?_
          refine pt_s (pc1 := 2714) (st1 := [.int a5, .int a4, .int a3, .int a2, .int a1, .ref 136]) rfl rfl (fun _ => rfl) ?_
          refine pt_callv (N := pm_X10_wouldHold) (as := [.ref 136, .int a1, .int a2, .int a3, .int a4, .int a5]) (rest := []) (f := 2047) (l := 83975) (c1 := 0) (k1 := 0) (c2 := 599837) (k2 := 7274195) (v := some (.int 0)) (h1 := ph_192) rfl rfl (fun ex => px_inv_hs ex rfl rfl rfl pg_508 rfl rfl rfl rfl) ?_ (Nat.le_of_ble_eq_true rfl) (Nat.le_of_ble_eq_true rfl) ?_
          · exact pq_90 a1 a2 a3 a4 a5 ha5
          show px_T _ _ _ _ (2717, [(5, .int 0), (4, .int 0), (3, .ref 164), (2, .ref 136), (1, .ref 0), (0, .retAddr 0)], [.int 0], _) _ _ _
          refine pt_s (pc1 := 2719) (lv1 := [(6, .int 0), (5, .int 0), (4, .int 0), (3, .ref 164), (2, .ref 136), (1, .ref 0), (0, .retAddr 0)]) (st1 := []) rfl rfl (fun _ => rfl) ?_
          refine pt_s (pc1 := 2720) (st1 := [.ref 136]) rfl rfl (fun _ => rfl) ?_
          refine pt_callv (N := pm_X10_thrown) (as := [.ref 136]) (rest := []) (f := 2047) (l := 83980) (c1 := 0) (k1 := 0) (c2 := 599837) (k2 := 7274195) (v := some (.int 0)) (h1 := ph_192) rfl rfl (fun ex => px_inv_hs ex rfl rfl rfl pg_508 rfl rfl rfl rfl) ?_ (Nat.le_of_ble_eq_true rfl) (Nat.le_of_ble_eq_true rfl) ?_
          · refine px_C_of rfl ?_
            refine pr_s (pc1 := 1) (st1 := [.ref 136]) rfl (fun _ => rfl) ?_
            refine pr_getf (pc1 := 4) (v := .int 0) rfl rfl pg_508 rfl rfl ?_
            exact pr_e rfl (fun _ => rfl) ⟨rfl, rfl⟩
          show px_T _ _ _ _ (2723, [(6, .int 0), (5, .int 0), (4, .int 0), (3, .ref 164), (2, .ref 136), (1, .ref 0), (0, .retAddr 0)], [.int 0], _) _ _ _
          refine pt_s (pc1 := 2725) (st1 := [.int 0, .int 0]) rfl rfl (fun _ => rfl) ?_
          refine pt_bt (t := 2730) (off := 5) (bb := decide ((0 : Int32) = 0)) (st1 := []) rfl rfl rfl rfl rfl (by decide) ?_
          refine pt_s (pc1 := 2732) (st1 := [.int 0]) rfl rfl (fun _ => rfl) ?_
          refine pt_bf (t := 2754) (off := 22) (bb := !decide ((0 : Int32) = 0)) (st1 := []) rfl rfl rfl rfl rfl (px_not_f (by decide)) ?_
          refine pt_s (pc1 := 2736) (st1 := [.ref 164]) rfl rfl (fun _ => rfl) ?_
          refine pt_s (pc1 := 2737) (st1 := [.int 0, .ref 164]) rfl rfl (fun _ => rfl) ?_
          refine pt_lald (pc1 := 2738) (x := 0) rfl pg_511 rfl rfl rfl ?_
          refine pt_s (pc1 := 2740) (st1 := [.int 0, .long 0]) rfl rfl (fun _ => rfl) ?_
          refine pt_bt (t := 2747) (off := 7) (bb := decide ((0 : Int32) = 0)) (st1 := [.long 0]) rfl rfl rfl rfl rfl (by decide) ?_
          refine pt_s (pc1 := 2748) (st1 := [.long 0, .long 0]) rfl rfl (fun _ => rfl) ?_
          refine pt_s (pc1 := 2749) (st1 := [.int 0]) rfl rfl (fun _ => rfl) ?_
          refine pt_bt (t := 2754) (off := 5) (bb := decide ((0 : Int32) = 0)) (st1 := []) rfl rfl rfl rfl rfl (by decide) ?_
          refine pt_s (pc1 := 2771) (st1 := []) rfl rfl (fun _ => rfl) ?_
          refine pt_s (pc1 := 2774) (lv1 := [(4, .int 6), (6, .int 0), (5, .int 0), (3, .ref 164), (2, .ref 136), (1, .ref 0), (0, .retAddr 0)]) (st1 := []) rfl rfl (fun _ => rfl) ?_
          refine pt_s (pc1 := 23) (st1 := []) rfl rfl (fun _ => rfl) ?_
          refine pt_s (pc1 := 25) (st1 := [.int 6]) rfl rfl (fun _ => rfl) ?_
          refine pt_s (pc1 := 26) (st1 := [.retAddr 0, .int 6]) rfl rfl (fun _ => rfl) ?_
          refine pt_s (pc1 := 27) (st1 := [.int 6, .int 6]) rfl rfl (fun _ => rfl) ?_
          refine pt_s (pc1 := 29) (st1 := [.int 6, .int 6, .int 6]) rfl rfl (fun _ => rfl) ?_
          refine pt_s (pc1 := 30) (st1 := [.int 0, .int 6]) rfl rfl (fun _ => rfl) ?_
          refine pt_bt (t := 2777) (off := 2747) (bb := decide ((0 : Int32) < (6 : Int32))) (st1 := []) rfl rfl rfl rfl rfl (by decide) ?_
          refine pt_s (pc1 := 2778) (st1 := [.int 1]) rfl rfl (fun _ => rfl) ?_
          exact pt_e rfl ⟨rfl, (rfl : px_ins pm_law 2778 = some (.ireturn, 1))⟩
    · have ha5 : 21 ≤ a5.toInt ∧ a5.toInt ≤ 2147483647 := ⟨by omega, ha5.2⟩
      refine pt_s (pc1 := 2646) (st1 := []) rfl rfl (fun _ => rfl) ?_
      refine pt_s (pc1 := 2647) (st1 := [.ref 0]) rfl rfl (fun _ => rfl) ?_
      refine pt_s (pc1 := 2648) (st1 := [.retAddr 0, .ref 0]) rfl rfl (fun _ => rfl) ?_
      refine pt_s (pc1 := 2650) (st1 := [.int 0, .retAddr 0, .ref 0]) rfl rfl (fun _ => rfl) ?_
      refine pt_s (pc1 := 2651) (st1 := [.int 1, .int 0, .retAddr 0, .ref 0]) rfl rfl (fun _ => rfl) ?_
      refine pt_s (pc1 := 2652) (st1 := [.int 1, .retAddr 0, .ref 0]) rfl rfl (fun _ => rfl) ?_
      refine pt_s (pc1 := 2653) (st1 := [.int a1, .ref 0]) rfl rfl (fun _ => rfl) ?_
      refine pt_s (pc1 := 2654) (st1 := [.retAddr 0, .int a1, .ref 0]) rfl rfl (fun _ => rfl) ?_
      refine pt_s (pc1 := 2656) (st1 := [.int 0, .retAddr 0, .int a1, .ref 0]) rfl rfl (fun _ => rfl) ?_
      refine pt_s (pc1 := 2657) (st1 := [.int 2, .int 0, .retAddr 0, .int a1, .ref 0]) rfl rfl (fun _ => rfl) ?_
      refine pt_s (pc1 := 2658) (st1 := [.int 2, .retAddr 0, .int a1, .ref 0]) rfl rfl (fun _ => rfl) ?_
      refine pt_s (pc1 := 2659) (st1 := [.int a2, .int a1, .ref 0]) rfl rfl (fun _ => rfl) ?_
      refine pt_s (pc1 := 2660) (st1 := [.retAddr 0, .int a2, .int a1, .ref 0]) rfl rfl (fun _ => rfl) ?_
      refine pt_s (pc1 := 2662) (st1 := [.int 0, .retAddr 0, .int a2, .int a1, .ref 0]) rfl rfl (fun _ => rfl) ?_
      refine pt_s (pc1 := 2663) (st1 := [.int 3, .int 0, .retAddr 0, .int a2, .int a1, .ref 0]) rfl rfl (fun _ => rfl) ?_
      refine pt_s (pc1 := 2664) (st1 := [.int 3, .retAddr 0, .int a2, .int a1, .ref 0]) rfl rfl (fun _ => rfl) ?_
      refine pt_s (pc1 := 2665) (st1 := [.int a3, .int a2, .int a1, .ref 0]) rfl rfl (fun _ => rfl) ?_
      refine pt_s (pc1 := 2666) (st1 := [.retAddr 0, .int a3, .int a2, .int a1, .ref 0]) rfl rfl (fun _ => rfl) ?_
      refine pt_s (pc1 := 2668) (st1 := [.int 0, .retAddr 0, .int a3, .int a2, .int a1, .ref 0]) rfl rfl (fun _ => rfl) ?_
      refine pt_s (pc1 := 2669) (st1 := [.int 4, .int 0, .retAddr 0, .int a3, .int a2, .int a1, .ref 0]) rfl rfl (fun _ => rfl) ?_
      refine pt_s (pc1 := 2670) (st1 := [.int 4, .retAddr 0, .int a3, .int a2, .int a1, .ref 0]) rfl rfl (fun _ => rfl) ?_
      refine pt_s (pc1 := 2671) (st1 := [.int a4, .int a3, .int a2, .int a1, .ref 0]) rfl rfl (fun _ => rfl) ?_
      refine pt_s (pc1 := 2672) (st1 := [.retAddr 0, .int a4, .int a3, .int a2, .int a1, .ref 0]) rfl rfl (fun _ => rfl) ?_
      refine pt_s (pc1 := 2674) (st1 := [.int 0, .retAddr 0, .int a4, .int a3, .int a2, .int a1, .ref 0]) rfl rfl (fun _ => rfl) ?_
      refine pt_s (pc1 := 2675) (st1 := [.int 5, .int 0, .retAddr 0, .int a4, .int a3, .int a2, .int a1, .ref 0]) rfl rfl (fun _ => rfl) ?_
      refine pt_s (pc1 := 2676) (st1 := [.int 5, .retAddr 0, .int a4, .int a3, .int a2, .int a1, .ref 0]) rfl rfl (fun _ => rfl) ?_
      refine pt_s (pc1 := 2677) (st1 := [.int a5, .int a4, .int a3, .int a2, .int a1, .ref 0]) rfl rfl (fun _ => rfl) ?_
      refine pt_s (pc1 := 2678) (st1 := [.ref 164, .int a5, .int a4, .int a3, .int a2, .int a1, .ref 0]) rfl rfl (fun _ => rfl) ?_
      refine pt_callv (N := pm_L_wouldHold) (as := [.ref 0, .int a1, .int a2, .int a3, .int a4, .int a5, .ref 164]) (rest := []) (f := 2047) (l := 83973) (c1 := 1) (k1 := 6) (c2 := 599836) (k2 := 7274189) (v := some (.int 1)) (h1 := ph_1) rfl rfl (fun _ => rfl) ?_ (Nat.le_of_ble_eq_true rfl) (Nat.le_of_ble_eq_true rfl) ?_
      · refine px_C_of rfl ?_
        refine pr_s (pc1 := 2) (st1 := [.ref 164]) rfl (fun _ => rfl) ?_
        refine pr_s (pc1 := 3) (st1 := [.int 0, .ref 164]) rfl (fun _ => rfl) ?_
        refine pr_s (pc1 := 4) (st1 := [.ref 0, .int 0, .ref 164]) rfl (fun _ => rfl) ?_
        refine pr_s (pc1 := 5) (st1 := [.int a1, .ref 0, .int 0, .ref 164]) rfl (fun _ => rfl) ?_
        refine pr_s (pc1 := 6) (st1 := [.int a2, .int a1, .ref 0, .int 0, .ref 164]) rfl (fun _ => rfl) ?_
        refine pr_s (pc1 := 7) (st1 := [.int a3, .int a2, .int a1, .ref 0, .int 0, .ref 164]) rfl (fun _ => rfl) ?_
        refine pr_s (pc1 := 9) (st1 := [.int a4, .int a3, .int a2, .int a1, .ref 0, .int 0, .ref 164]) rfl (fun _ => rfl) ?_
        refine pr_s (pc1 := 11) (st1 := [.int a5, .int a4, .int a3, .int a2, .int a1, .ref 0, .int 0, .ref 164]) rfl (fun _ => rfl) ?_
        refine pr_callx (N := pm_X6_wouldHold) (as := [.ref 0, .int a1, .int a2, .int a3, .int a4, .int a5]) (rest := [.int 0, .ref 164]) (f := 2046) (l := 83948) (c1 := 1) (k1 := 6) (c2 := 0) (k2 := 0) (E := 12) (h1 := ph_1) (a := 26) (y1 := 7) (y2 := 2) rfl (fun ex => px_inv_hs ex rfl rfl rfl pg_0 rfl rfl rfl rfl) ?_ (Nat.le_of_ble_eq_true rfl) (Nat.le_of_ble_eq_true rfl) rfl rfl rfl rfl ?_
        · refine px_C_of rfl ?_
          refine pr_s (pc1 := 2) (st1 := [.int a5]) rfl (fun _ => rfl) ?_
          refine pr_callo (N := pm_X6_needMost) (as := [.int a5]) (rest := []) (f := 2045) (l := 83928) (E := 12) (h1 := ph_1) rfl (fun _ => rfl) ?_ rfl ⟨rfl, rfl⟩
          · refine px_C_of rfl ?_
            refine pr_s (pc1 := 1) (st1 := [.int a5]) rfl (fun _ => rfl) ?_
            refine pr_s (pc1 := 2) (st1 := [.int 1, .int a5]) rfl (fun _ => rfl) ?_
            refine pr_bf (t := 11) (off := 9) (bb := decide (a5 < 1)) (st1 := []) rfl rfl rfl rfl (pb_ltF ha5.1 (show (1 : Int32).toInt ≤ 1 by decide) (by decide)) ?_
            refine pr_s (pc1 := 6) (st1 := [.int a5]) rfl (fun _ => rfl) ?_
            refine pr_s (pc1 := 8) (st1 := [.int 20, .int a5]) rfl (fun _ => rfl) ?_
            refine pr_bf (t := 22) (off := 14) (bb := decide (a5 ≤ 20)) (st1 := []) rfl rfl rfl rfl (pb_leF ha5.1 (show (20 : Int32).toInt ≤ 20 by decide) (by decide)) ?_
            refine pr_mh (z1 := 1) (z2 := 6) (c1 := 0) (k1 := 0) (pc1 := 21) (n := 165) (r := []) (h1 := ph_1) (es := fun n => [.inr (12, [])]) rfl (fun _ => rfl) pl_0 rfl (Nat.le_of_ble_eq_true rfl) (Nat.le_of_ble_eq_true rfl) ?_
            exact pr_e rfl (fun _ => rfl) ⟨rfl, rfl⟩
        show px_R _ _ _ _ (28, [(0, .ref 0), (1, .int a1), (2, .int a2), (3, .int a3), (4, .int a4), (5, .int a5), (6, .ref 164)], [], _) _ _ _
        refine pr_s (pc1 := 29) (st1 := [.int 1]) rfl (fun _ => rfl) ?_
        exact pr_e rfl (fun _ => rfl) ⟨rfl, rfl⟩
      show px_T _ _ _ _ (2681, [(4, .int 0), (3, .ref 164), (2, .ref 136), (1, .ref 0), (0, .retAddr 0)], [.int 1], _) _ _ _
      refine pt_s (pc1 := 2683) (lv1 := [(5, .int 1), (4, .int 0), (3, .ref 164), (2, .ref 136), (1, .ref 0), (0, .retAddr 0)]) (st1 := []) rfl rfl (fun _ => rfl) ?_
      refine pt_s (pc1 := 2684) (st1 := [.ref 136]) rfl rfl (fun _ => rfl) ?_
      refine pt_s (pc1 := 2685) (st1 := [.retAddr 0, .ref 136]) rfl rfl (fun _ => rfl) ?_
      refine pt_s (pc1 := 2687) (st1 := [.int 0, .retAddr 0, .ref 136]) rfl rfl (fun _ => rfl) ?_
      refine pt_s (pc1 := 2688) (st1 := [.int 1, .int 0, .retAddr 0, .ref 136]) rfl rfl (fun _ => rfl) ?_
      refine pt_s (pc1 := 2689) (st1 := [.int 1, .retAddr 0, .ref 136]) rfl rfl (fun _ => rfl) ?_
      refine pt_s (pc1 := 2690) (st1 := [.int a1, .ref 136]) rfl rfl (fun _ => rfl) ?_
      refine pt_s (pc1 := 2691) (st1 := [.retAddr 0, .int a1, .ref 136]) rfl rfl (fun _ => rfl) ?_
      refine pt_s (pc1 := 2693) (st1 := [.int 0, .retAddr 0, .int a1, .ref 136]) rfl rfl (fun _ => rfl) ?_
      refine pt_s (pc1 := 2694) (st1 := [.int 2, .int 0, .retAddr 0, .int a1, .ref 136]) rfl rfl (fun _ => rfl) ?_
      refine pt_s (pc1 := 2695) (st1 := [.int 2, .retAddr 0, .int a1, .ref 136]) rfl rfl (fun _ => rfl) ?_
      refine pt_s (pc1 := 2696) (st1 := [.int a2, .int a1, .ref 136]) rfl rfl (fun _ => rfl) ?_
      refine pt_s (pc1 := 2697) (st1 := [.retAddr 0, .int a2, .int a1, .ref 136]) rfl rfl (fun _ => rfl) ?_
      refine pt_s (pc1 := 2699) (st1 := [.int 0, .retAddr 0, .int a2, .int a1, .ref 136]) rfl rfl (fun _ => rfl) ?_
      refine pt_s (pc1 := 2700) (st1 := [.int 3, .int 0, .retAddr 0, .int a2, .int a1, .ref 136]) rfl rfl (fun _ => rfl) ?_
      refine pt_s (pc1 := 2701) (st1 := [.int 3, .retAddr 0, .int a2, .int a1, .ref 136]) rfl rfl (fun _ => rfl) ?_
      refine pt_s (pc1 := 2702) (st1 := [.int a3, .int a2, .int a1, .ref 136]) rfl rfl (fun _ => rfl) ?_
      refine pt_s (pc1 := 2703) (st1 := [.retAddr 0, .int a3, .int a2, .int a1, .ref 136]) rfl rfl (fun _ => rfl) ?_
      refine pt_s (pc1 := 2705) (st1 := [.int 0, .retAddr 0, .int a3, .int a2, .int a1, .ref 136]) rfl rfl (fun _ => rfl) ?_
      refine pt_s (pc1 := 2706) (st1 := [.int 4, .int 0, .retAddr 0, .int a3, .int a2, .int a1, .ref 136]) rfl rfl (fun _ => rfl) ?_
      refine pt_s (pc1 := 2707) (st1 := [.int 4, .retAddr 0, .int a3, .int a2, .int a1, .ref 136]) rfl rfl (fun _ => rfl) ?_
      refine pt_s (pc1 := 2708) (st1 := [.int a4, .int a3, .int a2, .int a1, .ref 136]) rfl rfl (fun _ => rfl) ?_
      refine pt_s (pc1 := 2709) (st1 := [.retAddr 0, .int a4, .int a3, .int a2, .int a1, .ref 136]) rfl rfl (fun _ => rfl) ?_
      refine pt_s (pc1 := 2711) (st1 := [.int 0, .retAddr 0, .int a4, .int a3, .int a2, .int a1, .ref 136]) rfl rfl (fun _ => rfl) ?_
      refine pt_s (pc1 := 2712) (st1 := [.int 5, .int 0, .retAddr 0, .int a4, .int a3, .int a2, .int a1, .ref 136]) rfl rfl (fun _ => rfl) ?_
      refine pt_s (pc1 := 2713) (st1 := [.int 5, .retAddr 0, .int a4, .int a3, .int a2, .int a1, .ref 136]) rfl rfl (fun _ => rfl) ?_
      refine pt_s (pc1 := 2714) (st1 := [.int a5, .int a4, .int a3, .int a2, .int a1, .ref 136]) rfl rfl (fun _ => rfl) ?_
      refine pt_callv (N := pm_X10_wouldHold) (as := [.ref 136, .int a1, .int a2, .int a3, .int a4, .int a5]) (rest := []) (f := 2047) (l := 83975) (c1 := 0) (k1 := 0) (c2 := 599836) (k2 := 7274189) (v := some (.int 0)) (h1 := ph_2) rfl rfl (fun ex => px_inv_hs ex rfl rfl rfl pg_2 rfl rfl rfl rfl) ?_ (Nat.le_of_ble_eq_true rfl) (Nat.le_of_ble_eq_true rfl) ?_
      · refine px_C_of rfl ?_
        refine pr_s (pc1 := 1) (st1 := [.ref 136]) rfl (fun _ => rfl) ?_
        refine pr_s (pc1 := 3) (st1 := [.int a5, .ref 136]) rfl (fun _ => rfl) ?_
        refine pr_s (pc1 := 4) (st1 := [.int 1, .int a5, .ref 136]) rfl (fun _ => rfl) ?_
        refine pr_s (pc1 := 6) (st1 := [.int 20, .int 1, .int a5, .ref 136]) rfl (fun _ => rfl) ?_
        refine pr_callv (N := pm_X10_is) (as := [.int a5, .int 1, .int 20]) (rest := [.ref 136]) (f := 2046) (l := 83953) (c1 := 0) (k1 := 0) (c2 := 0) (k2 := 0) (v := some (.int 0)) (h1 := ph_1) rfl (fun _ => rfl) ?_ (Nat.le_of_ble_eq_true rfl) (Nat.le_of_ble_eq_true rfl) ?_
        · refine px_C_of rfl ?_
          refine pr_s (pc1 := 1) (st1 := [.int a5]) rfl (fun _ => rfl) ?_
          refine pr_s (pc1 := 2) (st1 := [.int 1, .int a5]) rfl (fun _ => rfl) ?_
          refine pr_bf (t := 14) (off := 12) (bb := decide (a5 < 1)) (st1 := []) rfl rfl rfl rfl (pb_ltF ha5.1 (show (1 : Int32).toInt ≤ 1 by decide) (by decide)) ?_
          refine pr_s (pc1 := 6) (st1 := [.int a5]) rfl (fun _ => rfl) ?_
          refine pr_s (pc1 := 7) (st1 := [.int 20, .int a5]) rfl (fun _ => rfl) ?_
          refine pr_bt (t := 14) (off := 7) (bb := decide ((20 : Int32) < a5)) (st1 := []) rfl rfl rfl rfl (pb_ltT (show (20 : Int32).toInt ≤ 20 by decide) ha5.1 (by decide)) ?_
          refine pr_s (pc1 := 15) (st1 := [.int 0]) rfl (fun _ => rfl) ?_
          exact pr_e rfl (fun _ => rfl) ⟨rfl, rfl⟩
        show px_R _ _ _ _ (9, [(0, .ref 136), (1, .int a1), (2, .int a2), (3, .int a3), (4, .int a4), (5, .int a5)], [.int 0, .ref 136], _) _ _ _
        refine pr_bt (t := 16) (off := 7) (bb := decide ((0 : Int32) = 0)) (st1 := [.ref 136]) rfl rfl rfl rfl (by decide) ?_
        refine pr_s (pc1 := 17) (st1 := [.int 1, .ref 136]) rfl (fun _ => rfl) ?_
        refine pr_putf (pc1 := 20) (h1 := ph_2) rfl rfl pg_2 rfl rfl rfl rfl rfl rfl rfl ?_
        refine pr_s (pc1 := 21) (st1 := [.ref 136]) rfl (fun _ => rfl) ?_
        refine pr_getf (pc1 := 24) (v := .int 1) rfl rfl pg_3 rfl rfl ?_
        refine pr_bf (t := 29) (off := 5) (bb := decide ((1 : Int32) ≤ 0)) (st1 := []) rfl rfl rfl rfl (by decide) ?_
        refine pr_s (pc1 := 28) (st1 := [.int 0]) rfl (fun _ => rfl) ?_
        exact pr_e rfl (fun _ => rfl) ⟨rfl, rfl⟩
      show px_T _ _ _ _ (2717, [(5, .int 1), (4, .int 0), (3, .ref 164), (2, .ref 136), (1, .ref 0), (0, .retAddr 0)], [.int 0], _) _ _ _
      refine pt_s (pc1 := 2719) (lv1 := [(6, .int 0), (5, .int 1), (4, .int 0), (3, .ref 164), (2, .ref 136), (1, .ref 0), (0, .retAddr 0)]) (st1 := []) rfl rfl (fun _ => rfl) ?_
      refine pt_s (pc1 := 2720) (st1 := [.ref 136]) rfl rfl (fun _ => rfl) ?_
      refine pt_callv (N := pm_X10_thrown) (as := [.ref 136]) (rest := []) (f := 2047) (l := 83980) (c1 := 0) (k1 := 0) (c2 := 599836) (k2 := 7274189) (v := some (.int 1)) (h1 := ph_2) rfl rfl (fun ex => px_inv_hs ex rfl rfl rfl pg_3 rfl rfl rfl rfl) ?_ (Nat.le_of_ble_eq_true rfl) (Nat.le_of_ble_eq_true rfl) ?_
      · refine px_C_of rfl ?_
        refine pr_s (pc1 := 1) (st1 := [.ref 136]) rfl (fun _ => rfl) ?_
        refine pr_getf (pc1 := 4) (v := .int 1) rfl rfl pg_3 rfl rfl ?_
        exact pr_e rfl (fun _ => rfl) ⟨rfl, rfl⟩
      show px_T _ _ _ _ (2723, [(6, .int 0), (5, .int 1), (4, .int 0), (3, .ref 164), (2, .ref 136), (1, .ref 0), (0, .retAddr 0)], [.int 1], _) _ _ _
      refine pt_s (pc1 := 2725) (st1 := [.int 1, .int 1]) rfl rfl (fun _ => rfl) ?_
      refine pt_bt (t := 2730) (off := 5) (bb := decide ((1 : Int32) = 1)) (st1 := []) rfl rfl rfl rfl rfl (by decide) ?_
      refine pt_s (pc1 := 2732) (st1 := [.int 1]) rfl rfl (fun _ => rfl) ?_
      refine pt_bt (t := 2754) (off := 22) (bb := !decide ((1 : Int32) = 0)) (st1 := []) rfl rfl rfl rfl rfl (px_not_t (by decide)) ?_
      refine pt_s (pc1 := 2771) (st1 := []) rfl rfl (fun _ => rfl) ?_
      refine pt_s (pc1 := 2774) (lv1 := [(4, .int 6), (6, .int 0), (5, .int 1), (3, .ref 164), (2, .ref 136), (1, .ref 0), (0, .retAddr 0)]) (st1 := []) rfl rfl (fun _ => rfl) ?_
      refine pt_s (pc1 := 23) (st1 := []) rfl rfl (fun _ => rfl) ?_
      refine pt_s (pc1 := 25) (st1 := [.int 6]) rfl rfl (fun _ => rfl) ?_
      refine pt_s (pc1 := 26) (st1 := [.retAddr 0, .int 6]) rfl rfl (fun _ => rfl) ?_
      refine pt_s (pc1 := 27) (st1 := [.int 6, .int 6]) rfl rfl (fun _ => rfl) ?_
      refine pt_s (pc1 := 29) (st1 := [.int 6, .int 6, .int 6]) rfl rfl (fun _ => rfl) ?_
      refine pt_s (pc1 := 30) (st1 := [.int 0, .int 6]) rfl rfl (fun _ => rfl) ?_
      refine pt_bt (t := 2777) (off := 2747) (bb := decide ((0 : Int32) < (6 : Int32))) (st1 := []) rfl rfl rfl rfl rfl (by decide) ?_
      refine pt_s (pc1 := 2778) (st1 := [.int 1]) rfl rfl (fun _ => rfl) ?_
      exact pt_e rfl ⟨rfl, (rfl : px_ins pm_law 2778 = some (.ireturn, 1))⟩
set_option maxRecDepth 100000 in
set_option maxHeartbeats 40000000 in
theorem px_op_44 (a0 a1 a2 a3 a4 a5 : Int32) : px_T (some [a0, a1, a2, a3, a4, a5]) pm_law 2048 84000 (40, [(4, .int 0), (3, .ref 164), (2, .ref 136), (1, .ref 0), (0, .retAddr 0)], [.int 44], px_hs) 599837 7274195 (fun s1 => s1.2.2.1 = [.int 1] ∧ px_ins pm_law s1.1 = some (.ireturn, 1)) := by
  refine pt_s (pc1 := 2757) (st1 := []) rfl rfl (fun _ => rfl) ?_
  refine pt_s (pc1 := 2758) (st1 := [.ref 0]) rfl rfl (fun _ => rfl) ?_
  refine pt_callv (N := pm_X6_digest) (as := [.ref 0]) (rest := []) (f := 2047) (l := 83974) (c1 := 0) (k1 := 0) (c2 := 599837) (k2 := 7274195) (v := some (.long 1534238394738462484)) (h1 := ph_195) rfl rfl (fun ex => px_inv_hs ex rfl rfl rfl pg_0 rfl rfl rfl rfl) ?_ (Nat.le_of_ble_eq_true rfl) (Nat.le_of_ble_eq_true rfl) ?_
  · exact px_C_none pc_5 (Nat.le_of_ble_eq_true rfl) (Nat.le_of_ble_eq_true rfl) (Nat.le_of_ble_eq_true rfl) (Nat.le_of_ble_eq_true rfl)
  show px_T _ _ _ _ (2761, [(4, .int 0), (3, .ref 164), (2, .ref 136), (1, .ref 0), (0, .retAddr 0)], [.long 1534238394738462484], _) _ _ _
  refine pt_s (pc1 := 2762) (st1 := [.ref 136, .long 1534238394738462484]) rfl rfl (fun _ => rfl) ?_
  refine pt_callv (N := pm_X10_digest) (as := [.ref 136]) (rest := [.long 1534238394738462484]) (f := 2047) (l := 83971) (c1 := 2) (k1 := 9) (c2 := 599835) (k2 := 7274186) (v := some (.long 1534238394738462484)) (h1 := ph_197) rfl rfl (fun ex => px_inv_hs ex rfl rfl rfl pg_523 rfl rfl rfl rfl) ?_ (Nat.le_of_ble_eq_true rfl) (Nat.le_of_ble_eq_true rfl) ?_
  · exact px_C_none pc_6 (Nat.le_of_ble_eq_true rfl) (Nat.le_of_ble_eq_true rfl) (Nat.le_of_ble_eq_true rfl) (Nat.le_of_ble_eq_true rfl)
  show px_T _ _ _ _ (2765, [(4, .int 0), (3, .ref 164), (2, .ref 136), (1, .ref 0), (0, .retAddr 0)], [.long 1534238394738462484, .long 1534238394738462484], _) _ _ _
  refine pt_s (pc1 := 2766) (st1 := [.int 0]) rfl rfl (fun _ => rfl) ?_
  refine pt_bt (t := 2771) (off := 5) (bb := decide ((0 : Int32) = 0)) (st1 := []) rfl rfl rfl rfl rfl (by decide) ?_
  refine pt_s (pc1 := 2774) (lv1 := [(4, .int 6), (3, .ref 164), (2, .ref 136), (1, .ref 0), (0, .retAddr 0)]) (st1 := []) rfl rfl (fun _ => rfl) ?_
  refine pt_s (pc1 := 23) (st1 := []) rfl rfl (fun _ => rfl) ?_
  refine pt_s (pc1 := 25) (st1 := [.int 6]) rfl rfl (fun _ => rfl) ?_
  refine pt_s (pc1 := 26) (st1 := [.retAddr 0, .int 6]) rfl rfl (fun _ => rfl) ?_
  refine pt_s (pc1 := 27) (st1 := [.int 6, .int 6]) rfl rfl (fun _ => rfl) ?_
  refine pt_s (pc1 := 29) (st1 := [.int 6, .int 6, .int 6]) rfl rfl (fun _ => rfl) ?_
  refine pt_s (pc1 := 30) (st1 := [.int 0, .int 6]) rfl rfl (fun _ => rfl) ?_
  refine pt_bt (t := 2777) (off := 2747) (bb := decide ((0 : Int32) < (6 : Int32))) (st1 := []) rfl rfl rfl rfl rfl (by decide) ?_
  refine pt_s (pc1 := 2778) (st1 := [.int 1]) rfl rfl (fun _ => rfl) ?_
  exact pt_e rfl ⟨rfl, (rfl : px_ins pm_law 2778 = some (.ireturn, 1))⟩
