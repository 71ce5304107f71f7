/-! THE LAW'S CALLS, ONE BY ONE, ON A NEW OBJECT (wip/gen/p1gen.py) -/
set_option maxRecDepth 100000 in
set_option maxHeartbeats 40000000 in
theorem px_op_23 (a0 a1 a2 a3 a4 a5 : Int32) : px_T (some [a0, a1, a2, a3, a4, a5]) pm_law 2048 84000 (40, [(4, .int 0), (3, .ref 164), (2, .ref 136), (1, .ref 0), (0, .retAddr 0)], [.int 23], px_hs) 599837 7274195 (fun s1 => s1.2.2.1 = [.int 1] ∧ px_ins pm_law s1.1 = some (.ireturn, 1)) := by
  have ha1 : (-2147483648) ≤ a1.toInt ∧ a1.toInt ≤ 2147483647 := ⟨Int32.le_toInt a1, Int32.toInt_le a1⟩
  by_cases hs : a1.toInt < 0
  · have ha1 : (-2147483648) ≤ a1.toInt ∧ a1.toInt ≤ (-1) := ⟨ha1.1, by omega⟩
    refine pt_s (pc1 := 1610) (st1 := []) rfl rfl (fun _ => rfl) ?_
    refine pt_s (pc1 := 1611) (st1 := [.ref 0]) rfl rfl (fun _ => rfl) ?_
    refine pt_s (pc1 := 1612) (st1 := [.retAddr 0, .ref 0]) rfl rfl (fun _ => rfl) ?_
    refine pt_s (pc1 := 1614) (st1 := [.int 0, .retAddr 0, .ref 0]) rfl rfl (fun _ => rfl) ?_
    refine pt_s (pc1 := 1615) (st1 := [.int 1, .int 0, .retAddr 0, .ref 0]) rfl rfl (fun _ => rfl) ?_
    refine pt_s (pc1 := 1616) (st1 := [.int 1, .retAddr 0, .ref 0]) rfl rfl (fun _ => rfl) ?_
    refine pt_s (pc1 := 1617) (st1 := [.int a1, .ref 0]) rfl rfl (fun _ => rfl) ?_
    refine pt_s (pc1 := 1618) (st1 := [.retAddr 0, .int a1, .ref 0]) rfl rfl (fun _ => rfl) ?_
    refine pt_s (pc1 := 1620) (st1 := [.int 0, .retAddr 0, .int a1, .ref 0]) rfl rfl (fun _ => rfl) ?_
    refine pt_s (pc1 := 1621) (st1 := [.int 2, .int 0, .retAddr 0, .int a1, .ref 0]) rfl rfl (fun _ => rfl) ?_
    refine pt_s (pc1 := 1622) (st1 := [.int 2, .retAddr 0, .int a1, .ref 0]) rfl rfl (fun _ => rfl) ?_
    refine pt_s (pc1 := 1623) (st1 := [.int a2, .int a1, .ref 0]) rfl rfl (fun _ => rfl) ?_
    refine pt_s (pc1 := 1624) (st1 := [.retAddr 0, .int a2, .int a1, .ref 0]) rfl rfl (fun _ => rfl) ?_
    refine pt_s (pc1 := 1626) (st1 := [.int 0, .retAddr 0, .int a2, .int a1, .ref 0]) rfl rfl (fun _ => rfl) ?_
    refine pt_s (pc1 := 1627) (st1 := [.int 3, .int 0, .retAddr 0, .int a2, .int a1, .ref 0]) rfl rfl (fun _ => rfl) ?_
    refine pt_s (pc1 := 1628) (st1 := [.int 3, .retAddr 0, .int a2, .int a1, .ref 0]) rfl rfl (fun _ => rfl) ?_
    refine pt_s (pc1 := 1629) (st1 := [.int a3, .int a2, .int a1, .ref 0]) rfl rfl (fun _ => rfl) ?_
    refine pt_s (pc1 := 1630) (st1 := [.retAddr 0, .int a3, .int a2, .int a1, .ref 0]) rfl rfl (fun _ => rfl) ?_
    refine pt_s (pc1 := 1632) (st1 := [.int 0, .retAddr 0, .int a3, .int a2, .int a1, .ref 0]) rfl rfl (fun _ => rfl) ?_
    refine pt_s (pc1 := 1633) (st1 := [.int 4, .int 0, .retAddr 0, .int a3, .int a2, .int a1, .ref 0]) rfl rfl (fun _ => rfl) ?_
    refine pt_s (pc1 := 1634) (st1 := [.int 4, .retAddr 0, .int a3, .int a2, .int a1, .ref 0]) rfl rfl (fun _ => rfl) ?_
    refine pt_s (pc1 := 1635) (st1 := [.int a4, .int a3, .int a2, .int a1, .ref 0]) rfl rfl (fun _ => rfl) ?_
    refine pt_callv (N := pm_X6_find) (as := [.ref 0, .int a1, .int a2, .int a3, .int a4]) (rest := []) (f := 2047) (l := 83976) (c1 := 0) (k1 := 0) (c2 := 599837) (k2 := 7274195) (v := some (.int (-1))) (h1 := px_hs) rfl rfl (fun ex => px_inv_hs ex rfl rfl rfl pg_0 rfl rfl rfl rfl) ?_ (Nat.le_of_ble_eq_true rfl) (Nat.le_of_ble_eq_true rfl) ?_
    · refine px_C_of rfl ?_
      refine pr_s (pc1 := 1) (st1 := [.ref 0]) rfl (fun _ => rfl) ?_
      refine pr_getf (pc1 := 4) (v := .ref 92) rfl rfl pg_0 rfl rfl ?_
      refine pr_getf (pc1 := 7) (v := .ref 93) rfl rfl pg_22 rfl rfl ?_
      refine pr_s (pc1 := 8) (st1 := [.ref 0, .ref 93]) rfl (fun _ => rfl) ?_
      refine pr_getf (pc1 := 11) (v := .ref 92) rfl rfl pg_0 rfl rfl ?_
      refine pr_getf (pc1 := 14) (v := .ref 93) rfl rfl pg_22 rfl rfl ?_
      refine pr_s (pc1 := 15) (st1 := [.int a1, .ref 93, .ref 93]) rfl (fun _ => rfl) ?_
      refine pr_s (pc1 := 16) (st1 := [.int a2, .int a1, .ref 93, .ref 93]) rfl (fun _ => rfl) ?_
      refine pr_s (pc1 := 17) (st1 := [.int a3, .int a2, .int a1, .ref 93, .ref 93]) rfl (fun _ => rfl) ?_
      refine pr_s (pc1 := 19) (st1 := [.int a4, .int a3, .int a2, .int a1, .ref 93, .ref 93]) rfl (fun _ => rfl) ?_
      refine pr_callv (N := pm_X2_placeLike) (as := [.ref 93, .int a1, .int a2, .int a3, .int a4]) (rest := [.ref 93]) (f := 2046) (l := 83950) (c1 := 0) (k1 := 0) (c2 := 0) (k2 := 0) (v := some (.int (-1))) (h1 := px_hs) rfl (fun ex => px_inv_hs ex rfl rfl rfl pg_23 rfl rfl rfl rfl) ?_ (Nat.le_of_ble_eq_true rfl) (Nat.le_of_ble_eq_true rfl) ?_
      · refine px_C_of rfl ?_
        refine pr_s (pc1 := 1) (st1 := [.int a1]) rfl (fun _ => rfl) ?_
        refine pr_bt (t := 10) (off := 9) (bb := decide (a1 < 0)) (st1 := []) rfl rfl rfl rfl (pb_ltT ha1.2 (show 0 ≤ (0 : Int32).toInt by decide) (by decide)) ?_
        refine pr_s (pc1 := 11) (st1 := [.int (-1)]) rfl (fun _ => rfl) ?_
        exact pr_e rfl (fun _ => rfl) ⟨rfl, rfl⟩
      show px_R _ _ _ _ (22, [(0, .ref 0), (1, .int a1), (2, .int a2), (3, .int a3), (4, .int a4)], [.int (-1), .ref 93], _) _ _ _
      refine pr_callv (N := pm_X2_numberAt) (as := [.ref 93, .int (-1)]) (rest := []) (f := 2046) (l := 83955) (c1 := 0) (k1 := 0) (c2 := 0) (k2 := 0) (v := some (.int (-1))) (h1 := px_hs) rfl (fun ex => px_inv_hs ex rfl rfl rfl pg_23 rfl rfl rfl rfl) ?_ (Nat.le_of_ble_eq_true rfl) (Nat.le_of_ble_eq_true rfl) ?_
      · refine px_C_of rfl ?_
        refine pr_s (pc1 := 1) (st1 := [.int (-1)]) rfl (fun _ => rfl) ?_
        refine pr_bt (t := 19) (off := 18) (bb := decide (((-1) : Int32) < 0)) (st1 := []) rfl rfl rfl rfl (by decide) ?_
        refine pr_s (pc1 := 20) (st1 := [.int (-1)]) rfl (fun _ => rfl) ?_
        exact pr_e rfl (fun _ => rfl) ⟨rfl, rfl⟩
      show px_R _ _ _ _ (25, [(0, .ref 0), (1, .int a1), (2, .int a2), (3, .int a3), (4, .int a4)], [.int (-1)], _) _ _ _
      exact pr_e rfl (fun _ => rfl) ⟨rfl, rfl⟩
    show px_T _ _ _ _ (1638, [(4, .int 0), (3, .ref 164), (2, .ref 136), (1, .ref 0), (0, .retAddr 0)], [.int (-1)], _) _ _ _
    refine pt_s (pc1 := 1639) (st1 := [.ref 136, .int (-1)]) rfl rfl (fun _ => rfl) ?_
    refine pt_s (pc1 := 1640) (st1 := [.retAddr 0, .ref 136, .int (-1)]) rfl rfl (fun _ => rfl) ?_
    refine pt_s (pc1 := 1642) (st1 := [.int 0, .retAddr 0, .ref 136, .int (-1)]) rfl rfl (fun _ => rfl) ?_
    refine pt_s (pc1 := 1643) (st1 := [.int 1, .int 0, .retAddr 0, .ref 136, .int (-1)]) rfl rfl (fun _ => rfl) ?_
    refine pt_s (pc1 := 1644) (st1 := [.int 1, .retAddr 0, .ref 136, .int (-1)]) rfl rfl (fun _ => rfl) ?_
    refine pt_s (pc1 := 1645) (st1 := [.int a1, .ref 136, .int (-1)]) rfl rfl (fun _ => rfl) ?_
    refine pt_s (pc1 := 1646) (st1 := [.retAddr 0, .int a1, .ref 136, .int (-1)]) rfl rfl (fun _ => rfl) ?_
    refine pt_s (pc1 := 1648) (st1 := [.int 0, .retAddr 0, .int a1, .ref 136, .int (-1)]) rfl rfl (fun _ => rfl) ?_
    refine pt_s (pc1 := 1649) (st1 := [.int 2, .int 0, .retAddr 0, .int a1, .ref 136, .int (-1)]) rfl rfl (fun _ => rfl) ?_
    refine pt_s (pc1 := 1650) (st1 := [.int 2, .retAddr 0, .int a1, .ref 136, .int (-1)]) rfl rfl (fun _ => rfl) ?_
    refine pt_s (pc1 := 1651) (st1 := [.int a2, .int a1, .ref 136, .int (-1)]) rfl rfl (fun _ => rfl) ?_
    refine pt_s (pc1 := 1652) (st1 := [.retAddr 0, .int a2, .int a1, .ref 136, .int (-1)]) rfl rfl (fun _ => rfl) ?_
    refine pt_s (pc1 := 1654) (st1 := [.int 0, .retAddr 0, .int a2, .int a1, .ref 136, .int (-1)]) rfl rfl (fun _ => rfl) ?_
    refine pt_s (pc1 := 1655) (st1 := [.int 3, .int 0, .retAddr 0, .int a2, .int a1, .ref 136, .int (-1)]) rfl rfl (fun _ => rfl) ?_
    refine pt_s (pc1 := 1656) (st1 := [.int 3, .retAddr 0, .int a2, .int a1, .ref 136, .int (-1)]) rfl rfl (fun _ => rfl) ?_
    refine pt_s (pc1 := 1657) (st1 := [.int a3, .int a2, .int a1, .ref 136, .int (-1)]) rfl rfl (fun _ => rfl) ?_
    refine pt_s (pc1 := 1658) (st1 := [.retAddr 0, .int a3, .int a2, .int a1, .ref 136, .int (-1)]) rfl rfl (fun _ => rfl) ?_
    refine pt_s (pc1 := 1660) (st1 := [.int 0, .retAddr 0, .int a3, .int a2, .int a1, .ref 136, .int (-1)]) rfl rfl (fun _ => rfl) ?_
    refine pt_s (pc1 := 1661) (st1 := [.int 4, .int 0, .retAddr 0, .int a3, .int a2, .int a1, .ref 136, .int (-1)]) rfl rfl (fun _ => rfl) ?_
    refine pt_s (pc1 := 1662) (st1 := [.int 4, .retAddr 0, .int a3, .int a2, .int a1, .ref 136, .int (-1)]) rfl rfl (fun _ => rfl) ?_
    refine pt_s (pc1 := 1663) (st1 := [.int a4, .int a3, .int a2, .int a1, .ref 136, .int (-1)]) rfl rfl (fun _ => rfl) ?_
    refine pt_callv (N := pm_X10_find) (as := [.ref 136, .int a1, .int a2, .int a3, .int a4]) (rest := [.int (-1)]) (f := 2047) (l := 83975) (c1 := 0) (k1 := 0) (c2 := 599837) (k2 := 7274195) (v := some (.int (-1))) (h1 := px_hs) rfl rfl (fun ex => px_inv_hs ex rfl rfl rfl pg_1 rfl rfl rfl rfl) ?_ (Nat.le_of_ble_eq_true rfl) (Nat.le_of_ble_eq_true rfl) ?_
    · refine px_C_of rfl ?_
      refine pr_s (pc1 := 1) (st1 := [.ref 136]) rfl (fun _ => rfl) ?_
      refine pr_s (pc1 := 2) (st1 := [.int 0, .ref 136]) rfl (fun _ => rfl) ?_
      refine pr_putf (pc1 := 5) (h1 := px_hs) rfl rfl pg_1 rfl rfl rfl rfl rfl (px_set_same pg_1 rfl) rfl ?_
      refine pr_s (pc1 := 6) (st1 := [.ref 136]) rfl (fun _ => rfl) ?_
      refine pr_getf (pc1 := 9) (v := .ref 138) rfl rfl pg_1 rfl rfl ?_
      refine pr_s (pc1 := 10) (st1 := [.int a1, .ref 138]) rfl (fun _ => rfl) ?_
      refine pr_s (pc1 := 11) (st1 := [.int a2, .int a1, .ref 138]) rfl (fun _ => rfl) ?_
      refine pr_s (pc1 := 12) (st1 := [.int a3, .int a2, .int a1, .ref 138]) rfl (fun _ => rfl) ?_
      refine pr_s (pc1 := 14) (st1 := [.int a4, .int a3, .int a2, .int a1, .ref 138]) rfl (fun _ => rfl) ?_
      refine pr_callv (N := pm_X9_find) (as := [.ref 138, .int a1, .int a2, .int a3, .int a4]) (rest := []) (f := 2046) (l := 83950) (c1 := 0) (k1 := 0) (c2 := 0) (k2 := 0) (v := some (.int (-1))) (h1 := px_hs) rfl (fun ex => px_inv_hs ex rfl rfl rfl pg_66 rfl rfl rfl rfl) ?_ (Nat.le_of_ble_eq_true rfl) (Nat.le_of_ble_eq_true rfl) ?_
      · refine px_C_of rfl ?_
        refine pr_s (pc1 := 1) (st1 := [.ref 138]) rfl (fun _ => rfl) ?_
        refine pr_getf (pc1 := 4) (v := .ref 141) rfl rfl pg_66 rfl rfl ?_
        refine pr_getf (pc1 := 7) (v := .int 0) rfl rfl pg_68 rfl rfl ?_
        refine pr_s (pc1 := 8) (st1 := [.int 1, .int 0]) rfl (fun _ => rfl) ?_
        refine pr_s (pc1 := 9) (st1 := [.int (-1)]) rfl (fun _ => rfl) ?_
        refine pr_s (pc1 := 11) (lv1 := [(5, .int (-1)), (0, .ref 138), (1, .int a1), (2, .int a2), (3, .int a3), (4, .int a4)]) (st1 := []) rfl (fun _ => rfl) ?_
        refine pr_s (pc1 := 13) (st1 := [.int (-1)]) rfl (fun _ => rfl) ?_
        refine pr_bt (t := 79) (off := 66) (bb := decide (((-1) : Int32) < 0)) (st1 := []) rfl rfl rfl rfl (by decide) ?_
        refine pr_s (pc1 := 81) (st1 := [.int (-1)]) rfl (fun _ => rfl) ?_
        exact pr_e rfl (fun _ => rfl) ⟨rfl, rfl⟩
      show px_R _ _ _ _ (17, [(0, .ref 136), (1, .int a1), (2, .int a2), (3, .int a3), (4, .int a4)], [.int (-1)], _) _ _ _
      refine pr_s (pc1 := 19) (lv1 := [(5, .int (-1)), (0, .ref 136), (1, .int a1), (2, .int a2), (3, .int a3), (4, .int a4)]) (st1 := []) rfl (fun _ => rfl) ?_
      refine pr_s (pc1 := 21) (st1 := [.int (-1)]) rfl (fun _ => rfl) ?_
      refine pr_s (pc1 := 22) (st1 := [.int (-1), .int (-1)]) rfl (fun _ => rfl) ?_
      refine pr_bf (t := 29) (off := 7) (bb := !decide (((-1) : Int32) = (-1))) (st1 := []) rfl rfl rfl rfl (px_not_f (by decide)) ?_
      refine pr_s (pc1 := 26) (st1 := [.int (-1)]) rfl (fun _ => rfl) ?_
      refine pr_s (pc1 := 42) (st1 := [.int (-1)]) rfl (fun _ => rfl) ?_
      exact pr_e rfl (fun _ => rfl) ⟨rfl, rfl⟩
    show px_T _ _ _ _ (1666, [(4, .int 0), (3, .ref 164), (2, .ref 136), (1, .ref 0), (0, .retAddr 0)], [.int (-1), .int (-1)], _) _ _ _
    refine pt_bt (t := 2771) (off := 1105) (bb := decide (((-1) : Int32) = (-1))) (st1 := []) rfl rfl rfl rfl rfl (by decide) ?_
    refine pt_s (pc1 := 2774) (lv1 := [(4, .int 6), (3, .ref 164), (2, .ref 136), (1, .ref 0), (0, .retAddr 0)]) (st1 := []) rfl rfl (fun _ => rfl) ?_
    refine pt_s (pc1 := 23) (st1 := []) rfl rfl (fun _ => rfl) ?_
    refine pt_s (pc1 := 25) (st1 := [.int 6]) rfl rfl (fun _ => rfl) ?_
    refine pt_s (pc1 := 26) (st1 := [.retAddr 0, .int 6]) rfl rfl (fun _ => rfl) ?_
    refine pt_s (pc1 := 27) (st1 := [.int 6, .int 6]) rfl rfl (fun _ => rfl) ?_
    refine pt_s (pc1 := 29) (st1 := [.int 6, .int 6, .int 6]) rfl rfl (fun _ => rfl) ?_
    refine pt_s (pc1 := 30) (st1 := [.int 0, .int 6]) rfl rfl (fun _ => rfl) ?_
    refine pt_bt (t := 2777) (off := 2747) (bb := decide ((0 : Int32) < (6 : Int32))) (st1 := []) rfl rfl rfl rfl rfl (by decide) ?_
    refine pt_s (pc1 := 2778) (st1 := [.int 1]) rfl rfl (fun _ => rfl) ?_
    exact pt_e rfl ⟨rfl, (rfl : px_ins pm_law 2778 = some (.ireturn, 1))⟩
  · have ha1 : 0 ≤ a1.toInt ∧ a1.toInt ≤ 2147483647 := ⟨by omega, ha1.2⟩
    by_cases hs : a1.toInt < 8
    · have ha1 : 0 ≤ a1.toInt ∧ a1.toInt ≤ 7 := ⟨ha1.1, by omega⟩
      have hc : a1.toInt = 0 ∨ a1.toInt = 1 ∨ a1.toInt = 2 ∨ a1.toInt = 3 ∨ a1.toInt = 4 ∨ a1.toInt = 5 ∨ a1.toInt = 6 ∨ a1.toInt = 7 := by omega
      clear ha1
      rcases hc with hc | hc | hc | hc | hc | hc | hc | hc
      · obtain rfl : a1 = 0 := Int32.toInt_inj.mp (hc.trans rfl)
        refine pt_s (pc1 := 1610) (st1 := []) rfl rfl (fun _ => rfl) ?_
        refine pt_s (pc1 := 1611) (st1 := [.ref 0]) rfl rfl (fun _ => rfl) ?_
        refine pt_s (pc1 := 1612) (st1 := [.retAddr 0, .ref 0]) rfl rfl (fun _ => rfl) ?_
        refine pt_s (pc1 := 1614) (st1 := [.int 0, .retAddr 0, .ref 0]) rfl rfl (fun _ => rfl) ?_
        refine pt_s (pc1 := 1615) (st1 := [.int 1, .int 0, .retAddr 0, .ref 0]) rfl rfl (fun _ => rfl) ?_
        refine pt_s (pc1 := 1616) (st1 := [.int 1, .retAddr 0, .ref 0]) rfl rfl (fun _ => rfl) ?_
        refine pt_s (pc1 := 1617) (st1 := [.int 0, .ref 0]) rfl rfl (fun _ => rfl) ?_
        refine pt_s (pc1 := 1618) (st1 := [.retAddr 0, .int 0, .ref 0]) rfl rfl (fun _ => rfl) ?_
        refine pt_s (pc1 := 1620) (st1 := [.int 0, .retAddr 0, .int 0, .ref 0]) rfl rfl (fun _ => rfl) ?_
        refine pt_s (pc1 := 1621) (st1 := [.int 2, .int 0, .retAddr 0, .int 0, .ref 0]) rfl rfl (fun _ => rfl) ?_
        refine pt_s (pc1 := 1622) (st1 := [.int 2, .retAddr 0, .int 0, .ref 0]) rfl rfl (fun _ => rfl) ?_
        refine pt_s (pc1 := 1623) (st1 := [.int a2, .int 0, .ref 0]) rfl rfl (fun _ => rfl) ?_
        refine pt_s (pc1 := 1624) (st1 := [.retAddr 0, .int a2, .int 0, .ref 0]) rfl rfl (fun _ => rfl) ?_
        refine pt_s (pc1 := 1626) (st1 := [.int 0, .retAddr 0, .int a2, .int 0, .ref 0]) rfl rfl (fun _ => rfl) ?_
        refine pt_s (pc1 := 1627) (st1 := [.int 3, .int 0, .retAddr 0, .int a2, .int 0, .ref 0]) rfl rfl (fun _ => rfl) ?_
        refine pt_s (pc1 := 1628) (st1 := [.int 3, .retAddr 0, .int a2, .int 0, .ref 0]) rfl rfl (fun _ => rfl) ?_
        refine pt_s (pc1 := 1629) (st1 := [.int a3, .int a2, .int 0, .ref 0]) rfl rfl (fun _ => rfl) ?_
        refine pt_s (pc1 := 1630) (st1 := [.retAddr 0, .int a3, .int a2, .int 0, .ref 0]) rfl rfl (fun _ => rfl) ?_
        refine pt_s (pc1 := 1632) (st1 := [.int 0, .retAddr 0, .int a3, .int a2, .int 0, .ref 0]) rfl rfl (fun _ => rfl) ?_
        refine pt_s (pc1 := 1633) (st1 := [.int 4, .int 0, .retAddr 0, .int a3, .int a2, .int 0, .ref 0]) rfl rfl (fun _ => rfl) ?_
        refine pt_s (pc1 := 1634) (st1 := [.int 4, .retAddr 0, .int a3, .int a2, .int 0, .ref 0]) rfl rfl (fun _ => rfl) ?_
        refine pt_s (pc1 := 1635) (st1 := [.int a4, .int a3, .int a2, .int 0, .ref 0]) rfl rfl (fun _ => rfl) ?_
        refine pt_callv (N := pm_X6_find) (as := [.ref 0, .int 0, .int a2, .int a3, .int a4]) (rest := []) (f := 2047) (l := 83976) (c1 := 0) (k1 := 0) (c2 := 599837) (k2 := 7274195) (v := some (.int (-1))) (h1 := px_hs) rfl rfl (fun ex => px_inv_hs ex rfl rfl rfl pg_0 rfl rfl rfl rfl) ?_ (Nat.le_of_ble_eq_true rfl) (Nat.le_of_ble_eq_true rfl) ?_
        · refine px_C_of rfl ?_
          refine pr_s (pc1 := 1) (st1 := [.ref 0]) rfl (fun _ => rfl) ?_
          refine pr_getf (pc1 := 4) (v := .ref 92) rfl rfl pg_0 rfl rfl ?_
          refine pr_getf (pc1 := 7) (v := .ref 93) rfl rfl pg_22 rfl rfl ?_
          refine pr_s (pc1 := 8) (st1 := [.ref 0, .ref 93]) rfl (fun _ => rfl) ?_
          refine pr_getf (pc1 := 11) (v := .ref 92) rfl rfl pg_0 rfl rfl ?_
          refine pr_getf (pc1 := 14) (v := .ref 93) rfl rfl pg_22 rfl rfl ?_
          refine pr_s (pc1 := 15) (st1 := [.int 0, .ref 93, .ref 93]) rfl (fun _ => rfl) ?_
          refine pr_s (pc1 := 16) (st1 := [.int a2, .int 0, .ref 93, .ref 93]) rfl (fun _ => rfl) ?_
          refine pr_s (pc1 := 17) (st1 := [.int a3, .int a2, .int 0, .ref 93, .ref 93]) rfl (fun _ => rfl) ?_
          refine pr_s (pc1 := 19) (st1 := [.int a4, .int a3, .int a2, .int 0, .ref 93, .ref 93]) rfl (fun _ => rfl) ?_
          refine pr_callv (N := pm_X2_placeLike) (as := [.ref 93, .int 0, .int a2, .int a3, .int a4]) (rest := [.ref 93]) (f := 2046) (l := 83950) (c1 := 0) (k1 := 0) (c2 := 0) (k2 := 0) (v := some (.int (-1))) (h1 := px_hs) rfl (fun ex => px_inv_hs ex rfl rfl rfl pg_23 rfl rfl rfl rfl) ?_ (Nat.le_of_ble_eq_true rfl) (Nat.le_of_ble_eq_true rfl) ?_
          · exact pq_79 a2 a3 a4
          show px_R _ _ _ _ (22, [(0, .ref 0), (1, .int 0), (2, .int a2), (3, .int a3), (4, .int a4)], [.int (-1), .ref 93], _) _ _ _
          refine pr_callv (N := pm_X2_numberAt) (as := [.ref 93, .int (-1)]) (rest := []) (f := 2046) (l := 83955) (c1 := 0) (k1 := 0) (c2 := 0) (k2 := 0) (v := some (.int (-1))) (h1 := px_hs) rfl (fun ex => px_inv_hs ex rfl rfl rfl pg_23 rfl rfl rfl rfl) ?_ (Nat.le_of_ble_eq_true rfl) (Nat.le_of_ble_eq_true rfl) ?_
          · refine px_C_of rfl ?_
            refine pr_s (pc1 := 1) (st1 := [.int (-1)]) rfl (fun _ => rfl) ?_
            refine pr_bt (t := 19) (off := 18) (bb := decide (((-1) : Int32) < 0)) (st1 := []) rfl rfl rfl rfl (by decide) ?_
            refine pr_s (pc1 := 20) (st1 := [.int (-1)]) rfl (fun _ => rfl) ?_
            exact pr_e rfl (fun _ => rfl) ⟨rfl, rfl⟩
          show px_R _ _ _ _ (25, [(0, .ref 0), (1, .int 0), (2, .int a2), (3, .int a3), (4, .int a4)], [.int (-1)], _) _ _ _
          exact pr_e rfl (fun _ => rfl) ⟨rfl, rfl⟩
        show px_T _ _ _ _ (1638, [(4, .int 0), (3, .ref 164), (2, .ref 136), (1, .ref 0), (0, .retAddr 0)], [.int (-1)], _) _ _ _
        refine pt_s (pc1 := 1639) (st1 := [.ref 136, .int (-1)]) rfl rfl (fun _ => rfl) ?_
        refine pt_s (pc1 := 1640) (st1 := [.retAddr 0, .ref 136, .int (-1)]) rfl rfl (fun _ => rfl) ?_
        refine pt_s (pc1 := 1642) (st1 := [.int 0, .retAddr 0, .ref 136, .int (-1)]) rfl rfl (fun _ => rfl) ?_
        refine pt_s (pc1 := 1643) (st1 := [.int 1, .int 0, .retAddr 0, .ref 136, .int (-1)]) rfl rfl (fun _ => rfl) ?_
        refine pt_s (pc1 := 1644) (st1 := [.int 1, .retAddr 0, .ref 136, .int (-1)]) rfl rfl (fun _ => rfl) ?_
        refine pt_s (pc1 := 1645) (st1 := [.int 0, .ref 136, .int (-1)]) rfl rfl (fun _ => rfl) ?_
        refine pt_s (pc1 := 1646) (st1 := [.retAddr 0, .int 0, .ref 136, .int (-1)]) rfl rfl (fun _ => rfl) ?_
        refine pt_s (pc1 := 1648) (st1 := [.int 0, .retAddr 0, .int 0, .ref 136, .int (-1)]) rfl rfl (fun _ => rfl) ?_
        refine pt_s (pc1 := 1649) (st1 := [.int 2, .int 0, .retAddr 0, .int 0, .ref 136, .int (-1)]) rfl rfl (fun _ => rfl) ?_
        refine pt_s (pc1 := 1650) (st1 := [.int 2, .retAddr 0, .int 0, .ref 136, .int (-1)]) rfl rfl (fun _ => rfl) ?_
        refine pt_s (pc1 := 1651) (st1 := [.int a2, .int 0, .ref 136, .int (-1)]) rfl rfl (fun _ => rfl) ?_
        refine pt_s (pc1 := 1652) (st1 := [.retAddr 0, .int a2, .int 0, .ref 136, .int (-1)]) rfl rfl (fun _ => rfl) ?_
        refine pt_s (pc1 := 1654) (st1 := [.int 0, .retAddr 0, .int a2, .int 0, .ref 136, .int (-1)]) rfl rfl (fun _ => rfl) ?_
        refine pt_s (pc1 := 1655) (st1 := [.int 3, .int 0, .retAddr 0, .int a2, .int 0, .ref 136, .int (-1)]) rfl rfl (fun _ => rfl) ?_
        refine pt_s (pc1 := 1656) (st1 := [.int 3, .retAddr 0, .int a2, .int 0, .ref 136, .int (-1)]) rfl rfl (fun _ => rfl) ?_
        refine pt_s (pc1 := 1657) (st1 := [.int a3, .int a2, .int 0, .ref 136, .int (-1)]) rfl rfl (fun _ => rfl) ?_
        refine pt_s (pc1 := 1658) (st1 := [.retAddr 0, .int a3, .int a2, .int 0, .ref 136, .int (-1)]) rfl rfl (fun _ => rfl) ?_
        refine pt_s (pc1 := 1660) (st1 := [.int 0, .retAddr 0, .int a3, .int a2, .int 0, .ref 136, .int (-1)]) rfl rfl (fun _ => rfl) ?_
        refine pt_s (pc1 := 1661) (st1 := [.int 4, .int 0, .retAddr 0, .int a3, .int a2, .int 0, .ref 136, .int (-1)]) rfl rfl (fun _ => rfl) ?_
        refine pt_s (pc1 := 1662) (st1 := [.int 4, .retAddr 0, .int a3, .int a2, .int 0, .ref 136, .int (-1)]) rfl rfl (fun _ => rfl) ?_
        refine pt_s (pc1 := 1663) (st1 := [.int a4, .int a3, .int a2, .int 0, .ref 136, .int (-1)]) rfl rfl (fun _ => rfl) ?_
        refine pt_callv (N := pm_X10_find) (as := [.ref 136, .int 0, .int a2, .int a3, .int a4]) (rest := [.int (-1)]) (f := 2047) (l := 83975) (c1 := 0) (k1 := 0) (c2 := 599837) (k2 := 7274195) (v := some (.int (-1))) (h1 := px_hs) rfl rfl (fun ex => px_inv_hs ex rfl rfl rfl pg_1 rfl rfl rfl rfl) ?_ (Nat.le_of_ble_eq_true rfl) (Nat.le_of_ble_eq_true rfl) ?_
        · refine px_C_of rfl ?_
          refine pr_s (pc1 := 1) (st1 := [.ref 136]) rfl (fun _ => rfl) ?_
          refine pr_s (pc1 := 2) (st1 := [.int 0, .ref 136]) rfl (fun _ => rfl) ?_
          refine pr_putf (pc1 := 5) (h1 := px_hs) rfl rfl pg_1 rfl rfl rfl rfl rfl (px_set_same pg_1 rfl) rfl ?_
          refine pr_s (pc1 := 6) (st1 := [.ref 136]) rfl (fun _ => rfl) ?_
          refine pr_getf (pc1 := 9) (v := .ref 138) rfl rfl pg_1 rfl rfl ?_
          refine pr_s (pc1 := 10) (st1 := [.int 0, .ref 138]) rfl (fun _ => rfl) ?_
          refine pr_s (pc1 := 11) (st1 := [.int a2, .int 0, .ref 138]) rfl (fun _ => rfl) ?_
          refine pr_s (pc1 := 12) (st1 := [.int a3, .int a2, .int 0, .ref 138]) rfl (fun _ => rfl) ?_
          refine pr_s (pc1 := 14) (st1 := [.int a4, .int a3, .int a2, .int 0, .ref 138]) rfl (fun _ => rfl) ?_
          refine pr_callv (N := pm_X9_find) (as := [.ref 138, .int 0, .int a2, .int a3, .int a4]) (rest := []) (f := 2046) (l := 83950) (c1 := 0) (k1 := 0) (c2 := 0) (k2 := 0) (v := some (.int (-1))) (h1 := px_hs) rfl (fun ex => px_inv_hs ex rfl rfl rfl pg_66 rfl rfl rfl rfl) ?_ (Nat.le_of_ble_eq_true rfl) (Nat.le_of_ble_eq_true rfl) ?_
          · refine px_C_of rfl ?_
            refine pr_s (pc1 := 1) (st1 := [.ref 138]) rfl (fun _ => rfl) ?_
            refine pr_getf (pc1 := 4) (v := .ref 141) rfl rfl pg_66 rfl rfl ?_
            refine pr_getf (pc1 := 7) (v := .int 0) rfl rfl pg_68 rfl rfl ?_
            refine pr_s (pc1 := 8) (st1 := [.int 1, .int 0]) rfl (fun _ => rfl) ?_
            refine pr_s (pc1 := 9) (st1 := [.int (-1)]) rfl (fun _ => rfl) ?_
            refine pr_s (pc1 := 11) (lv1 := [(5, .int (-1)), (0, .ref 138), (1, .int 0), (2, .int a2), (3, .int a3), (4, .int a4)]) (st1 := []) rfl (fun _ => rfl) ?_
            refine pr_s (pc1 := 13) (st1 := [.int (-1)]) rfl (fun _ => rfl) ?_
            refine pr_bt (t := 79) (off := 66) (bb := decide (((-1) : Int32) < 0)) (st1 := []) rfl rfl rfl rfl (by decide) ?_
            refine pr_s (pc1 := 81) (st1 := [.int (-1)]) rfl (fun _ => rfl) ?_
            exact pr_e rfl (fun _ => rfl) ⟨rfl, rfl⟩
          show px_R _ _ _ _ (17, [(0, .ref 136), (1, .int 0), (2, .int a2), (3, .int a3), (4, .int a4)], [.int (-1)], _) _ _ _
          refine pr_s (pc1 := 19) (lv1 := [(5, .int (-1)), (0, .ref 136), (1, .int 0), (2, .int a2), (3, .int a3), (4, .int a4)]) (st1 := []) rfl (fun _ => rfl) ?_
          refine pr_s (pc1 := 21) (st1 := [.int (-1)]) rfl (fun _ => rfl) ?_
          refine pr_s (pc1 := 22) (st1 := [.int (-1), .int (-1)]) rfl (fun _ => rfl) ?_
          refine pr_bf (t := 29) (off := 7) (bb := !decide (((-1) : Int32) = (-1))) (st1 := []) rfl rfl rfl rfl (px_not_f (by decide)) ?_
          refine pr_s (pc1 := 26) (st1 := [.int (-1)]) rfl (fun _ => rfl) ?_
          refine pr_s (pc1 := 42) (st1 := [.int (-1)]) rfl (fun _ => rfl) ?_
          exact pr_e rfl (fun _ => rfl) ⟨rfl, rfl⟩
        show px_T _ _ _ _ (1666, [(4, .int 0), (3, .ref 164), (2, .ref 136), (1, .ref 0), (0, .retAddr 0)], [.int (-1), .int (-1)], _) _ _ _
        refine pt_bt (t := 2771) (off := 1105) (bb := decide (((-1) : Int32) = (-1))) (st1 := []) rfl rfl rfl rfl rfl (by decide) ?_
        refine pt_s (pc1 := 2774) (lv1 := [(4, .int 6), (3, .ref 164), (2, .ref 136), (1, .ref 0), (0, .retAddr 0)]) (st1 := []) rfl rfl (fun _ => rfl) ?_
        refine pt_s (pc1 := 23) (st1 := []) rfl rfl (fun _ => rfl) ?_
        refine pt_s (pc1 := 25) (st1 := [.int 6]) rfl rfl (fun _ => rfl) ?_
        refine pt_s (pc1 := 26) (st1 := [.retAddr 0, .int 6]) rfl rfl (fun _ => rfl) ?_
        refine pt_s (pc1 := 27) (st1 := [.int 6, .int 6]) rfl rfl (fun _ => rfl) ?_
        refine pt_s (pc1 := 29) (st1 := [.int 6, .int 6, .int 6]) rfl rfl (fun _ => rfl) ?_
        refine pt_s (pc1 := 30) (st1 := [.int 0, .int 6]) rfl rfl (fun _ => rfl) ?_
        refine pt_bt (t := 2777) (off := 2747) (bb := decide ((0 : Int32) < (6 : Int32))) (st1 := []) rfl rfl rfl rfl rfl (by decide) ?_
        refine pt_s (pc1 := 2778) (st1 := [.int 1]) rfl rfl (fun _ => rfl) ?_
        exact pt_e rfl ⟨rfl, (rfl : px_ins pm_law 2778 = some (.ireturn, 1))⟩
      · obtain rfl : a1 = 1 := Int32.toInt_inj.mp (hc.trans rfl)
        refine pt_s (pc1 := 1610) (st1 := []) rfl rfl (fun _ => rfl) ?_
        refine pt_s (pc1 := 1611) (st1 := [.ref 0]) rfl rfl (fun _ => rfl) ?_
        refine pt_s (pc1 := 1612) (st1 := [.retAddr 0, .ref 0]) rfl rfl (fun _ => rfl) ?_
        refine pt_s (pc1 := 1614) (st1 := [.int 0, .retAddr 0, .ref 0]) rfl rfl (fun _ => rfl) ?_
        refine pt_s (pc1 := 1615) (st1 := [.int 1, .int 0, .retAddr 0, .ref 0]) rfl rfl (fun _ => rfl) ?_
        refine pt_s (pc1 := 1616) (st1 := [.int 1, .retAddr 0, .ref 0]) rfl rfl (fun _ => rfl) ?_
        refine pt_s (pc1 := 1617) (st1 := [.int 1, .ref 0]) rfl rfl (fun _ => rfl) ?_
        refine pt_s (pc1 := 1618) (st1 := [.retAddr 0, .int 1, .ref 0]) rfl rfl (fun _ => rfl) ?_
        refine pt_s (pc1 := 1620) (st1 := [.int 0, .retAddr 0, .int 1, .ref 0]) rfl rfl (fun _ => rfl) ?_
        refine pt_s (pc1 := 1621) (st1 := [.int 2, .int 0, .retAddr 0, .int 1, .ref 0]) rfl rfl (fun _ => rfl) ?_
        refine pt_s (pc1 := 1622) (st1 := [.int 2, .retAddr 0, .int 1, .ref 0]) rfl rfl (fun _ => rfl) ?_
        refine pt_s (pc1 := 1623) (st1 := [.int a2, .int 1, .ref 0]) rfl rfl (fun _ => rfl) ?_
        refine pt_s (pc1 := 1624) (st1 := [.retAddr 0, .int a2, .int 1, .ref 0]) rfl rfl (fun _ => rfl) ?_
        refine pt_s (pc1 := 1626) (st1 := [.int 0, .retAddr 0, .int a2, .int 1, .ref 0]) rfl rfl (fun _ => rfl) ?_
        refine pt_s (pc1 := 1627) (st1 := [.int 3, .int 0, .retAddr 0, .int a2, .int 1, .ref 0]) rfl rfl (fun _ => rfl) ?_
        refine pt_s (pc1 := 1628) (st1 := [.int 3, .retAddr 0, .int a2, .int 1, .ref 0]) rfl rfl (fun _ => rfl) ?_
        refine pt_s (pc1 := 1629) (st1 := [.int a3, .int a2, .int 1, .ref 0]) rfl rfl (fun _ => rfl) ?_
        refine pt_s (pc1 := 1630) (st1 := [.retAddr 0, .int a3, .int a2, .int 1, .ref 0]) rfl rfl (fun _ => rfl) ?_
        refine pt_s (pc1 := 1632) (st1 := [.int 0, .retAddr 0, .int a3, .int a2, .int 1, .ref 0]) rfl rfl (fun _ => rfl) ?_
        refine pt_s (pc1 := 1633) (st1 := [.int 4, .int 0, .retAddr 0, .int a3, .int a2, .int 1, .ref 0]) rfl rfl (fun _ => rfl) ?_
        refine pt_s (pc1 := 1634) (st1 := [.int 4, .retAddr 0, .int a3, .int a2, .int 1, .ref 0]) rfl rfl (fun _ => rfl) ?_
        refine pt_s (pc1 := 1635) (st1 := [.int a4, .int a3, .int a2, .int 1, .ref 0]) rfl rfl (fun _ => rfl) ?_
        refine pt_callv (N := pm_X6_find) (as := [.ref 0, .int 1, .int a2, .int a3, .int a4]) (rest := []) (f := 2047) (l := 83976) (c1 := 0) (k1 := 0) (c2 := 599837) (k2 := 7274195) (v := some (.int (-1))) (h1 := px_hs) rfl rfl (fun ex => px_inv_hs ex rfl rfl rfl pg_0 rfl rfl rfl rfl) ?_ (Nat.le_of_ble_eq_true rfl) (Nat.le_of_ble_eq_true rfl) ?_
        · refine px_C_of rfl ?_
          refine pr_s (pc1 := 1) (st1 := [.ref 0]) rfl (fun _ => rfl) ?_
          refine pr_getf (pc1 := 4) (v := .ref 92) rfl rfl pg_0 rfl rfl ?_
          refine pr_getf (pc1 := 7) (v := .ref 93) rfl rfl pg_22 rfl rfl ?_
          refine pr_s (pc1 := 8) (st1 := [.ref 0, .ref 93]) rfl (fun _ => rfl) ?_
          refine pr_getf (pc1 := 11) (v := .ref 92) rfl rfl pg_0 rfl rfl ?_
          refine pr_getf (pc1 := 14) (v := .ref 93) rfl rfl pg_22 rfl rfl ?_
          refine pr_s (pc1 := 15) (st1 := [.int 1, .ref 93, .ref 93]) rfl (fun _ => rfl) ?_
          refine pr_s (pc1 := 16) (st1 := [.int a2, .int 1, .ref 93, .ref 93]) rfl (fun _ => rfl) ?_
          refine pr_s (pc1 := 17) (st1 := [.int a3, .int a2, .int 1, .ref 93, .ref 93]) rfl (fun _ => rfl) ?_
          refine pr_s (pc1 := 19) (st1 := [.int a4, .int a3, .int a2, .int 1, .ref 93, .ref 93]) rfl (fun _ => rfl) ?_
          refine pr_callv (N := pm_X2_placeLike) (as := [.ref 93, .int 1, .int a2, .int a3, .int a4]) (rest := [.ref 93]) (f := 2046) (l := 83950) (c1 := 0) (k1 := 0) (c2 := 0) (k2 := 0) (v := some (.int (-1))) (h1 := px_hs) rfl (fun ex => px_inv_hs ex rfl rfl rfl pg_23 rfl rfl rfl rfl) ?_ (Nat.le_of_ble_eq_true rfl) (Nat.le_of_ble_eq_true rfl) ?_
          · exact pq_80 a2 a3 a4
          show px_R _ _ _ _ (22, [(0, .ref 0), (1, .int 1), (2, .int a2), (3, .int a3), (4, .int a4)], [.int (-1), .ref 93], _) _ _ _
          refine pr_callv (N := pm_X2_numberAt) (as := [.ref 93, .int (-1)]) (rest := []) (f := 2046) (l := 83955) (c1 := 0) (k1 := 0) (c2 := 0) (k2 := 0) (v := some (.int (-1))) (h1 := px_hs) rfl (fun ex => px_inv_hs ex rfl rfl rfl pg_23 rfl rfl rfl rfl) ?_ (Nat.le_of_ble_eq_true rfl) (Nat.le_of_ble_eq_true rfl) ?_
          · refine px_C_of rfl ?_
            refine pr_s (pc1 := 1) (st1 := [.int (-1)]) rfl (fun _ => rfl) ?_
            refine pr_bt (t := 19) (off := 18) (bb := decide (((-1) : Int32) < 0)) (st1 := []) rfl rfl rfl rfl (by decide) ?_
            refine pr_s (pc1 := 20) (st1 := [.int (-1)]) rfl (fun _ => rfl) ?_
            exact pr_e rfl (fun _ => rfl) ⟨rfl, rfl⟩
          show px_R _ _ _ _ (25, [(0, .ref 0), (1, .int 1), (2, .int a2), (3, .int a3), (4, .int a4)], [.int (-1)], _) _ _ _
          exact pr_e rfl (fun _ => rfl) ⟨rfl, rfl⟩
        show px_T _ _ _ _ (1638, [(4, .int 0), (3, .ref 164), (2, .ref 136), (1, .ref 0), (0, .retAddr 0)], [.int (-1)], _) _ _ _
        refine pt_s (pc1 := 1639) (st1 := [.ref 136, .int (-1)]) rfl rfl (fun _ => rfl) ?_
        refine pt_s (pc1 := 1640) (st1 := [.retAddr 0, .ref 136, .int (-1)]) rfl rfl (fun _ => rfl) ?_
        refine pt_s (pc1 := 1642) (st1 := [.int 0, .retAddr 0, .ref 136, .int (-1)]) rfl rfl (fun _ => rfl) ?_
        refine pt_s (pc1 := 1643) (st1 := [.int 1, .int 0, .retAddr 0, .ref 136, .int (-1)]) rfl rfl (fun _ => rfl) ?_
        refine pt_s (pc1 := 1644) (st1 := [.int 1, .retAddr 0, .ref 136, .int (-1)]) rfl rfl (fun _ => rfl) ?_
        refine pt_s (pc1 := 1645) (st1 := [.int 1, .ref 136, .int (-1)]) rfl rfl (fun _ => rfl) ?_
        refine pt_s (pc1 := 1646) (st1 := [.retAddr 0, .int 1, .ref 136, .int (-1)]) rfl rfl (fun _ => rfl) ?_
        refine pt_s (pc1 := 1648) (st1 := [.int 0, .retAddr 0, .int 1, .ref 136, .int (-1)]) rfl rfl (fun _ => rfl) ?_
        refine pt_s (pc1 := 1649) (st1 := [.int 2, .int 0, .retAddr 0, .int 1, .ref 136, .int (-1)]) rfl rfl (fun _ => rfl) ?_
        refine pt_s (pc1 := 1650) (st1 := [.int 2, .retAddr 0, .int 1, .ref 136, .int (-1)]) rfl rfl (fun _ => rfl) ?_
        refine pt_s (pc1 := 1651) (st1 := [.int a2, .int 1, .ref 136, .int (-1)]) rfl rfl (fun _ => rfl) ?_
        refine pt_s (pc1 := 1652) (st1 := [.retAddr 0, .int a2, .int 1, .ref 136, .int (-1)]) rfl rfl (fun _ => rfl) ?_
        refine pt_s (pc1 := 1654) (st1 := [.int 0, .retAddr 0, .int a2, .int 1, .ref 136, .int (-1)]) rfl rfl (fun _ => rfl) ?_
        refine pt_s (pc1 := 1655) (st1 := [.int 3, .int 0, .retAddr 0, .int a2, .int 1, .ref 136, .int (-1)]) rfl rfl (fun _ => rfl) ?_
        refine pt_s (pc1 := 1656) (st1 := [.int 3, .retAddr 0, .int a2, .int 1, .ref 136, .int (-1)]) rfl rfl (fun _ => rfl) ?_
        refine pt_s (pc1 := 1657) (st1 := [.int a3, .int a2, .int 1, .ref 136, .int (-1)]) rfl rfl (fun _ => rfl) ?_
        refine pt_s (pc1 := 1658) (st1 := [.retAddr 0, .int a3, .int a2, .int 1, .ref 136, .int (-1)]) rfl rfl (fun _ => rfl) ?_
        refine pt_s (pc1 := 1660) (st1 := [.int 0, .retAddr 0, .int a3, .int a2, .int 1, .ref 136, .int (-1)]) rfl rfl (fun _ => rfl) ?_
        refine pt_s (pc1 := 1661) (st1 := [.int 4, .int 0, .retAddr 0, .int a3, .int a2, .int 1, .ref 136, .int (-1)]) rfl rfl (fun _ => rfl) ?_
        refine pt_s (pc1 := 1662) (st1 := [.int 4, .retAddr 0, .int a3, .int a2, .int 1, .ref 136, .int (-1)]) rfl rfl (fun _ => rfl) ?_
        refine pt_s (pc1 := 1663) (st1 := [.int a4, .int a3, .int a2, .int 1, .ref 136, .int (-1)]) rfl rfl (fun _ => rfl) ?_
        refine pt_callv (N := pm_X10_find) (as := [.ref 136, .int 1, .int a2, .int a3, .int a4]) (rest := [.int (-1)]) (f := 2047) (l := 83975) (c1 := 0) (k1 := 0) (c2 := 599837) (k2 := 7274195) (v := some (.int (-1))) (h1 := px_hs) rfl rfl (fun ex => px_inv_hs ex rfl rfl rfl pg_1 rfl rfl rfl rfl) ?_ (Nat.le_of_ble_eq_true rfl) (Nat.le_of_ble_eq_true rfl) ?_
        · refine px_C_of rfl ?_
          refine pr_s (pc1 := 1) (st1 := [.ref 136]) rfl (fun _ => rfl) ?_
          refine pr_s (pc1 := 2) (st1 := [.int 0, .ref 136]) rfl (fun _ => rfl) ?_
          refine pr_putf (pc1 := 5) (h1 := px_hs) rfl rfl pg_1 rfl rfl rfl rfl rfl (px_set_same pg_1 rfl) rfl ?_
          refine pr_s (pc1 := 6) (st1 := [.ref 136]) rfl (fun _ => rfl) ?_
          refine pr_getf (pc1 := 9) (v := .ref 138) rfl rfl pg_1 rfl rfl ?_
          refine pr_s (pc1 := 10) (st1 := [.int 1, .ref 138]) rfl (fun _ => rfl) ?_
          refine pr_s (pc1 := 11) (st1 := [.int a2, .int 1, .ref 138]) rfl (fun _ => rfl) ?_
          refine pr_s (pc1 := 12) (st1 := [.int a3, .int a2, .int 1, .ref 138]) rfl (fun _ => rfl) ?_
          refine pr_s (pc1 := 14) (st1 := [.int a4, .int a3, .int a2, .int 1, .ref 138]) rfl (fun _ => rfl) ?_
          refine pr_callv (N := pm_X9_find) (as := [.ref 138, .int 1, .int a2, .int a3, .int a4]) (rest := []) (f := 2046) (l := 83950) (c1 := 0) (k1 := 0) (c2 := 0) (k2 := 0) (v := some (.int (-1))) (h1 := px_hs) rfl (fun ex => px_inv_hs ex rfl rfl rfl pg_66 rfl rfl rfl rfl) ?_ (Nat.le_of_ble_eq_true rfl) (Nat.le_of_ble_eq_true rfl) ?_
          · refine px_C_of rfl ?_
            refine pr_s (pc1 := 1) (st1 := [.ref 138]) rfl (fun _ => rfl) ?_
            refine pr_getf (pc1 := 4) (v := .ref 141) rfl rfl pg_66 rfl rfl ?_
            refine pr_getf (pc1 := 7) (v := .int 0) rfl rfl pg_68 rfl rfl ?_
            refine pr_s (pc1 := 8) (st1 := [.int 1, .int 0]) rfl (fun _ => rfl) ?_
            refine pr_s (pc1 := 9) (st1 := [.int (-1)]) rfl (fun _ => rfl) ?_
            refine pr_s (pc1 := 11) (lv1 := [(5, .int (-1)), (0, .ref 138), (1, .int 1), (2, .int a2), (3, .int a3), (4, .int a4)]) (st1 := []) rfl (fun _ => rfl) ?_
            refine pr_s (pc1 := 13) (st1 := [.int (-1)]) rfl (fun _ => rfl) ?_
            refine pr_bt (t := 79) (off := 66) (bb := decide (((-1) : Int32) < 0)) (st1 := []) rfl rfl rfl rfl (by decide) ?_
            refine pr_s (pc1 := 81) (st1 := [.int (-1)]) rfl (fun _ => rfl) ?_
            exact pr_e rfl (fun _ => rfl) ⟨rfl, rfl⟩
          show px_R _ _ _ _ (17, [(0, .ref 136), (1, .int 1), (2, .int a2), (3, .int a3), (4, .int a4)], [.int (-1)], _) _ _ _
          refine pr_s (pc1 := 19) (lv1 := [(5, .int (-1)), (0, .ref 136), (1, .int 1), (2, .int a2), (3, .int a3), (4, .int a4)]) (st1 := []) rfl (fun _ => rfl) ?_
          refine pr_s (pc1 := 21) (st1 := [.int (-1)]) rfl (fun _ => rfl) ?_
          refine pr_s (pc1 := 22) (st1 := [.int (-1), .int (-1)]) rfl (fun _ => rfl) ?_
          refine pr_bf (t := 29) (off := 7) (bb := !decide (((-1) : Int32) = (-1))) (st1 := []) rfl rfl rfl rfl (px_not_f (by decide)) ?_
          refine pr_s (pc1 := 26) (st1 := [.int (-1)]) rfl (fun _ => rfl) ?_
          refine pr_s (pc1 := 42) (st1 := [.int (-1)]) rfl (fun _ => rfl) ?_
          exact pr_e rfl (fun _ => rfl) ⟨rfl, rfl⟩
        show px_T _ _ _ _ (1666, [(4, .int 0), (3, .ref 164), (2, .ref 136), (1, .ref 0), (0, .retAddr 0)], [.int (-1), .int (-1)], _) _ _ _
        refine pt_bt (t := 2771) (off := 1105) (bb := decide (((-1) : Int32) = (-1))) (st1 := []) rfl rfl rfl rfl rfl (by decide) ?_
        refine pt_s (pc1 := 2774) (lv1 := [(4, .int 6), (3, .ref 164), (2, .ref 136), (1, .ref 0), (0, .retAddr 0)]) (st1 := []) rfl rfl (fun _ => rfl) ?_
        refine pt_s (pc1 := 23) (st1 := []) rfl rfl (fun _ => rfl) ?_
        refine pt_s (pc1 := 25) (st1 := [.int 6]) rfl rfl (fun _ => rfl) ?_
        refine pt_s (pc1 := 26) (st1 := [.retAddr 0, .int 6]) rfl rfl (fun _ => rfl) ?_
        refine pt_s (pc1 := 27) (st1 := [.int 6, .int 6]) rfl rfl (fun _ => rfl) ?_
        refine pt_s (pc1 := 29) (st1 := [.int 6, .int 6, .int 6]) rfl rfl (fun _ => rfl) ?_
        refine pt_s (pc1 := 30) (st1 := [.int 0, .int 6]) rfl rfl (fun _ => rfl) ?_
        refine pt_bt (t := 2777) (off := 2747) (bb := decide ((0 : Int32) < (6 : Int32))) (st1 := []) rfl rfl rfl rfl rfl (by decide) ?_
        refine pt_s (pc1 := 2778) (st1 := [.int 1]) rfl rfl (fun _ => rfl) ?_
        exact pt_e rfl ⟨rfl, (rfl : px_ins pm_law 2778 = some (.ireturn, 1))⟩
      · obtain rfl : a1 = 2 := Int32.toInt_inj.mp (hc.trans rfl)
        refine pt_s (pc1 := 1610) (st1 := []) rfl rfl (fun _ => rfl) ?_
        refine pt_s (pc1 := 1611) (st1 := [.ref 0]) rfl rfl (fun _ => rfl) ?_
        refine pt_s (pc1 := 1612) (st1 := [.retAddr 0, .ref 0]) rfl rfl (fun _ => rfl) ?_
        refine pt_s (pc1 := 1614) (st1 := [.int 0, .retAddr 0, .ref 0]) rfl rfl (fun _ => rfl) ?_
        refine pt_s (pc1 := 1615) (st1 := [.int 1, .int 0, .retAddr 0, .ref 0]) rfl rfl (fun _ => rfl) ?_
        refine pt_s (pc1 := 1616) (st1 := [.int 1, .retAddr 0, .ref 0]) rfl rfl (fun _ => rfl) ?_
        refine pt_s (pc1 := 1617) (st1 := [.int 2, .ref 0]) rfl rfl (fun _ => rfl) ?_
        refine pt_s (pc1 := 1618) (st1 := [.retAddr 0, .int 2, .ref 0]) rfl rfl (fun _ => rfl) ?_
        refine pt_s (pc1 := 1620) (st1 := [.int 0, .retAddr 0, .int 2, .ref 0]) rfl rfl (fun _ => rfl) ?_
        refine pt_s (pc1 := 1621) (st1 := [.int 2, .int 0, .retAddr 0, .int 2, .ref 0]) rfl rfl (fun _ => rfl) ?_
        refine pt_s (pc1 := 1622) (st1 := [.int 2, .retAddr 0, .int 2, .ref 0]) rfl rfl (fun _ => rfl) ?_
        refine pt_s (pc1 := 1623) (st1 := [.int a2, .int 2, .ref 0]) rfl rfl (fun _ => rfl) ?_
        refine pt_s (pc1 := 1624) (st1 := [.retAddr 0, .int a2, .int 2, .ref 0]) rfl rfl (fun _ => rfl) ?_
        refine pt_s (pc1 := 1626) (st1 := [.int 0, .retAddr 0, .int a2, .int 2, .ref 0]) rfl rfl (fun _ => rfl) ?_
        refine pt_s (pc1 := 1627) (st1 := [.int 3, .int 0, .retAddr 0, .int a2, .int 2, .ref 0]) rfl rfl (fun _ => rfl) ?_
        refine pt_s (pc1 := 1628) (st1 := [.int 3, .retAddr 0, .int a2, .int 2, .ref 0]) rfl rfl (fun _ => rfl) ?_
        refine pt_s (pc1 := 1629) (st1 := [.int a3, .int a2, .int 2, .ref 0]) rfl rfl (fun _ => rfl) ?_
        refine pt_s (pc1 := 1630) (st1 := [.retAddr 0, .int a3, .int a2, .int 2, .ref 0]) rfl rfl (fun _ => rfl) ?_
        refine pt_s (pc1 := 1632) (st1 := [.int 0, .retAddr 0, .int a3, .int a2, .int 2, .ref 0]) rfl rfl (fun _ => rfl) ?_
        refine pt_s (pc1 := 1633) (st1 := [.int 4, .int 0, .retAddr 0, .int a3, .int a2, .int 2, .ref 0]) rfl rfl (fun _ => rfl) ?_
        refine pt_s (pc1 := 1634) (st1 := [.int 4, .retAddr 0, .int a3, .int a2, .int 2, .ref 0]) rfl rfl (fun _ => rfl) ?_
        refine pt_s (pc1 := 1635) (st1 := [.int a4, .int a3, .int a2, .int 2, .ref 0]) rfl rfl (fun _ => rfl) ?_
        refine pt_callv (N := pm_X6_find) (as := [.ref 0, .int 2, .int a2, .int a3, .int a4]) (rest := []) (f := 2047) (l := 83976) (c1 := 0) (k1 := 0) (c2 := 599837) (k2 := 7274195) (v := some (.int (-1))) (h1 := px_hs) rfl rfl (fun ex => px_inv_hs ex rfl rfl rfl pg_0 rfl rfl rfl rfl) ?_ (Nat.le_of_ble_eq_true rfl) (Nat.le_of_ble_eq_true rfl) ?_
        · refine px_C_of rfl ?_
          refine pr_s (pc1 := 1) (st1 := [.ref 0]) rfl (fun _ => rfl) ?_
          refine pr_getf (pc1 := 4) (v := .ref 92) rfl rfl pg_0 rfl rfl ?_
          refine pr_getf (pc1 := 7) (v := .ref 93) rfl rfl pg_22 rfl rfl ?_
          refine pr_s (pc1 := 8) (st1 := [.ref 0, .ref 93]) rfl (fun _ => rfl) ?_
          refine pr_getf (pc1 := 11) (v := .ref 92) rfl rfl pg_0 rfl rfl ?_
          refine pr_getf (pc1 := 14) (v := .ref 93) rfl rfl pg_22 rfl rfl ?_
          refine pr_s (pc1 := 15) (st1 := [.int 2, .ref 93, .ref 93]) rfl (fun _ => rfl) ?_
          refine pr_s (pc1 := 16) (st1 := [.int a2, .int 2, .ref 93, .ref 93]) rfl (fun _ => rfl) ?_
          refine pr_s (pc1 := 17) (st1 := [.int a3, .int a2, .int 2, .ref 93, .ref 93]) rfl (fun _ => rfl) ?_
          refine pr_s (pc1 := 19) (st1 := [.int a4, .int a3, .int a2, .int 2, .ref 93, .ref 93]) rfl (fun _ => rfl) ?_
          refine pr_callv (N := pm_X2_placeLike) (as := [.ref 93, .int 2, .int a2, .int a3, .int a4]) (rest := [.ref 93]) (f := 2046) (l := 83950) (c1 := 0) (k1 := 0) (c2 := 0) (k2 := 0) (v := some (.int (-1))) (h1 := px_hs) rfl (fun ex => px_inv_hs ex rfl rfl rfl pg_23 rfl rfl rfl rfl) ?_ (Nat.le_of_ble_eq_true rfl) (Nat.le_of_ble_eq_true rfl) ?_
          · exact pq_81 a2 a3 a4
          show px_R _ _ _ _ (22, [(0, .ref 0), (1, .int 2), (2, .int a2), (3, .int a3), (4, .int a4)], [.int (-1), .ref 93], _) _ _ _
          refine pr_callv (N := pm_X2_numberAt) (as := [.ref 93, .int (-1)]) (rest := []) (f := 2046) (l := 83955) (c1 := 0) (k1 := 0) (c2 := 0) (k2 := 0) (v := some (.int (-1))) (h1 := px_hs) rfl (fun ex => px_inv_hs ex rfl rfl rfl pg_23 rfl rfl rfl rfl) ?_ (Nat.le_of_ble_eq_true rfl) (Nat.le_of_ble_eq_true rfl) ?_
          · refine px_C_of rfl ?_
            refine pr_s (pc1 := 1) (st1 := [.int (-1)]) rfl (fun _ => rfl) ?_
            refine pr_bt (t := 19) (off := 18) (bb := decide (((-1) : Int32) < 0)) (st1 := []) rfl rfl rfl rfl (by decide) ?_
            refine pr_s (pc1 := 20) (st1 := [.int (-1)]) rfl (fun _ => rfl) ?_
            exact pr_e rfl (fun _ => rfl) ⟨rfl, rfl⟩
          show px_R _ _ _ _ (25, [(0, .ref 0), (1, .int 2), (2, .int a2), (3, .int a3), (4, .int a4)], [.int (-1)], _) _ _ _
          exact pr_e rfl (fun _ => rfl) ⟨rfl, rfl⟩
        show px_T _ _ _ _ (1638, [(4, .int 0), (3, .ref 164), (2, .ref 136), (1, .ref 0), (0, .retAddr 0)], [.int (-1)], _) _ _ _
        refine pt_s (pc1 := 1639) (st1 := [.ref 136, .int (-1)]) rfl rfl (fun _ => rfl) ?_
        refine pt_s (pc1 := 1640) (st1 := [.retAddr 0, .ref 136, .int (-1)]) rfl rfl (fun _ => rfl) ?_
        refine pt_s (pc1 := 1642) (st1 := [.int 0, .retAddr 0, .ref 136, .int (-1)]) rfl rfl (fun _ => rfl) ?_
        refine pt_s (pc1 := 1643) (st1 := [.int 1, .int 0, .retAddr 0, .ref 136, .int (-1)]) rfl rfl (fun _ => rfl) ?_
        refine pt_s (pc1 := 1644) (st1 := [.int 1, .retAddr 0, .ref 136, .int (-1)]) rfl rfl (fun _ => rfl) ?_
        refine pt_s (pc1 := 1645) (st1 := [.int 2, .ref 136, .int (-1)]) rfl rfl (fun _ => rfl) ?_
        refine pt_s (pc1 := 1646) (st1 := [.retAddr 0, .int 2, .ref 136, .int (-1)]) rfl rfl (fun _ => rfl) ?_
        refine pt_s (pc1 := 1648) (st1 := [.int 0, .retAddr 0, .int 2, .ref 136, .int (-1)]) rfl rfl (fun _ => rfl) ?_
        refine pt_s (pc1 := 1649) (st1 := [.int 2, .int 0, .retAddr 0, .int 2, .ref 136, .int (-1)]) rfl rfl (fun _ => rfl) ?_
        refine pt_s (pc1 := 1650) (st1 := [.int 2, .retAddr 0, .int 2, .ref 136, .int (-1)]) rfl rfl (fun _ => rfl) ?_
        refine pt_s (pc1 := 1651) (st1 := [.int a2, .int 2, .ref 136, .int (-1)]) rfl rfl (fun _ => rfl) ?_
        refine pt_s (pc1 := 1652) (st1 := [.retAddr 0, .int a2, .int 2, .ref 136, .int (-1)]) rfl rfl (fun _ => rfl) ?_
        refine pt_s (pc1 := 1654) (st1 := [.int 0, .retAddr 0, .int a2, .int 2, .ref 136, .int (-1)]) rfl rfl (fun _ => rfl) ?_
        refine pt_s (pc1 := 1655) (st1 := [.int 3, .int 0, .retAddr 0, .int a2, .int 2, .ref 136, .int (-1)]) rfl rfl (fun _ => rfl) ?_
        refine pt_s (pc1 := 1656) (st1 := [.int 3, .retAddr 0, .int a2, .int 2, .ref 136, .int (-1)]) rfl rfl (fun _ => rfl) ?_
        refine pt_s (pc1 := 1657) (st1 := [.int a3, .int a2, .int 2, .ref 136, .int (-1)]) rfl rfl (fun _ => rfl) ?_
        refine pt_s (pc1 := 1658) (st1 := [.retAddr 0, .int a3, .int a2, .int 2, .ref 136, .int (-1)]) rfl rfl (fun _ => rfl) ?_
        refine pt_s (pc1 := 1660) (st1 := [.int 0, .retAddr 0, .int a3, .int a2, .int 2, .ref 136, .int (-1)]) rfl rfl (fun _ => rfl) ?_
        refine pt_s (pc1 := 1661) (st1 := [.int 4, .int 0, .retAddr 0, .int a3, .int a2, .int 2, .ref 136, .int (-1)]) rfl rfl (fun _ => rfl) ?_
        refine pt_s (pc1 := 1662) (st1 := [.int 4, .retAddr 0, .int a3, .int a2, .int 2, .ref 136, .int (-1)]) rfl rfl (fun _ => rfl) ?_
        refine pt_s (pc1 := 1663) (st1 := [.int a4, .int a3, .int a2, .int 2, .ref 136, .int (-1)]) rfl rfl (fun _ => rfl) ?_
        refine pt_callv (N := pm_X10_find) (as := [.ref 136, .int 2, .int a2, .int a3, .int a4]) (rest := [.int (-1)]) (f := 2047) (l := 83975) (c1 := 0) (k1 := 0) (c2 := 599837) (k2 := 7274195) (v := some (.int (-1))) (h1 := px_hs) rfl rfl (fun ex => px_inv_hs ex rfl rfl rfl pg_1 rfl rfl rfl rfl) ?_ (Nat.le_of_ble_eq_true rfl) (Nat.le_of_ble_eq_true rfl) ?_
        · refine px_C_of rfl ?_
          refine pr_s (pc1 := 1) (st1 := [.ref 136]) rfl (fun _ => rfl) ?_
          refine pr_s (pc1 := 2) (st1 := [.int 0, .ref 136]) rfl (fun _ => rfl) ?_
          refine pr_putf (pc1 := 5) (h1 := px_hs) rfl rfl pg_1 rfl rfl rfl rfl rfl (px_set_same pg_1 rfl) rfl ?_
          refine pr_s (pc1 := 6) (st1 := [.ref 136]) rfl (fun _ => rfl) ?_
          refine pr_getf (pc1 := 9) (v := .ref 138) rfl rfl pg_1 rfl rfl ?_
          refine pr_s (pc1 := 10) (st1 := [.int 2, .ref 138]) rfl (fun _ => rfl) ?_
          refine pr_s (pc1 := 11) (st1 := [.int a2, .int 2, .ref 138]) rfl (fun _ => rfl) ?_
          refine pr_s (pc1 := 12) (st1 := [.int a3, .int a2, .int 2, .ref 138]) rfl (fun _ => rfl) ?_
          refine pr_s (pc1 := 14) (st1 := [.int a4, .int a3, .int a2, .int 2, .ref 138]) rfl (fun _ => rfl) ?_
          refine pr_callv (N := pm_X9_find) (as := [.ref 138, .int 2, .int a2, .int a3, .int a4]) (rest := []) (f := 2046) (l := 83950) (c1 := 0) (k1 := 0) (c2 := 0) (k2 := 0) (v := some (.int (-1))) (h1 := px_hs) rfl (fun ex => px_inv_hs ex rfl rfl rfl pg_66 rfl rfl rfl rfl) ?_ (Nat.le_of_ble_eq_true rfl) (Nat.le_of_ble_eq_true rfl) ?_
          · refine px_C_of rfl ?_
            refine pr_s (pc1 := 1) (st1 := [.ref 138]) rfl (fun _ => rfl) ?_
            refine pr_getf (pc1 := 4) (v := .ref 141) rfl rfl pg_66 rfl rfl ?_
            refine pr_getf (pc1 := 7) (v := .int 0) rfl rfl pg_68 rfl rfl ?_
            refine pr_s (pc1 := 8) (st1 := [.int 1, .int 0]) rfl (fun _ => rfl) ?_
            refine pr_s (pc1 := 9) (st1 := [.int (-1)]) rfl (fun _ => rfl) ?_
            refine pr_s (pc1 := 11) (lv1 := [(5, .int (-1)), (0, .ref 138), (1, .int 2), (2, .int a2), (3, .int a3), (4, .int a4)]) (st1 := []) rfl (fun _ => rfl) ?_
            refine pr_s (pc1 := 13) (st1 := [.int (-1)]) rfl (fun _ => rfl) ?_
            refine pr_bt (t := 79) (off := 66) (bb := decide (((-1) : Int32) < 0)) (st1 := []) rfl rfl rfl rfl (by decide) ?_
            refine pr_s (pc1 := 81) (st1 := [.int (-1)]) rfl (fun _ => rfl) ?_
            exact pr_e rfl (fun _ => rfl) ⟨rfl, rfl⟩
          show px_R _ _ _ _ (17, [(0, .ref 136), (1, .int 2), (2, .int a2), (3, .int a3), (4, .int a4)], [.int (-1)], _) _ _ _
          refine pr_s (pc1 := 19) (lv1 := [(5, .int (-1)), (0, .ref 136), (1, .int 2), (2, .int a2), (3, .int a3), (4, .int a4)]) (st1 := []) rfl (fun _ => rfl) ?_
          refine pr_s (pc1 := 21) (st1 := [.int (-1)]) rfl (fun _ => rfl) ?_
          refine pr_s (pc1 := 22) (st1 := [.int (-1), .int (-1)]) rfl (fun _ => rfl) ?_
          refine pr_bf (t := 29) (off := 7) (bb := !decide (((-1) : Int32) = (-1))) (st1 := []) rfl rfl rfl rfl (px_not_f (by decide)) ?_
          refine pr_s (pc1 := 26) (st1 := [.int (-1)]) rfl (fun _ => rfl) ?_
          refine pr_s (pc1 := 42) (st1 := [.int (-1)]) rfl (fun _ => rfl) ?_
          exact pr_e rfl (fun _ => rfl) ⟨rfl, rfl⟩
        show px_T _ _ _ _ (1666, [(4, .int 0), (3, .ref 164), (2, .ref 136), (1, .ref 0), (0, .retAddr 0)], [.int (-1), .int (-1)], _) _ _ _
        refine pt_bt (t := 2771) (off := 1105) (bb := decide (((-1) : Int32) = (-1))) (st1 := []) rfl rfl rfl rfl rfl (by decide) ?_
        refine pt_s (pc1 := 2774) (lv1 := [(4, .int 6), (3, .ref 164), (2, .ref 136), (1, .ref 0), (0, .retAddr 0)]) (st1 := []) rfl rfl (fun _ => rfl) ?_
        refine pt_s (pc1 := 23) (st1 := []) rfl rfl (fun _ => rfl) ?_
        refine pt_s (pc1 := 25) (st1 := [.int 6]) rfl rfl (fun _ => rfl) ?_
        refine pt_s (pc1 := 26) (st1 := [.retAddr 0, .int 6]) rfl rfl (fun _ => rfl) ?_
        refine pt_s (pc1 := 27) (st1 := [.int 6, .int 6]) rfl rfl (fun _ => rfl) ?_
        refine pt_s (pc1 := 29) (st1 := [.int 6, .int 6, .int 6]) rfl rfl (fun _ => rfl) ?_
        refine pt_s (pc1 := 30) (st1 := [.int 0, .int 6]) rfl rfl (fun _ => rfl) ?_
        refine pt_bt (t := 2777) (off := 2747) (bb := decide ((0 : Int32) < (6 : Int32))) (st1 := []) rfl rfl rfl rfl rfl (by decide) ?_
        refine pt_s (pc1 := 2778) (st1 := [.int 1]) rfl rfl (fun _ => rfl) ?_
        exact pt_e rfl ⟨rfl, (rfl : px_ins pm_law 2778 = some (.ireturn, 1))⟩
      · obtain rfl : a1 = 3 := Int32.toInt_inj.mp (hc.trans rfl)
        refine pt_s (pc1 := 1610) (st1 := []) rfl rfl (fun _ => rfl) ?_
        refine pt_s (pc1 := 1611) (st1 := [.ref 0]) rfl rfl (fun _ => rfl) ?_
        refine pt_s (pc1 := 1612) (st1 := [.retAddr 0, .ref 0]) rfl rfl (fun _ => rfl) ?_
        refine pt_s (pc1 := 1614) (st1 := [.int 0, .retAddr 0, .ref 0]) rfl rfl (fun _ => rfl) ?_
        refine pt_s (pc1 := 1615) (st1 := [.int 1, .int 0, .retAddr 0, .ref 0]) rfl rfl (fun _ => rfl) ?_
        refine pt_s (pc1 := 1616) (st1 := [.int 1, .retAddr 0, .ref 0]) rfl rfl (fun _ => rfl) ?_
        refine pt_s (pc1 := 1617) (st1 := [.int 3, .ref 0]) rfl rfl (fun _ => rfl) ?_
        refine pt_s (pc1 := 1618) (st1 := [.retAddr 0, .int 3, .ref 0]) rfl rfl (fun _ => rfl) ?_
        refine pt_s (pc1 := 1620) (st1 := [.int 0, .retAddr 0, .int 3, .ref 0]) rfl rfl (fun _ => rfl) ?_
        refine pt_s (pc1 := 1621) (st1 := [.int 2, .int 0, .retAddr 0, .int 3, .ref 0]) rfl rfl (fun _ => rfl) ?_
        refine pt_s (pc1 := 1622) (st1 := [.int 2, .retAddr 0, .int 3, .ref 0]) rfl rfl (fun _ => rfl) ?_
        refine pt_s (pc1 := 1623) (st1 := [.int a2, .int 3, .ref 0]) rfl rfl (fun _ => rfl) ?_
        refine pt_s (pc1 := 1624) (st1 := [.retAddr 0, .int a2, .int 3, .ref 0]) rfl rfl (fun _ => rfl) ?_
        refine pt_s (pc1 := 1626) (st1 := [.int 0, .retAddr 0, .int a2, .int 3, .ref 0]) rfl rfl (fun _ => rfl) ?_
        refine pt_s (pc1 := 1627) (st1 := [.int 3, .int 0, .retAddr 0, .int a2, .int 3, .ref 0]) rfl rfl (fun _ => rfl) ?_
        refine pt_s (pc1 := 1628) (st1 := [.int 3, .retAddr 0, .int a2, .int 3, .ref 0]) rfl rfl (fun _ => rfl) ?_
        refine pt_s (pc1 := 1629) (st1 := [.int a3, .int a2, .int 3, .ref 0]) rfl rfl (fun _ => rfl) ?_
        refine pt_s (pc1 := 1630) (st1 := [.retAddr 0, .int a3, .int a2, .int 3, .ref 0]) rfl rfl (fun _ => rfl) ?_
        refine pt_s (pc1 := 1632) (st1 := [.int 0, .retAddr 0, .int a3, .int a2, .int 3, .ref 0]) rfl rfl (fun _ => rfl) ?_
        refine pt_s (pc1 := 1633) (st1 := [.int 4, .int 0, .retAddr 0, .int a3, .int a2, .int 3, .ref 0]) rfl rfl (fun _ => rfl) ?_
        refine pt_s (pc1 := 1634) (st1 := [.int 4, .retAddr 0, .int a3, .int a2, .int 3, .ref 0]) rfl rfl (fun _ => rfl) ?_
        refine pt_s (pc1 := 1635) (st1 := [.int a4, .int a3, .int a2, .int 3, .ref 0]) rfl rfl (fun _ => rfl) ?_
        refine pt_callv (N := pm_X6_find) (as := [.ref 0, .int 3, .int a2, .int a3, .int a4]) (rest := []) (f := 2047) (l := 83976) (c1 := 0) (k1 := 0) (c2 := 599837) (k2 := 7274195) (v := some (.int (-1))) (h1 := px_hs) rfl rfl (fun ex => px_inv_hs ex rfl rfl rfl pg_0 rfl rfl rfl rfl) ?_ (Nat.le_of_ble_eq_true rfl) (Nat.le_of_ble_eq_true rfl) ?_
        · refine px_C_of rfl ?_
          refine pr_s (pc1 := 1) (st1 := [.ref 0]) rfl (fun _ => rfl) ?_
          refine pr_getf (pc1 := 4) (v := .ref 92) rfl rfl pg_0 rfl rfl ?_
          refine pr_getf (pc1 := 7) (v := .ref 93) rfl rfl pg_22 rfl rfl ?_
          refine pr_s (pc1 := 8) (st1 := [.ref 0, .ref 93]) rfl (fun _ => rfl) ?_
          refine pr_getf (pc1 := 11) (v := .ref 92) rfl rfl pg_0 rfl rfl ?_
          refine pr_getf (pc1 := 14) (v := .ref 93) rfl rfl pg_22 rfl rfl ?_
          refine pr_s (pc1 := 15) (st1 := [.int 3, .ref 93, .ref 93]) rfl (fun _ => rfl) ?_
          refine pr_s (pc1 := 16) (st1 := [.int a2, .int 3, .ref 93, .ref 93]) rfl (fun _ => rfl) ?_
          refine pr_s (pc1 := 17) (st1 := [.int a3, .int a2, .int 3, .ref 93, .ref 93]) rfl (fun _ => rfl) ?_
          refine pr_s (pc1 := 19) (st1 := [.int a4, .int a3, .int a2, .int 3, .ref 93, .ref 93]) rfl (fun _ => rfl) ?_
          refine pr_callv (N := pm_X2_placeLike) (as := [.ref 93, .int 3, .int a2, .int a3, .int a4]) (rest := [.ref 93]) (f := 2046) (l := 83950) (c1 := 0) (k1 := 0) (c2 := 0) (k2 := 0) (v := some (.int (-1))) (h1 := px_hs) rfl (fun ex => px_inv_hs ex rfl rfl rfl pg_23 rfl rfl rfl rfl) ?_ (Nat.le_of_ble_eq_true rfl) (Nat.le_of_ble_eq_true rfl) ?_
          · exact pq_82 a2 a3 a4
          show px_R _ _ _ _ (22, [(0, .ref 0), (1, .int 3), (2, .int a2), (3, .int a3), (4, .int a4)], [.int (-1), .ref 93], _) _ _ _
          refine pr_callv (N := pm_X2_numberAt) (as := [.ref 93, .int (-1)]) (rest := []) (f := 2046) (l := 83955) (c1 := 0) (k1 := 0) (c2 := 0) (k2 := 0) (v := some (.int (-1))) (h1 := px_hs) rfl (fun ex => px_inv_hs ex rfl rfl rfl pg_23 rfl rfl rfl rfl) ?_ (Nat.le_of_ble_eq_true rfl) (Nat.le_of_ble_eq_true rfl) ?_
          · refine px_C_of rfl ?_
            refine pr_s (pc1 := 1) (st1 := [.int (-1)]) rfl (fun _ => rfl) ?_
            refine pr_bt (t := 19) (off := 18) (bb := decide (((-1) : Int32) < 0)) (st1 := []) rfl rfl rfl rfl (by decide) ?_
            refine pr_s (pc1 := 20) (st1 := [.int (-1)]) rfl (fun _ => rfl) ?_
            exact pr_e rfl (fun _ => rfl) ⟨rfl, rfl⟩
          show px_R _ _ _ _ (25, [(0, .ref 0), (1, .int 3), (2, .int a2), (3, .int a3), (4, .int a4)], [.int (-1)], _) _ _ _
          exact pr_e rfl (fun _ => rfl) ⟨rfl, rfl⟩
        show px_T _ _ _ _ (1638, [(4, .int 0), (3, .ref 164), (2, .ref 136), (1, .ref 0), (0, .retAddr 0)], [.int (-1)], _) _ _ _
        refine pt_s (pc1 := 1639) (st1 := [.ref 136, .int (-1)]) rfl rfl (fun _ => rfl) ?_
        refine pt_s (pc1 := 1640) (st1 := [.retAddr 0, .ref 136, .int (-1)]) rfl rfl (fun _ => rfl) ?_
        refine pt_s (pc1 := 1642) (st1 := [.int 0, .retAddr 0, .ref 136, .int (-1)]) rfl rfl (fun _ => rfl) ?_
        refine pt_s (pc1 := 1643) (st1 := [.int 1, .int 0, .retAddr 0, .ref 136, .int (-1)]) rfl rfl (fun _ => rfl) ?_
        refine pt_s (pc1 := 1644) (st1 := [.int 1, .retAddr 0, .ref 136, .int (-1)]) rfl rfl (fun _ => rfl) ?_
        refine pt_s (pc1 := 1645) (st1 := [.int 3, .ref 136, .int (-1)]) rfl rfl (fun _ => rfl) ?_
        refine pt_s (pc1 := 1646) (st1 := [.retAddr 0, .int 3, .ref 136, .int (-1)]) rfl rfl (fun _ => rfl) ?_
        refine pt_s (pc1 := 1648) (st1 := [.int 0, .retAddr 0, .int 3, .ref 136, .int (-1)]) rfl rfl (fun _ => rfl) ?_
        refine pt_s (pc1 := 1649) (st1 := [.int 2, .int 0, .retAddr 0, .int 3, .ref 136, .int (-1)]) rfl rfl (fun _ => rfl) ?_
        refine pt_s (pc1 := 1650) (st1 := [.int 2, .retAddr 0, .int 3, .ref 136, .int (-1)]) rfl rfl (fun _ => rfl) ?_
        refine pt_s (pc1 := 1651) (st1 := [.int a2, .int 3, .ref 136, .int (-1)]) rfl rfl (fun _ => rfl) ?_
        refine pt_s (pc1 := 1652) (st1 := [.retAddr 0, .int a2, .int 3, .ref 136, .int (-1)]) rfl rfl (fun _ => rfl) ?_
        refine pt_s (pc1 := 1654) (st1 := [.int 0, .retAddr 0, .int a2, .int 3, .ref 136, .int (-1)]) rfl rfl (fun _ => rfl) ?_
        refine pt_s (pc1 := 1655) (st1 := [.int 3, .int 0, .retAddr 0, .int a2, .int 3, .ref 136, .int (-1)]) rfl rfl (fun _ => rfl) ?_
        refine pt_s (pc1 := 1656) (st1 := [.int 3, .retAddr 0, .int a2, .int 3, .ref 136, .int (-1)]) rfl rfl (fun _ => rfl) ?_
        refine pt_s (pc1 := 1657) (st1 := [.int a3, .int a2, .int 3, .ref 136, .int (-1)]) rfl rfl (fun _ => rfl) ?_
        refine pt_s (pc1 := 1658) (st1 := [.retAddr 0, .int a3, .int a2, .int 3, .ref 136, .int (-1)]) rfl rfl (fun _ => rfl) ?_
        refine pt_s (pc1 := 1660) (st1 := [.int 0, .retAddr 0, .int a3, .int a2, .int 3, .ref 136, .int (-1)]) rfl rfl (fun _ => rfl) ?_
        refine pt_s (pc1 := 1661) (st1 := [.int 4, .int 0, .retAddr 0, .int a3, .int a2, .int 3, .ref 136, .int (-1)]) rfl rfl (fun _ => rfl) ?_
        refine pt_s (pc1 := 1662) (st1 := [.int 4, .retAddr 0, .int a3, .int a2, .int 3, .ref 136, .int (-1)]) rfl rfl (fun _ => rfl) ?_
        refine pt_s (pc1 := 1663) (st1 := [.int a4, .int a3, .int a2, .int 3, .ref 136, .int (-1)]) rfl rfl (fun _ => rfl) ?_
        refine pt_callv (N := pm_X10_find) (as := [.ref 136, .int 3, .int a2, .int a3, .int a4]) (rest := [.int (-1)]) (f := 2047) (l := 83975) (c1 := 0) (k1 := 0) (c2 := 599837) (k2 := 7274195) (v := some (.int (-1))) (h1 := px_hs) rfl rfl (fun ex => px_inv_hs ex rfl rfl rfl pg_1 rfl rfl rfl rfl) ?_ (Nat.le_of_ble_eq_true rfl) (Nat.le_of_ble_eq_true rfl) ?_
        · refine px_C_of rfl ?_
          refine pr_s (pc1 := 1) (st1 := [.ref 136]) rfl (fun _ => rfl) ?_
          refine pr_s (pc1 := 2) (st1 := [.int 0, .ref 136]) rfl (fun _ => rfl) ?_
          refine pr_putf (pc1 := 5) (h1 := px_hs) rfl rfl pg_1 rfl rfl rfl rfl rfl (px_set_same pg_1 rfl) rfl ?_
          refine pr_s (pc1 := 6) (st1 := [.ref 136]) rfl (fun _ => rfl) ?_
          refine pr_getf (pc1 := 9) (v := .ref 138) rfl rfl pg_1 rfl rfl ?_
          refine pr_s (pc1 := 10) (st1 := [.int 3, .ref 138]) rfl (fun _ => rfl) ?_
          refine pr_s (pc1 := 11) (st1 := [.int a2, .int 3, .ref 138]) rfl (fun _ => rfl) ?_
          refine pr_s (pc1 := 12) (st1 := [.int a3, .int a2, .int 3, .ref 138]) rfl (fun _ => rfl) ?_
          refine pr_s (pc1 := 14) (st1 := [.int a4, .int a3, .int a2, .int 3, .ref 138]) rfl (fun _ => rfl) ?_
          refine pr_callv (N := pm_X9_find) (as := [.ref 138, .int 3, .int a2, .int a3, .int a4]) (rest := []) (f := 2046) (l := 83950) (c1 := 0) (k1 := 0) (c2 := 0) (k2 := 0) (v := some (.int (-1))) (h1 := px_hs) rfl (fun ex => px_inv_hs ex rfl rfl rfl pg_66 rfl rfl rfl rfl) ?_ (Nat.le_of_ble_eq_true rfl) (Nat.le_of_ble_eq_true rfl) ?_
          · refine px_C_of rfl ?_
            refine pr_s (pc1 := 1) (st1 := [.ref 138]) rfl (fun _ => rfl) ?_
            refine pr_getf (pc1 := 4) (v := .ref 141) rfl rfl pg_66 rfl rfl ?_
            refine pr_getf (pc1 := 7) (v := .int 0) rfl rfl pg_68 rfl rfl ?_
            refine pr_s (pc1 := 8) (st1 := [.int 1, .int 0]) rfl (fun _ => rfl) ?_
            refine pr_s (pc1 := 9) (st1 := [.int (-1)]) rfl (fun _ => rfl) ?_
            refine pr_s (pc1 := 11) (lv1 := [(5, .int (-1)), (0, .ref 138), (1, .int 3), (2, .int a2), (3, .int a3), (4, .int a4)]) (st1 := []) rfl (fun _ => rfl) ?_
            refine pr_s (pc1 := 13) (st1 := [.int (-1)]) rfl (fun _ => rfl) ?_
            refine pr_bt (t := 79) (off := 66) (bb := decide (((-1) : Int32) < 0)) (st1 := []) rfl rfl rfl rfl (by decide) ?_
            refine pr_s (pc1 := 81) (st1 := [.int (-1)]) rfl (fun _ => rfl) ?_
            exact pr_e rfl (fun _ => rfl) ⟨rfl, rfl⟩
          show px_R _ _ _ _ (17, [(0, .ref 136), (1, .int 3), (2, .int a2), (3, .int a3), (4, .int a4)], [.int (-1)], _) _ _ _
          refine pr_s (pc1 := 19) (lv1 := [(5, .int (-1)), (0, .ref 136), (1, .int 3), (2, .int a2), (3, .int a3), (4, .int a4)]) (st1 := []) rfl (fun _ => rfl) ?_
          refine pr_s (pc1 := 21) (st1 := [.int (-1)]) rfl (fun _ => rfl) ?_
          refine pr_s (pc1 := 22) (st1 := [.int (-1), .int (-1)]) rfl (fun _ => rfl) ?_
          refine pr_bf (t := 29) (off := 7) (bb := !decide (((-1) : Int32) = (-1))) (st1 := []) rfl rfl rfl rfl (px_not_f (by decide)) ?_
          refine pr_s (pc1 := 26) (st1 := [.int (-1)]) rfl (fun _ => rfl) ?_
          refine pr_s (pc1 := 42) (st1 := [.int (-1)]) rfl (fun _ => rfl) ?_
          exact pr_e rfl (fun _ => rfl) ⟨rfl, rfl⟩
        show px_T _ _ _ _ (1666, [(4, .int 0), (3, .ref 164), (2, .ref 136), (1, .ref 0), (0, .retAddr 0)], [.int (-1), .int (-1)], _) _ _ _
        refine pt_bt (t := 2771) (off := 1105) (bb := decide (((-1) : Int32) = (-1))) (st1 := []) rfl rfl rfl rfl rfl (by decide) ?_
        refine pt_s (pc1 := 2774) (lv1 := [(4, .int 6), (3, .ref 164), (2, .ref 136), (1, .ref 0), (0, .retAddr 0)]) (st1 := []) rfl rfl (fun _ => rfl) ?_
        refine pt_s (pc1 := 23) (st1 := []) rfl rfl (fun _ => rfl) ?_
        refine pt_s (pc1 := 25) (st1 := [.int 6]) rfl rfl (fun _ => rfl) ?_
        refine pt_s (pc1 := 26) (st1 := [.retAddr 0, .int 6]) rfl rfl (fun _ => rfl) ?_
        refine pt_s (pc1 := 27) (st1 := [.int 6, .int 6]) rfl rfl (fun _ => rfl) ?_
        refine pt_s (pc1 := 29) (st1 := [.int 6, .int 6, .int 6]) rfl rfl (fun _ => rfl) ?_
        refine pt_s (pc1 := 30) (st1 := [.int 0, .int 6]) rfl rfl (fun _ => rfl) ?_
        refine pt_bt (t := 2777) (off := 2747) (bb := decide ((0 : Int32) < (6 : Int32))) (st1 := []) rfl rfl rfl rfl rfl (by decide) ?_
        refine pt_s (pc1 := 2778) (st1 := [.int 1]) rfl rfl (fun _ => rfl) ?_
        exact pt_e rfl ⟨rfl, (rfl : px_ins pm_law 2778 = some (.ireturn, 1))⟩
      · obtain rfl : a1 = 4 := Int32.toInt_inj.mp (hc.trans rfl)
        refine pt_s (pc1 := 1610) (st1 := []) rfl rfl (fun _ => rfl) ?_
        refine pt_s (pc1 := 1611) (st1 := [.ref 0]) rfl rfl (fun _ => rfl) ?_
        refine pt_s (pc1 := 1612) (st1 := [.retAddr 0, .ref 0]) rfl rfl (fun _ => rfl) ?_
        refine pt_s (pc1 := 1614) (st1 := [.int 0, .retAddr 0, .ref 0]) rfl rfl (fun _ => rfl) ?_
        refine pt_s (pc1 := 1615) (st1 := [.int 1, .int 0, .retAddr 0, .ref 0]) rfl rfl (fun _ => rfl) ?_
        refine pt_s (pc1 := 1616) (st1 := [.int 1, .retAddr 0, .ref 0]) rfl rfl (fun _ => rfl) ?_
        refine pt_s (pc1 := 1617) (st1 := [.int 4, .ref 0]) rfl rfl (fun _ => rfl) ?_
        refine pt_s (pc1 := 1618) (st1 := [.retAddr 0, .int 4, .ref 0]) rfl rfl (fun _ => rfl) ?_
        refine pt_s (pc1 := 1620) (st1 := [.int 0, .retAddr 0, .int 4, .ref 0]) rfl rfl (fun _ => rfl) ?_
        refine pt_s (pc1 := 1621) (st1 := [.int 2, .int 0, .retAddr 0, .int 4, .ref 0]) rfl rfl (fun _ => rfl) ?_
        refine pt_s (pc1 := 1622) (st1 := [.int 2, .retAddr 0, .int 4, .ref 0]) rfl rfl (fun _ => rfl) ?_
        refine pt_s (pc1 := 1623) (st1 := [.int a2, .int 4, .ref 0]) rfl rfl (fun _ => rfl) ?_
        refine pt_s (pc1 := 1624) (st1 := [.retAddr 0, .int a2, .int 4, .ref 0]) rfl rfl (fun _ => rfl) ?_
        refine pt_s (pc1 := 1626) (st1 := [.int 0, .retAddr 0, .int a2, .int 4, .ref 0]) rfl rfl (fun _ => rfl) ?_
        refine pt_s (pc1 := 1627) (st1 := [.int 3, .int 0, .retAddr 0, .int a2, .int 4, .ref 0]) rfl rfl (fun _ => rfl) ?_
        refine pt_s (pc1 := 1628) (st1 := [.int 3, .retAddr 0, .int a2, .int 4, .ref 0]) rfl rfl (fun _ => rfl) ?_
        refine pt_s (pc1 := 1629) (st1 := [.int a3, .int a2, .int 4, .ref 0]) rfl rfl (fun _ => rfl) ?_
        refine pt_s (pc1 := 1630) (st1 := [.retAddr 0, .int a3, .int a2, .int 4, .ref 0]) rfl rfl (fun _ => rfl) ?_
        refine pt_s (pc1 := 1632) (st1 := [.int 0, .retAddr 0, .int a3, .int a2, .int 4, .ref 0]) rfl rfl (fun _ => rfl) ?_
        refine pt_s (pc1 := 1633) (st1 := [.int 4, .int 0, .retAddr 0, .int a3, .int a2, .int 4, .ref 0]) rfl rfl (fun _ => rfl) ?_
        refine pt_s (pc1 := 1634) (st1 := [.int 4, .retAddr 0, .int a3, .int a2, .int 4, .ref 0]) rfl rfl (fun _ => rfl) ?_
        refine pt_s (pc1 := 1635) (st1 := [.int a4, .int a3, .int a2, .int 4, .ref 0]) rfl rfl (fun _ => rfl) ?_
        refine pt_callv (N := pm_X6_find) (as := [.ref 0, .int 4, .int a2, .int a3, .int a4]) (rest := []) (f := 2047) (l := 83976) (c1 := 0) (k1 := 0) (c2 := 599837) (k2 := 7274195) (v := some (.int (-1))) (h1 := px_hs) rfl rfl (fun ex => px_inv_hs ex rfl rfl rfl pg_0 rfl rfl rfl rfl) ?_ (Nat.le_of_ble_eq_true rfl) (Nat.le_of_ble_eq_true rfl) ?_
        · refine px_C_of rfl ?_
          refine pr_s (pc1 := 1) (st1 := [.ref 0]) rfl (fun _ => rfl) ?_
          refine pr_getf (pc1 := 4) (v := .ref 92) rfl rfl pg_0 rfl rfl ?_
          refine pr_getf (pc1 := 7) (v := .ref 93) rfl rfl pg_22 rfl rfl ?_
          refine pr_s (pc1 := 8) (st1 := [.ref 0, .ref 93]) rfl (fun _ => rfl) ?_
          refine pr_getf (pc1 := 11) (v := .ref 92) rfl rfl pg_0 rfl rfl ?_
          refine pr_getf (pc1 := 14) (v := .ref 93) rfl rfl pg_22 rfl rfl ?_
          refine pr_s (pc1 := 15) (st1 := [.int 4, .ref 93, .ref 93]) rfl (fun _ => rfl) ?_
          refine pr_s (pc1 := 16) (st1 := [.int a2, .int 4, .ref 93, .ref 93]) rfl (fun _ => rfl) ?_
          refine pr_s (pc1 := 17) (st1 := [.int a3, .int a2, .int 4, .ref 93, .ref 93]) rfl (fun _ => rfl) ?_
          refine pr_s (pc1 := 19) (st1 := [.int a4, .int a3, .int a2, .int 4, .ref 93, .ref 93]) rfl (fun _ => rfl) ?_
          refine pr_callv (N := pm_X2_placeLike) (as := [.ref 93, .int 4, .int a2, .int a3, .int a4]) (rest := [.ref 93]) (f := 2046) (l := 83950) (c1 := 0) (k1 := 0) (c2 := 0) (k2 := 0) (v := some (.int (-1))) (h1 := px_hs) rfl (fun ex => px_inv_hs ex rfl rfl rfl pg_23 rfl rfl rfl rfl) ?_ (Nat.le_of_ble_eq_true rfl) (Nat.le_of_ble_eq_true rfl) ?_
          · exact pq_83 a2 a3 a4
          show px_R _ _ _ _ (22, [(0, .ref 0), (1, .int 4), (2, .int a2), (3, .int a3), (4, .int a4)], [.int (-1), .ref 93], _) _ _ _
          refine pr_callv (N := pm_X2_numberAt) (as := [.ref 93, .int (-1)]) (rest := []) (f := 2046) (l := 83955) (c1 := 0) (k1 := 0) (c2 := 0) (k2 := 0) (v := some (.int (-1))) (h1 := px_hs) rfl (fun ex => px_inv_hs ex rfl rfl rfl pg_23 rfl rfl rfl rfl) ?_ (Nat.le_of_ble_eq_true rfl) (Nat.le_of_ble_eq_true rfl) ?_
          · refine px_C_of rfl ?_
            refine pr_s (pc1 := 1) (st1 := [.int (-1)]) rfl (fun _ => rfl) ?_
            refine pr_bt (t := 19) (off := 18) (bb := decide (((-1) : Int32) < 0)) (st1 := []) rfl rfl rfl rfl (by decide) ?_
            refine pr_s (pc1 := 20) (st1 := [.int (-1)]) rfl (fun _ => rfl) ?_
            exact pr_e rfl (fun _ => rfl) ⟨rfl, rfl⟩
          show px_R _ _ _ _ (25, [(0, .ref 0), (1, .int 4), (2, .int a2), (3, .int a3), (4, .int a4)], [.int (-1)], _) _ _ _
          exact pr_e rfl (fun _ => rfl) ⟨rfl, rfl⟩
        show px_T _ _ _ _ (1638, [(4, .int 0), (3, .ref 164), (2, .ref 136), (1, .ref 0), (0, .retAddr 0)], [.int (-1)], _) _ _ _
        refine pt_s (pc1 := 1639) (st1 := [.ref 136, .int (-1)]) rfl rfl (fun _ => rfl) ?_
        refine pt_s (pc1 := 1640) (st1 := [.retAddr 0, .ref 136, .int (-1)]) rfl rfl (fun _ => rfl) ?_
        refine pt_s (pc1 := 1642) (st1 := [.int 0, .retAddr 0, .ref 136, .int (-1)]) rfl rfl (fun _ => rfl) ?_
        refine pt_s (pc1 := 1643) (st1 := [.int 1, .int 0, .retAddr 0, .ref 136, .int (-1)]) rfl rfl (fun _ => rfl) ?_
        refine pt_s (pc1 := 1644) (st1 := [.int 1, .retAddr 0, .ref 136, .int (-1)]) rfl rfl (fun _ => rfl) ?_
        refine pt_s (pc1 := 1645) (st1 := [.int 4, .ref 136, .int (-1)]) rfl rfl (fun _ => rfl) ?_
        refine pt_s (pc1 := 1646) (st1 := [.retAddr 0, .int 4, .ref 136, .int (-1)]) rfl rfl (fun _ => rfl) ?_
        refine pt_s (pc1 := 1648) (st1 := [.int 0, .retAddr 0, .int 4, .ref 136, .int (-1)]) rfl rfl (fun _ => rfl) ?_
        refine pt_s (pc1 := 1649) (st1 := [.int 2, .int 0, .retAddr 0, .int 4, .ref 136, .int (-1)]) rfl rfl (fun _ => rfl) ?_
        refine pt_s (pc1 := 1650) (st1 := [.int 2, .retAddr 0, .int 4, .ref 136, .int (-1)]) rfl rfl (fun _ => rfl) ?_
        refine pt_s (pc1 := 1651) (st1 := [.int a2, .int 4, .ref 136, .int (-1)]) rfl rfl (fun _ => rfl) ?_
        refine pt_s (pc1 := 1652) (st1 := [.retAddr 0, .int a2, .int 4, .ref 136, .int (-1)]) rfl rfl (fun _ => rfl) ?_
        refine pt_s (pc1 := 1654) (st1 := [.int 0, .retAddr 0, .int a2, .int 4, .ref 136, .int (-1)]) rfl rfl (fun _ => rfl) ?_
        refine pt_s (pc1 := 1655) (st1 := [.int 3, .int 0, .retAddr 0, .int a2, .int 4, .ref 136, .int (-1)]) rfl rfl (fun _ => rfl) ?_
        refine pt_s (pc1 := 1656) (st1 := [.int 3, .retAddr 0, .int a2, .int 4, .ref 136, .int (-1)]) rfl rfl (fun _ => rfl) ?_
        refine pt_s (pc1 := 1657) (st1 := [.int a3, .int a2, .int 4, .ref 136, .int (-1)]) rfl rfl (fun _ => rfl) ?_
        refine pt_s (pc1 := 1658) (st1 := [.retAddr 0, .int a3, .int a2, .int 4, .ref 136, .int (-1)]) rfl rfl (fun _ => rfl) ?_
        refine pt_s (pc1 := 1660) (st1 := [.int 0, .retAddr 0, .int a3, .int a2, .int 4, .ref 136, .int (-1)]) rfl rfl (fun _ => rfl) ?_
        refine pt_s (pc1 := 1661) (st1 := [.int 4, .int 0, .retAddr 0, .int a3, .int a2, .int 4, .ref 136, .int (-1)]) rfl rfl (fun _ => rfl) ?_
        refine pt_s (pc1 := 1662) (st1 := [.int 4, .retAddr 0, .int a3, .int a2, .int 4, .ref 136, .int (-1)]) rfl rfl (fun _ => rfl) ?_
        refine pt_s (pc1 := 1663) (st1 := [.int a4, .int a3, .int a2, .int 4, .ref 136, .int (-1)]) rfl rfl (fun _ => rfl) ?_
        refine pt_callv (N := pm_X10_find) (as := [.ref 136, .int 4, .int a2, .int a3, .int a4]) (rest := [.int (-1)]) (f := 2047) (l := 83975) (c1 := 0) (k1 := 0) (c2 := 599837) (k2 := 7274195) (v := some (.int (-1))) (h1 := px_hs) rfl rfl (fun ex => px_inv_hs ex rfl rfl rfl pg_1 rfl rfl rfl rfl) ?_ (Nat.le_of_ble_eq_true rfl) (Nat.le_of_ble_eq_true rfl) ?_
        · refine px_C_of rfl ?_
          refine pr_s (pc1 := 1) (st1 := [.ref 136]) rfl (fun _ => rfl) ?_
          refine pr_s (pc1 := 2) (st1 := [.int 0, .ref 136]) rfl (fun _ => rfl) ?_
          refine pr_putf (pc1 := 5) (h1 := px_hs) rfl rfl pg_1 rfl rfl rfl rfl rfl (px_set_same pg_1 rfl) rfl ?_
          refine pr_s (pc1 := 6) (st1 := [.ref 136]) rfl (fun _ => rfl) ?_
          refine pr_getf (pc1 := 9) (v := .ref 138) rfl rfl pg_1 rfl rfl ?_
          refine pr_s (pc1 := 10) (st1 := [.int 4, .ref 138]) rfl (fun _ => rfl) ?_
          refine pr_s (pc1 := 11) (st1 := [.int a2, .int 4, .ref 138]) rfl (fun _ => rfl) ?_
          refine pr_s (pc1 := 12) (st1 := [.int a3, .int a2, .int 4, .ref 138]) rfl (fun _ => rfl) ?_
          refine pr_s (pc1 := 14) (st1 := [.int a4, .int a3, .int a2, .int 4, .ref 138]) rfl (fun _ => rfl) ?_
          refine pr_callv (N := pm_X9_find) (as := [.ref 138, .int 4, .int a2, .int a3, .int a4]) (rest := []) (f := 2046) (l := 83950) (c1 := 0) (k1 := 0) (c2 := 0) (k2 := 0) (v := some (.int (-1))) (h1 := px_hs) rfl (fun ex => px_inv_hs ex rfl rfl rfl pg_66 rfl rfl rfl rfl) ?_ (Nat.le_of_ble_eq_true rfl) (Nat.le_of_ble_eq_true rfl) ?_
          · refine px_C_of rfl ?_
            refine pr_s (pc1 := 1) (st1 := [.ref 138]) rfl (fun _ => rfl) ?_
            refine pr_getf (pc1 := 4) (v := .ref 141) rfl rfl pg_66 rfl rfl ?_
            refine pr_getf (pc1 := 7) (v := .int 0) rfl rfl pg_68 rfl rfl ?_
            refine pr_s (pc1 := 8) (st1 := [.int 1, .int 0]) rfl (fun _ => rfl) ?_
            refine pr_s (pc1 := 9) (st1 := [.int (-1)]) rfl (fun _ => rfl) ?_
            refine pr_s (pc1 := 11) (lv1 := [(5, .int (-1)), (0, .ref 138), (1, .int 4), (2, .int a2), (3, .int a3), (4, .int a4)]) (st1 := []) rfl (fun _ => rfl) ?_
            refine pr_s (pc1 := 13) (st1 := [.int (-1)]) rfl (fun _ => rfl) ?_
            refine pr_bt (t := 79) (off := 66) (bb := decide (((-1) : Int32) < 0)) (st1 := []) rfl rfl rfl rfl (by decide) ?_
            refine pr_s (pc1 := 81) (st1 := [.int (-1)]) rfl (fun _ => rfl) ?_
            exact pr_e rfl (fun _ => rfl) ⟨rfl, rfl⟩
          show px_R _ _ _ _ (17, [(0, .ref 136), (1, .int 4), (2, .int a2), (3, .int a3), (4, .int a4)], [.int (-1)], _) _ _ _
          refine pr_s (pc1 := 19) (lv1 := [(5, .int (-1)), (0, .ref 136), (1, .int 4), (2, .int a2), (3, .int a3), (4, .int a4)]) (st1 := []) rfl (fun _ => rfl) ?_
          refine pr_s (pc1 := 21) (st1 := [.int (-1)]) rfl (fun _ => rfl) ?_
          refine pr_s (pc1 := 22) (st1 := [.int (-1), .int (-1)]) rfl (fun _ => rfl) ?_
          refine pr_bf (t := 29) (off := 7) (bb := !decide (((-1) : Int32) = (-1))) (st1 := []) rfl rfl rfl rfl (px_not_f (by decide)) ?_
          refine pr_s (pc1 := 26) (st1 := [.int (-1)]) rfl (fun _ => rfl) ?_
          refine pr_s (pc1 := 42) (st1 := [.int (-1)]) rfl (fun _ => rfl) ?_
          exact pr_e rfl (fun _ => rfl) ⟨rfl, rfl⟩
        show px_T _ _ _ _ (1666, [(4, .int 0), (3, .ref 164), (2, .ref 136), (1, .ref 0), (0, .retAddr 0)], [.int (-1), .int (-1)], _) _ _ _
        refine pt_bt (t := 2771) (off := 1105) (bb := decide (((-1) : Int32) = (-1))) (st1 := []) rfl rfl rfl rfl rfl (by decide) ?_
        refine pt_s (pc1 := 2774) (lv1 := [(4, .int 6), (3, .ref 164), (2, .ref 136), (1, .ref 0), (0, .retAddr 0)]) (st1 := []) rfl rfl (fun _ => rfl) ?_
        refine pt_s (pc1 := 23) (st1 := []) rfl rfl (fun _ => rfl) ?_
        refine pt_s (pc1 := 25) (st1 := [.int 6]) rfl rfl (fun _ => rfl) ?_
        refine pt_s (pc1 := 26) (st1 := [.retAddr 0, .int 6]) rfl rfl (fun _ => rfl) ?_
        refine pt_s (pc1 := 27) (st1 := [.int 6, .int 6]) rfl rfl (fun _ => rfl) ?_
        refine pt_s (pc1 := 29) (st1 := [.int 6, .int 6, .int 6]) rfl rfl (fun _ => rfl) ?_
        refine pt_s (pc1 := 30) (st1 := [.int 0, .int 6]) rfl rfl (fun _ => rfl) ?_
        refine pt_bt (t := 2777) (off := 2747) (bb := decide ((0 : Int32) < (6 : Int32))) (st1 := []) rfl rfl rfl rfl rfl (by decide) ?_
        refine pt_s (pc1 := 2778) (st1 := [.int 1]) rfl rfl (fun _ => rfl) ?_
        exact pt_e rfl ⟨rfl, (rfl : px_ins pm_law 2778 = some (.ireturn, 1))⟩
      · obtain rfl : a1 = 5 := Int32.toInt_inj.mp (hc.trans rfl)
        refine pt_s (pc1 := 1610) (st1 := []) rfl rfl (fun _ => rfl) ?_
        refine pt_s (pc1 := 1611) (st1 := [.ref 0]) rfl rfl (fun _ => rfl) ?_
        refine pt_s (pc1 := 1612) (st1 := [.retAddr 0, .ref 0]) rfl rfl (fun _ => rfl) ?_
        refine pt_s (pc1 := 1614) (st1 := [.int 0, .retAddr 0, .ref 0]) rfl rfl (fun _ => rfl) ?_
        refine pt_s (pc1 := 1615) (st1 := [.int 1, .int 0, .retAddr 0, .ref 0]) rfl rfl (fun _ => rfl) ?_
        refine pt_s (pc1 := 1616) (st1 := [.int 1, .retAddr 0, .ref 0]) rfl rfl (fun _ => rfl) ?_
        refine pt_s (pc1 := 1617) (st1 := [.int 5, .ref 0]) rfl rfl (fun _ => rfl) ?_
        refine pt_s (pc1 := 1618) (st1 := [.retAddr 0, .int 5, .ref 0]) rfl rfl (fun _ => rfl) ?_
        refine pt_s (pc1 := 1620) (st1 := [.int 0, .retAddr 0, .int 5, .ref 0]) rfl rfl (fun _ => rfl) ?_
        refine pt_s (pc1 := 1621) (st1 := [.int 2, .int 0, .retAddr 0, .int 5, .ref 0]) rfl rfl (fun _ => rfl) ?_
        refine pt_s (pc1 := 1622) (st1 := [.int 2, .retAddr 0, .int 5, .ref 0]) rfl rfl (fun _ => rfl) ?_
        refine pt_s (pc1 := 1623) (st1 := [.int a2, .int 5, .ref 0]) rfl rfl (fun _ => rfl) ?_
        refine pt_s (pc1 := 1624) (st1 := [.retAddr 0, .int a2, .int 5, .ref 0]) rfl rfl (fun _ => rfl) ?_
        refine pt_s (pc1 := 1626) (st1 := [.int 0, .retAddr 0, .int a2, .int 5, .ref 0]) rfl rfl (fun _ => rfl) ?_
        refine pt_s (pc1 := 1627) (st1 := [.int 3, .int 0, .retAddr 0, .int a2, .int 5, .ref 0]) rfl rfl (fun _ => rfl) ?_
        refine pt_s (pc1 := 1628) (st1 := [.int 3, .retAddr 0, .int a2, .int 5, .ref 0]) rfl rfl (fun _ => rfl) ?_
        refine pt_s (pc1 := 1629) (st1 := [.int a3, .int a2, .int 5, .ref 0]) rfl rfl (fun _ => rfl) ?_
        refine pt_s (pc1 := 1630) (st1 := [.retAddr 0, .int a3, .int a2, .int 5, .ref 0]) rfl rfl (fun _ => rfl) ?_
        refine pt_s (pc1 := 1632) (st1 := [.int 0, .retAddr 0, .int a3, .int a2, .int 5, .ref 0]) rfl rfl (fun _ => rfl) ?_
        refine pt_s (pc1 := 1633) (st1 := [.int 4, .int 0, .retAddr 0, .int a3, .int a2, .int 5, .ref 0]) rfl rfl (fun _ => rfl) ?_
        refine pt_s (pc1 := 1634) (st1 := [.int 4, .retAddr 0, .int a3, .int a2, .int 5, .ref 0]) rfl rfl (fun _ => rfl) ?_
        refine pt_s (pc1 := 1635) (st1 := [.int a4, .int a3, .int a2, .int 5, .ref 0]) rfl rfl (fun _ => rfl) ?_
        refine pt_callv (N := pm_X6_find) (as := [.ref 0, .int 5, .int a2, .int a3, .int a4]) (rest := []) (f := 2047) (l := 83976) (c1 := 0) (k1 := 0) (c2 := 599837) (k2 := 7274195) (v := some (.int (-1))) (h1 := px_hs) rfl rfl (fun ex => px_inv_hs ex rfl rfl rfl pg_0 rfl rfl rfl rfl) ?_ (Nat.le_of_ble_eq_true rfl) (Nat.le_of_ble_eq_true rfl) ?_
        · refine px_C_of rfl ?_
          refine pr_s (pc1 := 1) (st1 := [.ref 0]) rfl (fun _ => rfl) ?_
          refine pr_getf (pc1 := 4) (v := .ref 92) rfl rfl pg_0 rfl rfl ?_
          refine pr_getf (pc1 := 7) (v := .ref 93) rfl rfl pg_22 rfl rfl ?_
          refine pr_s (pc1 := 8) (st1 := [.ref 0, .ref 93]) rfl (fun _ => rfl) ?_
          refine pr_getf (pc1 := 11) (v := .ref 92) rfl rfl pg_0 rfl rfl ?_
          refine pr_getf (pc1 := 14) (v := .ref 93) rfl rfl pg_22 rfl rfl ?_
          refine pr_s (pc1 := 15) (st1 := [.int 5, .ref 93, .ref 93]) rfl (fun _ => rfl) ?_
          refine pr_s (pc1 := 16) (st1 := [.int a2, .int 5, .ref 93, .ref 93]) rfl (fun _ => rfl) ?_
          refine pr_s (pc1 := 17) (st1 := [.int a3, .int a2, .int 5, .ref 93, .ref 93]) rfl (fun _ => rfl) ?_
          refine pr_s (pc1 := 19) (st1 := [.int a4, .int a3, .int a2, .int 5, .ref 93, .ref 93]) rfl (fun _ => rfl) ?_
          refine pr_callv (N := pm_X2_placeLike) (as := [.ref 93, .int 5, .int a2, .int a3, .int a4]) (rest := [.ref 93]) (f := 2046) (l := 83950) (c1 := 0) (k1 := 0) (c2 := 0) (k2 := 0) (v := some (.int (-1))) (h1 := px_hs) rfl (fun ex => px_inv_hs ex rfl rfl rfl pg_23 rfl rfl rfl rfl) ?_ (Nat.le_of_ble_eq_true rfl) (Nat.le_of_ble_eq_true rfl) ?_
          · exact pq_84 a2 a3 a4
          show px_R _ _ _ _ (22, [(0, .ref 0), (1, .int 5), (2, .int a2), (3, .int a3), (4, .int a4)], [.int (-1), .ref 93], _) _ _ _
          refine pr_callv (N := pm_X2_numberAt) (as := [.ref 93, .int (-1)]) (rest := []) (f := 2046) (l := 83955) (c1 := 0) (k1 := 0) (c2 := 0) (k2 := 0) (v := some (.int (-1))) (h1 := px_hs) rfl (fun ex => px_inv_hs ex rfl rfl rfl pg_23 rfl rfl rfl rfl) ?_ (Nat.le_of_ble_eq_true rfl) (Nat.le_of_ble_eq_true rfl) ?_
          · refine px_C_of rfl ?_
            refine pr_s (pc1 := 1) (st1 := [.int (-1)]) rfl (fun _ => rfl) ?_
            refine pr_bt (t := 19) (off := 18) (bb := decide (((-1) : Int32) < 0)) (st1 := []) rfl rfl rfl rfl (by decide) ?_
            refine pr_s (pc1 := 20) (st1 := [.int (-1)]) rfl (fun _ => rfl) ?_
            exact pr_e rfl (fun _ => rfl) ⟨rfl, rfl⟩
          show px_R _ _ _ _ (25, [(0, .ref 0), (1, .int 5), (2, .int a2), (3, .int a3), (4, .int a4)], [.int (-1)], _) _ _ _
          exact pr_e rfl (fun _ => rfl) ⟨rfl, rfl⟩
        show px_T _ _ _ _ (1638, [(4, .int 0), (3, .ref 164), (2, .ref 136), (1, .ref 0), (0, .retAddr 0)], [.int (-1)], _) _ _ _
        refine pt_s (pc1 := 1639) (st1 := [.ref 136, .int (-1)]) rfl rfl (fun _ => rfl) ?_
        refine pt_s (pc1 := 1640) (st1 := [.retAddr 0, .ref 136, .int (-1)]) rfl rfl (fun _ => rfl) ?_
        refine pt_s (pc1 := 1642) (st1 := [.int 0, .retAddr 0, .ref 136, .int (-1)]) rfl rfl (fun _ => rfl) ?_
        refine pt_s (pc1 := 1643) (st1 := [.int 1, .int 0, .retAddr 0, .ref 136, .int (-1)]) rfl rfl (fun _ => rfl) ?_
        refine pt_s (pc1 := 1644) (st1 := [.int 1, .retAddr 0, .ref 136, .int (-1)]) rfl rfl (fun _ => rfl) ?_
        refine pt_s (pc1 := 1645) (st1 := [.int 5, .ref 136, .int (-1)]) rfl rfl (fun _ => rfl) ?_
        refine pt_s (pc1 := 1646) (st1 := [.retAddr 0, .int 5, .ref 136, .int (-1)]) rfl rfl (fun _ => rfl) ?_
        refine pt_s (pc1 := 1648) (st1 := [.int 0, .retAddr 0, .int 5, .ref 136, .int (-1)]) rfl rfl (fun _ => rfl) ?_
        refine pt_s (pc1 := 1649) (st1 := [.int 2, .int 0, .retAddr 0, .int 5, .ref 136, .int (-1)]) rfl rfl (fun _ => rfl) ?_
        refine pt_s (pc1 := 1650) (st1 := [.int 2, .retAddr 0, .int 5, .ref 136, .int (-1)]) rfl rfl (fun _ => rfl) ?_
        refine pt_s (pc1 := 1651) (st1 := [.int a2, .int 5, .ref 136, .int (-1)]) rfl rfl (fun _ => rfl) ?_
        refine pt_s (pc1 := 1652) (st1 := [.retAddr 0, .int a2, .int 5, .ref 136, .int (-1)]) rfl rfl (fun _ => rfl) ?_
        refine pt_s (pc1 := 1654) (st1 := [.int 0, .retAddr 0, .int a2, .int 5, .ref 136, .int (-1)]) rfl rfl (fun _ => rfl) ?_
        refine pt_s (pc1 := 1655) (st1 := [.int 3, .int 0, .retAddr 0, .int a2, .int 5, .ref 136, .int (-1)]) rfl rfl (fun _ => rfl) ?_
        refine pt_s (pc1 := 1656) (st1 := [.int 3, .retAddr 0, .int a2, .int 5, .ref 136, .int (-1)]) rfl rfl (fun _ => rfl) ?_
        refine pt_s (pc1 := 1657) (st1 := [.int a3, .int a2, .int 5, .ref 136, .int (-1)]) rfl rfl (fun _ => rfl) ?_
        refine pt_s (pc1 := 1658) (st1 := [.retAddr 0, .int a3, .int a2, .int 5, .ref 136, .int (-1)]) rfl rfl (fun _ => rfl) ?_
        refine pt_s (pc1 := 1660) (st1 := [.int 0, .retAddr 0, .int a3, .int a2, .int 5, .ref 136, .int (-1)]) rfl rfl (fun _ => rfl) ?_
        refine pt_s (pc1 := 1661) (st1 := [.int 4, .int 0, .retAddr 0, .int a3, .int a2, .int 5, .ref 136, .int (-1)]) rfl rfl (fun _ => rfl) ?_
        refine pt_s (pc1 := 1662) (st1 := [.int 4, .retAddr 0, .int a3, .int a2, .int 5, .ref 136, .int (-1)]) rfl rfl (fun _ => rfl) ?_
        refine pt_s (pc1 := 1663) (st1 := [.int a4, .int a3, .int a2, .int 5, .ref 136, .int (-1)]) rfl rfl (fun _ => rfl) ?_
        refine pt_callv (N := pm_X10_find) (as := [.ref 136, .int 5, .int a2, .int a3, .int a4]) (rest := [.int (-1)]) (f := 2047) (l := 83975) (c1 := 0) (k1 := 0) (c2 := 599837) (k2 := 7274195) (v := some (.int (-1))) (h1 := px_hs) rfl rfl (fun ex => px_inv_hs ex rfl rfl rfl pg_1 rfl rfl rfl rfl) ?_ (Nat.le_of_ble_eq_true rfl) (Nat.le_of_ble_eq_true rfl) ?_
        · refine px_C_of rfl ?_
          refine pr_s (pc1 := 1) (st1 := [.ref 136]) rfl (fun _ => rfl) ?_
          refine pr_s (pc1 := 2) (st1 := [.int 0, .ref 136]) rfl (fun _ => rfl) ?_
          refine pr_putf (pc1 := 5) (h1 := px_hs) rfl rfl pg_1 rfl rfl rfl rfl rfl (px_set_same pg_1 rfl) rfl ?_
          refine pr_s (pc1 := 6) (st1 := [.ref 136]) rfl (fun _ => rfl) ?_
          refine pr_getf (pc1 := 9) (v := .ref 138) rfl rfl pg_1 rfl rfl ?_
          refine pr_s (pc1 := 10) (st1 := [.int 5, .ref 138]) rfl (fun _ => rfl) ?_
          refine pr_s (pc1 := 11) (st1 := [.int a2, .int 5, .ref 138]) rfl (fun _ => rfl) ?_
          refine pr_s (pc1 := 12) (st1 := [.int a3, .int a2, .int 5, .ref 138]) rfl (fun _ => rfl) ?_
          refine pr_s (pc1 := 14) (st1 := [.int a4, .int a3, .int a2, .int 5, .ref 138]) rfl (fun _ => rfl) ?_
          refine pr_callv (N := pm_X9_find) (as := [.ref 138, .int 5, .int a2, .int a3, .int a4]) (rest := []) (f := 2046) (l := 83950) (c1 := 0) (k1 := 0) (c2 := 0) (k2 := 0) (v := some (.int (-1))) (h1 := px_hs) rfl (fun ex => px_inv_hs ex rfl rfl rfl pg_66 rfl rfl rfl rfl) ?_ (Nat.le_of_ble_eq_true rfl) (Nat.le_of_ble_eq_true rfl) ?_
          · refine px_C_of rfl ?_
            refine pr_s (pc1 := 1) (st1 := [.ref 138]) rfl (fun _ => rfl) ?_
            refine pr_getf (pc1 := 4) (v := .ref 141) rfl rfl pg_66 rfl rfl ?_
            refine pr_getf (pc1 := 7) (v := .int 0) rfl rfl pg_68 rfl rfl ?_
            refine pr_s (pc1 := 8) (st1 := [.int 1, .int 0]) rfl (fun _ => rfl) ?_
            refine pr_s (pc1 := 9) (st1 := [.int (-1)]) rfl (fun _ => rfl) ?_
            refine pr_s (pc1 := 11) (lv1 := [(5, .int (-1)), (0, .ref 138), (1, .int 5), (2, .int a2), (3, .int a3), (4, .int a4)]) (st1 := []) rfl (fun _ => rfl) ?_
            refine pr_s (pc1 := 13) (st1 := [.int (-1)]) rfl (fun _ => rfl) ?_
            refine pr_bt (t := 79) (off := 66) (bb := decide (((-1) : Int32) < 0)) (st1 := []) rfl rfl rfl rfl (by decide) ?_
            refine pr_s (pc1 := 81) (st1 := [.int (-1)]) rfl (fun _ => rfl) ?_
            exact pr_e rfl (fun _ => rfl) ⟨rfl, rfl⟩
          show px_R _ _ _ _ (17, [(0, .ref 136), (1, .int 5), (2, .int a2), (3, .int a3), (4, .int a4)], [.int (-1)], _) _ _ _
          refine pr_s (pc1 := 19) (lv1 := [(5, .int (-1)), (0, .ref 136), (1, .int 5), (2, .int a2), (3, .int a3), (4, .int a4)]) (st1 := []) rfl (fun _ => rfl) ?_
          refine pr_s (pc1 := 21) (st1 := [.int (-1)]) rfl (fun _ => rfl) ?_
          refine pr_s (pc1 := 22) (st1 := [.int (-1), .int (-1)]) rfl (fun _ => rfl) ?_
          refine pr_bf (t := 29) (off := 7) (bb := !decide (((-1) : Int32) = (-1))) (st1 := []) rfl rfl rfl rfl (px_not_f (by decide)) ?_
          refine pr_s (pc1 := 26) (st1 := [.int (-1)]) rfl (fun _ => rfl) ?_
          refine pr_s (pc1 := 42) (st1 := [.int (-1)]) rfl (fun _ => rfl) ?_
          exact pr_e rfl (fun _ => rfl) ⟨rfl, rfl⟩
        show px_T _ _ _ _ (1666, [(4, .int 0), (3, .ref 164), (2, .ref 136), (1, .ref 0), (0, .retAddr 0)], [.int (-1), .int (-1)], _) _ _ _
        refine pt_bt (t := 2771) (off := 1105) (bb := decide (((-1) : Int32) = (-1))) (st1 := []) rfl rfl rfl rfl rfl (by decide) ?_
        refine pt_s (pc1 := 2774) (lv1 := [(4, .int 6), (3, .ref 164), (2, .ref 136), (1, .ref 0), (0, .retAddr 0)]) (st1 := []) rfl rfl (fun _ => rfl) ?_
        refine pt_s (pc1 := 23) (st1 := []) rfl rfl (fun _ => rfl) ?_
        refine pt_s (pc1 := 25) (st1 := [.int 6]) rfl rfl (fun _ => rfl) ?_
        refine pt_s (pc1 := 26) (st1 := [.retAddr 0, .int 6]) rfl rfl (fun _ => rfl) ?_
        refine pt_s (pc1 := 27) (st1 := [.int 6, .int 6]) rfl rfl (fun _ => rfl) ?_
        refine pt_s (pc1 := 29) (st1 := [.int 6, .int 6, .int 6]) rfl rfl (fun _ => rfl) ?_
        refine pt_s (pc1 := 30) (st1 := [.int 0, .int 6]) rfl rfl (fun _ => rfl) ?_
        refine pt_bt (t := 2777) (off := 2747) (bb := decide ((0 : Int32) < (6 : Int32))) (st1 := []) rfl rfl rfl rfl rfl (by decide) ?_
        refine pt_s (pc1 := 2778) (st1 := [.int 1]) rfl rfl (fun _ => rfl) ?_
        exact pt_e rfl ⟨rfl, (rfl : px_ins pm_law 2778 = some (.ireturn, 1))⟩
      · obtain rfl : a1 = 6 := Int32.toInt_inj.mp (hc.trans rfl)
        refine pt_s (pc1 := 1610) (st1 := []) rfl rfl (fun _ => rfl) ?_
        refine pt_s (pc1 := 1611) (st1 := [.ref 0]) rfl rfl (fun _ => rfl) ?_
        refine pt_s (pc1 := 1612) (st1 := [.retAddr 0, .ref 0]) rfl rfl (fun _ => rfl) ?_
        refine pt_s (pc1 := 1614) (st1 := [.int 0, .retAddr 0, .ref 0]) rfl rfl (fun _ => rfl) ?_
        refine pt_s (pc1 := 1615) (st1 := [.int 1, .int 0, .retAddr 0, .ref 0]) rfl rfl (fun _ => rfl) ?_
        refine pt_s (pc1 := 1616) (st1 := [.int 1, .retAddr 0, .ref 0]) rfl rfl (fun _ => rfl) ?_
        refine pt_s (pc1 := 1617) (st1 := [.int 6, .ref 0]) rfl rfl (fun _ => rfl) ?_
        refine pt_s (pc1 := 1618) (st1 := [.retAddr 0, .int 6, .ref 0]) rfl rfl (fun _ => rfl) ?_
        refine pt_s (pc1 := 1620) (st1 := [.int 0, .retAddr 0, .int 6, .ref 0]) rfl rfl (fun _ => rfl) ?_
        refine pt_s (pc1 := 1621) (st1 := [.int 2, .int 0, .retAddr 0, .int 6, .ref 0]) rfl rfl (fun _ => rfl) ?_
        refine pt_s (pc1 := 1622) (st1 := [.int 2, .retAddr 0, .int 6, .ref 0]) rfl rfl (fun _ => rfl) ?_
        refine pt_s (pc1 := 1623) (st1 := [.int a2, .int 6, .ref 0]) rfl rfl (fun _ => rfl) ?_
        refine pt_s (pc1 := 1624) (st1 := [.retAddr 0, .int a2, .int 6, .ref 0]) rfl rfl (fun _ => rfl) ?_
        refine pt_s (pc1 := 1626) (st1 := [.int 0, .retAddr 0, .int a2, .int 6, .ref 0]) rfl rfl (fun _ => rfl) ?_
        refine pt_s (pc1 := 1627) (st1 := [.int 3, .int 0, .retAddr 0, .int a2, .int 6, .ref 0]) rfl rfl (fun _ => rfl) ?_
        refine pt_s (pc1 := 1628) (st1 := [.int 3, .retAddr 0, .int a2, .int 6, .ref 0]) rfl rfl (fun _ => rfl) ?_
        refine pt_s (pc1 := 1629) (st1 := [.int a3, .int a2, .int 6, .ref 0]) rfl rfl (fun _ => rfl) ?_
        refine pt_s (pc1 := 1630) (st1 := [.retAddr 0, .int a3, .int a2, .int 6, .ref 0]) rfl rfl (fun _ => rfl) ?_
        refine pt_s (pc1 := 1632) (st1 := [.int 0, .retAddr 0, .int a3, .int a2, .int 6, .ref 0]) rfl rfl (fun _ => rfl) ?_
        refine pt_s (pc1 := 1633) (st1 := [.int 4, .int 0, .retAddr 0, .int a3, .int a2, .int 6, .ref 0]) rfl rfl (fun _ => rfl) ?_
        refine pt_s (pc1 := 1634) (st1 := [.int 4, .retAddr 0, .int a3, .int a2, .int 6, .ref 0]) rfl rfl (fun _ => rfl) ?_
        refine pt_s (pc1 := 1635) (st1 := [.int a4, .int a3, .int a2, .int 6, .ref 0]) rfl rfl (fun _ => rfl) ?_
        refine pt_callv (N := pm_X6_find) (as := [.ref 0, .int 6, .int a2, .int a3, .int a4]) (rest := []) (f := 2047) (l := 83976) (c1 := 0) (k1 := 0) (c2 := 599837) (k2 := 7274195) (v := some (.int (-1))) (h1 := px_hs) rfl rfl (fun ex => px_inv_hs ex rfl rfl rfl pg_0 rfl rfl rfl rfl) ?_ (Nat.le_of_ble_eq_true rfl) (Nat.le_of_ble_eq_true rfl) ?_
        · refine px_C_of rfl ?_
          refine pr_s (pc1 := 1) (st1 := [.ref 0]) rfl (fun _ => rfl) ?_
          refine pr_getf (pc1 := 4) (v := .ref 92) rfl rfl pg_0 rfl rfl ?_
          refine pr_getf (pc1 := 7) (v := .ref 93) rfl rfl pg_22 rfl rfl ?_
          refine pr_s (pc1 := 8) (st1 := [.ref 0, .ref 93]) rfl (fun _ => rfl) ?_
          refine pr_getf (pc1 := 11) (v := .ref 92) rfl rfl pg_0 rfl rfl ?_
          refine pr_getf (pc1 := 14) (v := .ref 93) rfl rfl pg_22 rfl rfl ?_
          refine pr_s (pc1 := 15) (st1 := [.int 6, .ref 93, .ref 93]) rfl (fun _ => rfl) ?_
          refine pr_s (pc1 := 16) (st1 := [.int a2, .int 6, .ref 93, .ref 93]) rfl (fun _ => rfl) ?_
          refine pr_s (pc1 := 17) (st1 := [.int a3, .int a2, .int 6, .ref 93, .ref 93]) rfl (fun _ => rfl) ?_
          refine pr_s (pc1 := 19) (st1 := [.int a4, .int a3, .int a2, .int 6, .ref 93, .ref 93]) rfl (fun _ => rfl) ?_
          refine pr_callv (N := pm_X2_placeLike) (as := [.ref 93, .int 6, .int a2, .int a3, .int a4]) (rest := [.ref 93]) (f := 2046) (l := 83950) (c1 := 0) (k1 := 0) (c2 := 0) (k2 := 0) (v := some (.int (-1))) (h1 := px_hs) rfl (fun ex => px_inv_hs ex rfl rfl rfl pg_23 rfl rfl rfl rfl) ?_ (Nat.le_of_ble_eq_true rfl) (Nat.le_of_ble_eq_true rfl) ?_
          · exact pq_85 a2 a3 a4
          show px_R _ _ _ _ (22, [(0, .ref 0), (1, .int 6), (2, .int a2), (3, .int a3), (4, .int a4)], [.int (-1), .ref 93], _) _ _ _
          refine pr_callv (N := pm_X2_numberAt) (as := [.ref 93, .int (-1)]) (rest := []) (f := 2046) (l := 83955) (c1 := 0) (k1 := 0) (c2 := 0) (k2 := 0) (v := some (.int (-1))) (h1 := px_hs) rfl (fun ex => px_inv_hs ex rfl rfl rfl pg_23 rfl rfl rfl rfl) ?_ (Nat.le_of_ble_eq_true rfl) (Nat.le_of_ble_eq_true rfl) ?_
          · refine px_C_of rfl ?_
            refine pr_s (pc1 := 1) (st1 := [.int (-1)]) rfl (fun _ => rfl) ?_
            refine pr_bt (t := 19) (off := 18) (bb := decide (((-1) : Int32) < 0)) (st1 := []) rfl rfl rfl rfl (by decide) ?_
            refine pr_s (pc1 := 20) (st1 := [.int (-1)]) rfl (fun _ => rfl) ?_
            exact pr_e rfl (fun _ => rfl) ⟨rfl, rfl⟩
          show px_R _ _ _ _ (25, [(0, .ref 0), (1, .int 6), (2, .int a2), (3, .int a3), (4, .int a4)], [.int (-1)], _) _ _ _
          exact pr_e rfl (fun _ => rfl) ⟨rfl, rfl⟩
        show px_T _ _ _ _ (1638, [(4, .int 0), (3, .ref 164), (2, .ref 136), (1, .ref 0), (0, .retAddr 0)], [.int (-1)], _) _ _ _
        refine pt_s (pc1 := 1639) (st1 := [.ref 136, .int (-1)]) rfl rfl (fun _ => rfl) ?_
        refine pt_s (pc1 := 1640) (st1 := [.retAddr 0, .ref 136, .int (-1)]) rfl rfl (fun _ => rfl) ?_
        refine pt_s (pc1 := 1642) (st1 := [.int 0, .retAddr 0, .ref 136, .int (-1)]) rfl rfl (fun _ => rfl) ?_
        refine pt_s (pc1 := 1643) (st1 := [.int 1, .int 0, .retAddr 0, .ref 136, .int (-1)]) rfl rfl (fun _ => rfl) ?_
        refine pt_s (pc1 := 1644) (st1 := [.int 1, .retAddr 0, .ref 136, .int (-1)]) rfl rfl (fun _ => rfl) ?_
        refine pt_s (pc1 := 1645) (st1 := [.int 6, .ref 136, .int (-1)]) rfl rfl (fun _ => rfl) ?_
        refine pt_s (pc1 := 1646) (st1 := [.retAddr 0, .int 6, .ref 136, .int (-1)]) rfl rfl (fun _ => rfl) ?_
        refine pt_s (pc1 := 1648) (st1 := [.int 0, .retAddr 0, .int 6, .ref 136, .int (-1)]) rfl rfl (fun _ => rfl) ?_
        refine pt_s (pc1 := 1649) (st1 := [.int 2, .int 0, .retAddr 0, .int 6, .ref 136, .int (-1)]) rfl rfl (fun _ => rfl) ?_
        refine pt_s (pc1 := 1650) (st1 := [.int 2, .retAddr 0, .int 6, .ref 136, .int (-1)]) rfl rfl (fun _ => rfl) ?_
        refine pt_s (pc1 := 1651) (st1 := [.int a2, .int 6, .ref 136, .int (-1)]) rfl rfl (fun _ => rfl) ?_
        refine pt_s (pc1 := 1652) (st1 := [.retAddr 0, .int a2, .int 6, .ref 136, .int (-1)]) rfl rfl (fun _ => rfl) ?_
        refine pt_s (pc1 := 1654) (st1 := [.int 0, .retAddr 0, .int a2, .int 6, .ref 136, .int (-1)]) rfl rfl (fun _ => rfl) ?_
        refine pt_s (pc1 := 1655) (st1 := [.int 3, .int 0, .retAddr 0, .int a2, .int 6, .ref 136, .int (-1)]) rfl rfl (fun _ => rfl) ?_
        refine pt_s (pc1 := 1656) (st1 := [.int 3, .retAddr 0, .int a2, .int 6, .ref 136, .int (-1)]) rfl rfl (fun _ => rfl) ?_
        refine pt_s (pc1 := 1657) (st1 := [.int a3, .int a2, .int 6, .ref 136, .int (-1)]) rfl rfl (fun _ => rfl) ?_
        refine pt_s (pc1 := 1658) (st1 := [.retAddr 0, .int a3, .int a2, .int 6, .ref 136, .int (-1)]) rfl rfl (fun _ => rfl) ?_
        refine pt_s (pc1 := 1660) (st1 := [.int 0, .retAddr 0, .int a3, .int a2, .int 6, .ref 136, .int (-1)]) rfl rfl (fun _ => rfl) ?_
        refine pt_s (pc1 := 1661) (st1 := [.int 4, .int 0, .retAddr 0, .int a3, .int a2, .int 6, .ref 136, .int (-1)]) rfl rfl (fun _ => rfl) ?_
        refine pt_s (pc1 := 1662) (st1 := [.int 4, .retAddr 0, .int a3, .int a2, .int 6, .ref 136, .int (-1)]) rfl rfl (fun _ => rfl) ?_
        refine pt_s (pc1 := 1663) (st1 := [.int a4, .int a3, .int a2, .int 6, .ref 136, .int (-1)]) rfl rfl (fun _ => rfl) ?_
        refine pt_callv (N := pm_X10_find) (as := [.ref 136, .int 6, .int a2, .int a3, .int a4]) (rest := [.int (-1)]) (f := 2047) (l := 83975) (c1 := 0) (k1 := 0) (c2 := 599837) (k2 := 7274195) (v := some (.int (-1))) (h1 := px_hs) rfl rfl (fun ex => px_inv_hs ex rfl rfl rfl pg_1 rfl rfl rfl rfl) ?_ (Nat.le_of_ble_eq_true rfl) (Nat.le_of_ble_eq_true rfl) ?_
        · refine px_C_of rfl ?_
          refine pr_s (pc1 := 1) (st1 := [.ref 136]) rfl (fun _ => rfl) ?_
          refine pr_s (pc1 := 2) (st1 := [.int 0, .ref 136]) rfl (fun _ => rfl) ?_
          refine pr_putf (pc1 := 5) (h1 := px_hs) rfl rfl pg_1 rfl rfl rfl rfl rfl (px_set_same pg_1 rfl) rfl ?_
          refine pr_s (pc1 := 6) (st1 := [.ref 136]) rfl (fun _ => rfl) ?_
          refine pr_getf (pc1 := 9) (v := .ref 138) rfl rfl pg_1 rfl rfl ?_
          refine pr_s (pc1 := 10) (st1 := [.int 6, .ref 138]) rfl (fun _ => rfl) ?_
          refine pr_s (pc1 := 11) (st1 := [.int a2, .int 6, .ref 138]) rfl (fun _ => rfl) ?_
          refine pr_s (pc1 := 12) (st1 := [.int a3, .int a2, .int 6, .ref 138]) rfl (fun _ => rfl) ?_
          refine pr_s (pc1 := 14) (st1 := [.int a4, .int a3, .int a2, .int 6, .ref 138]) rfl (fun _ => rfl) ?_
          refine pr_callv (N := pm_X9_find) (as := [.ref 138, .int 6, .int a2, .int a3, .int a4]) (rest := []) (f := 2046) (l := 83950) (c1 := 0) (k1 := 0) (c2 := 0) (k2 := 0) (v := some (.int (-1))) (h1 := px_hs) rfl (fun ex => px_inv_hs ex rfl rfl rfl pg_66 rfl rfl rfl rfl) ?_ (Nat.le_of_ble_eq_true rfl) (Nat.le_of_ble_eq_true rfl) ?_
          · refine px_C_of rfl ?_
            refine pr_s (pc1 := 1) (st1 := [.ref 138]) rfl (fun _ => rfl) ?_
            refine pr_getf (pc1 := 4) (v := .ref 141) rfl rfl pg_66 rfl rfl ?_
            refine pr_getf (pc1 := 7) (v := .int 0) rfl rfl pg_68 rfl rfl ?_
            refine pr_s (pc1 := 8) (st1 := [.int 1, .int 0]) rfl (fun _ => rfl) ?_
            refine pr_s (pc1 := 9) (st1 := [.int (-1)]) rfl (fun _ => rfl) ?_
            refine pr_s (pc1 := 11) (lv1 := [(5, .int (-1)), (0, .ref 138), (1, .int 6), (2, .int a2), (3, .int a3), (4, .int a4)]) (st1 := []) rfl (fun _ => rfl) ?_
            refine pr_s (pc1 := 13) (st1 := [.int (-1)]) rfl (fun _ => rfl) ?_
            refine pr_bt (t := 79) (off := 66) (bb := decide (((-1) : Int32) < 0)) (st1 := []) rfl rfl rfl rfl (by decide) ?_
            refine pr_s (pc1 := 81) (st1 := [.int (-1)]) rfl (fun _ => rfl) ?_
            exact pr_e rfl (fun _ => rfl) ⟨rfl, rfl⟩
          show px_R _ _ _ _ (17, [(0, .ref 136), (1, .int 6), (2, .int a2), (3, .int a3), (4, .int a4)], [.int (-1)], _) _ _ _
          refine pr_s (pc1 := 19) (lv1 := [(5, .int (-1)), (0, .ref 136), (1, .int 6), (2, .int a2), (3, .int a3), (4, .int a4)]) (st1 := []) rfl (fun _ => rfl) ?_
          refine pr_s (pc1 := 21) (st1 := [.int (-1)]) rfl (fun _ => rfl) ?_
          refine pr_s (pc1 := 22) (st1 := [.int (-1), .int (-1)]) rfl (fun _ => rfl) ?_
          refine pr_bf (t := 29) (off := 7) (bb := !decide (((-1) : Int32) = (-1))) (st1 := []) rfl rfl rfl rfl (px_not_f (by decide)) ?_
          refine pr_s (pc1 := 26) (st1 := [.int (-1)]) rfl (fun _ => rfl) ?_
          refine pr_s (pc1 := 42) (st1 := [.int (-1)]) rfl (fun _ => rfl) ?_
          exact pr_e rfl (fun _ => rfl) ⟨rfl, rfl⟩
        show px_T _ _ _ _ (1666, [(4, .int 0), (3, .ref 164), (2, .ref 136), (1, .ref 0), (0, .retAddr 0)], [.int (-1), .int (-1)], _) _ _ _
        refine pt_bt (t := 2771) (off := 1105) (bb := decide (((-1) : Int32) = (-1))) (st1 := []) rfl rfl rfl rfl rfl (by decide) ?_
        refine pt_s (pc1 := 2774) (lv1 := [(4, .int 6), (3, .ref 164), (2, .ref 136), (1, .ref 0), (0, .retAddr 0)]) (st1 := []) rfl rfl (fun _ => rfl) ?_
        refine pt_s (pc1 := 23) (st1 := []) rfl rfl (fun _ => rfl) ?_
        refine pt_s (pc1 := 25) (st1 := [.int 6]) rfl rfl (fun _ => rfl) ?_
        refine pt_s (pc1 := 26) (st1 := [.retAddr 0, .int 6]) rfl rfl (fun _ => rfl) ?_
        refine pt_s (pc1 := 27) (st1 := [.int 6, .int 6]) rfl rfl (fun _ => rfl) ?_
        refine pt_s (pc1 := 29) (st1 := [.int 6, .int 6, .int 6]) rfl rfl (fun _ => rfl) ?_
        refine pt_s (pc1 := 30) (st1 := [.int 0, .int 6]) rfl rfl (fun _ => rfl) ?_
        refine pt_bt (t := 2777) (off := 2747) (bb := decide ((0 : Int32) < (6 : Int32))) (st1 := []) rfl rfl rfl rfl rfl (by decide) ?_
        refine pt_s (pc1 := 2778) (st1 := [.int 1]) rfl rfl (fun _ => rfl) ?_
        exact pt_e rfl ⟨rfl, (rfl : px_ins pm_law 2778 = some (.ireturn, 1))⟩
      · obtain rfl : a1 = 7 := Int32.toInt_inj.mp (hc.trans rfl)
        refine pt_s (pc1 := 1610) (st1 := []) rfl rfl (fun _ => rfl) ?_
        refine pt_s (pc1 := 1611) (st1 := [.ref 0]) rfl rfl (fun _ => rfl) ?_
        refine pt_s (pc1 := 1612) (st1 := [.retAddr 0, .ref 0]) rfl rfl (fun _ => rfl) ?_
        refine pt_s (pc1 := 1614) (st1 := [.int 0, .retAddr 0, .ref 0]) rfl rfl (fun _ => rfl) ?_
        refine pt_s (pc1 := 1615) (st1 := [.int 1, .int 0, .retAddr 0, .ref 0]) rfl rfl (fun _ => rfl) ?_
        refine pt_s (pc1 := 1616) (st1 := [.int 1, .retAddr 0, .ref 0]) rfl rfl (fun _ => rfl) ?_
        refine pt_s (pc1 := 1617) (st1 := [.int 7, .ref 0]) rfl rfl (fun _ => rfl) ?_
        refine pt_s (pc1 := 1618) (st1 := [.retAddr 0, .int 7, .ref 0]) rfl rfl (fun _ => rfl) ?_
        refine pt_s (pc1 := 1620) (st1 := [.int 0, .retAddr 0, .int 7, .ref 0]) rfl rfl (fun _ => rfl) ?_
        refine pt_s (pc1 := 1621) (st1 := [.int 2, .int 0, .retAddr 0, .int 7, .ref 0]) rfl rfl (fun _ => rfl) ?_
        refine pt_s (pc1 := 1622) (st1 := [.int 2, .retAddr 0, .int 7, .ref 0]) rfl rfl (fun _ => rfl) ?_
        refine pt_s (pc1 := 1623) (st1 := [.int a2, .int 7, .ref 0]) rfl rfl (fun _ => rfl) ?_
        refine pt_s (pc1 := 1624) (st1 := [.retAddr 0, .int a2, .int 7, .ref 0]) rfl rfl (fun _ => rfl) ?_
        refine pt_s (pc1 := 1626) (st1 := [.int 0, .retAddr 0, .int a2, .int 7, .ref 0]) rfl rfl (fun _ => rfl) ?_
        refine pt_s (pc1 := 1627) (st1 := [.int 3, .int 0, .retAddr 0, .int a2, .int 7, .ref 0]) rfl rfl (fun _ => rfl) ?_
        refine pt_s (pc1 := 1628) (st1 := [.int 3, .retAddr 0, .int a2, .int 7, .ref 0]) rfl rfl (fun _ => rfl) ?_
        refine pt_s (pc1 := 1629) (st1 := [.int a3, .int a2, .int 7, .ref 0]) rfl rfl (fun _ => rfl) ?_
        refine pt_s (pc1 := 1630) (st1 := [.retAddr 0, .int a3, .int a2, .int 7, .ref 0]) rfl rfl (fun _ => rfl) ?_
        refine pt_s (pc1 := 1632) (st1 := [.int 0, .retAddr 0, .int a3, .int a2, .int 7, .ref 0]) rfl rfl (fun _ => rfl) ?_
        refine pt_s (pc1 := 1633) (st1 := [.int 4, .int 0, .retAddr 0, .int a3, .int a2, .int 7, .ref 0]) rfl rfl (fun _ => rfl) ?_
        refine pt_s (pc1 := 1634) (st1 := [.int 4, .retAddr 0, .int a3, .int a2, .int 7, .ref 0]) rfl rfl (fun _ => rfl) ?_
        refine pt_s (pc1 := 1635) (st1 := [.int a4, .int a3, .int a2, .int 7, .ref 0]) rfl rfl (fun _ => rfl) ?_
        refine pt_callv (N := pm_X6_find) (as := [.ref 0, .int 7, .int a2, .int a3, .int a4]) (rest := []) (f := 2047) (l := 83976) (c1 := 0) (k1 := 0) (c2 := 599837) (k2 := 7274195) (v := some (.int (-1))) (h1 := px_hs) rfl rfl (fun ex => px_inv_hs ex rfl rfl rfl pg_0 rfl rfl rfl rfl) ?_ (Nat.le_of_ble_eq_true rfl) (Nat.le_of_ble_eq_true rfl) ?_
        · refine px_C_of rfl ?_
          refine pr_s (pc1 := 1) (st1 := [.ref 0]) rfl (fun _ => rfl) ?_
          refine pr_getf (pc1 := 4) (v := .ref 92) rfl rfl pg_0 rfl rfl ?_
          refine pr_getf (pc1 := 7) (v := .ref 93) rfl rfl pg_22 rfl rfl ?_
          refine pr_s (pc1 := 8) (st1 := [.ref 0, .ref 93]) rfl (fun _ => rfl) ?_
          refine pr_getf (pc1 := 11) (v := .ref 92) rfl rfl pg_0 rfl rfl ?_
          refine pr_getf (pc1 := 14) (v := .ref 93) rfl rfl pg_22 rfl rfl ?_
          refine pr_s (pc1 := 15) (st1 := [.int 7, .ref 93, .ref 93]) rfl (fun _ => rfl) ?_
          refine pr_s (pc1 := 16) (st1 := [.int a2, .int 7, .ref 93, .ref 93]) rfl (fun _ => rfl) ?_
          refine pr_s (pc1 := 17) (st1 := [.int a3, .int a2, .int 7, .ref 93, .ref 93]) rfl (fun _ => rfl) ?_
          refine pr_s (pc1 := 19) (st1 := [.int a4, .int a3, .int a2, .int 7, .ref 93, .ref 93]) rfl (fun _ => rfl) ?_
          refine pr_callv (N := pm_X2_placeLike) (as := [.ref 93, .int 7, .int a2, .int a3, .int a4]) (rest := [.ref 93]) (f := 2046) (l := 83950) (c1 := 0) (k1 := 0) (c2 := 0) (k2 := 0) (v := some (.int (-1))) (h1 := px_hs) rfl (fun ex => px_inv_hs ex rfl rfl rfl pg_23 rfl rfl rfl rfl) ?_ (Nat.le_of_ble_eq_true rfl) (Nat.le_of_ble_eq_true rfl) ?_
          · exact pq_86 a2 a3 a4
          show px_R _ _ _ _ (22, [(0, .ref 0), (1, .int 7), (2, .int a2), (3, .int a3), (4, .int a4)], [.int (-1), .ref 93], _) _ _ _
          refine pr_callv (N := pm_X2_numberAt) (as := [.ref 93, .int (-1)]) (rest := []) (f := 2046) (l := 83955) (c1 := 0) (k1 := 0) (c2 := 0) (k2 := 0) (v := some (.int (-1))) (h1 := px_hs) rfl (fun ex => px_inv_hs ex rfl rfl rfl pg_23 rfl rfl rfl rfl) ?_ (Nat.le_of_ble_eq_true rfl) (Nat.le_of_ble_eq_true rfl) ?_
          · refine px_C_of rfl ?_
            refine pr_s (pc1 := 1) (st1 := [.int (-1)]) rfl (fun _ => rfl) ?_
            refine pr_bt (t := 19) (off := 18) (bb := decide (((-1) : Int32) < 0)) (st1 := []) rfl rfl rfl rfl (by decide) ?_
            refine pr_s (pc1 := 20) (st1 := [.int (-1)]) rfl (fun _ => rfl) ?_
            exact pr_e rfl (fun _ => rfl) ⟨rfl, rfl⟩
          show px_R _ _ _ _ (25, [(0, .ref 0), (1, .int 7), (2, .int a2), (3, .int a3), (4, .int a4)], [.int (-1)], _) _ _ _
          exact pr_e rfl (fun _ => rfl) ⟨rfl, rfl⟩
        show px_T _ _ _ _ (1638, [(4, .int 0), (3, .ref 164), (2, .ref 136), (1, .ref 0), (0, .retAddr 0)], [.int (-1)], _) _ _ _
        refine pt_s (pc1 := 1639) (st1 := [.ref 136, .int (-1)]) rfl rfl (fun _ => rfl) ?_
        refine pt_s (pc1 := 1640) (st1 := [.retAddr 0, .ref 136, .int (-1)]) rfl rfl (fun _ => rfl) ?_
        refine pt_s (pc1 := 1642) (st1 := [.int 0, .retAddr 0, .ref 136, .int (-1)]) rfl rfl (fun _ => rfl) ?_
        refine pt_s (pc1 := 1643) (st1 := [.int 1, .int 0, .retAddr 0, .ref 136, .int (-1)]) rfl rfl (fun _ => rfl) ?_
        refine pt_s (pc1 := 1644) (st1 := [.int 1, .retAddr 0, .ref 136, .int (-1)]) rfl rfl (fun _ => rfl) ?_
        refine pt_s (pc1 := 1645) (st1 := [.int 7, .ref 136, .int (-1)]) rfl rfl (fun _ => rfl) ?_
        refine pt_s (pc1 := 1646) (st1 := [.retAddr 0, .int 7, .ref 136, .int (-1)]) rfl rfl (fun _ => rfl) ?_
        refine pt_s (pc1 := 1648) (st1 := [.int 0, .retAddr 0, .int 7, .ref 136, .int (-1)]) rfl rfl (fun _ => rfl) ?_
        refine pt_s (pc1 := 1649) (st1 := [.int 2, .int 0, .retAddr 0, .int 7, .ref 136, .int (-1)]) rfl rfl (fun _ => rfl) ?_
        refine pt_s (pc1 := 1650) (st1 := [.int 2, .retAddr 0, .int 7, .ref 136, .int (-1)]) rfl rfl (fun _ => rfl) ?_
        refine pt_s (pc1 := 1651) (st1 := [.int a2, .int 7, .ref 136, .int (-1)]) rfl rfl (fun _ => rfl) ?_
        refine pt_s (pc1 := 1652) (st1 := [.retAddr 0, .int a2, .int 7, .ref 136, .int (-1)]) rfl rfl (fun _ => rfl) ?_
        refine pt_s (pc1 := 1654) (st1 := [.int 0, .retAddr 0, .int a2, .int 7, .ref 136, .int (-1)]) rfl rfl (fun _ => rfl) ?_
        refine pt_s (pc1 := 1655) (st1 := [.int 3, .int 0, .retAddr 0, .int a2, .int 7, .ref 136, .int (-1)]) rfl rfl (fun _ => rfl) ?_
        refine pt_s (pc1 := 1656) (st1 := [.int 3, .retAddr 0, .int a2, .int 7, .ref 136, .int (-1)]) rfl rfl (fun _ => rfl) ?_
        refine pt_s (pc1 := 1657) (st1 := [.int a3, .int a2, .int 7, .ref 136, .int (-1)]) rfl rfl (fun _ => rfl) ?_
        refine pt_s (pc1 := 1658) (st1 := [.retAddr 0, .int a3, .int a2, .int 7, .ref 136, .int (-1)]) rfl rfl (fun _ => rfl) ?_
        refine pt_s (pc1 := 1660) (st1 := [.int 0, .retAddr 0, .int a3, .int a2, .int 7, .ref 136, .int (-1)]) rfl rfl (fun _ => rfl) ?_
        refine pt_s (pc1 := 1661) (st1 := [.int 4, .int 0, .retAddr 0, .int a3, .int a2, .int 7, .ref 136, .int (-1)]) rfl rfl (fun _ => rfl) ?_
        refine pt_s (pc1 := 1662) (st1 := [.int 4, .retAddr 0, .int a3, .int a2, .int 7, .ref 136, .int (-1)]) rfl rfl (fun _ => rfl) ?_
        refine pt_s (pc1 := 1663) (st1 := [.int a4, .int a3, .int a2, .int 7, .ref 136, .int (-1)]) rfl rfl (fun _ => rfl) ?_
        refine pt_callv (N := pm_X10_find) (as := [.ref 136, .int 7, .int a2, .int a3, .int a4]) (rest := [.int (-1)]) (f := 2047) (l := 83975) (c1 := 0) (k1 := 0) (c2 := 599837) (k2 := 7274195) (v := some (.int (-1))) (h1 := px_hs) rfl rfl (fun ex => px_inv_hs ex rfl rfl rfl pg_1 rfl rfl rfl rfl) ?_ (Nat.le_of_ble_eq_true rfl) (Nat.le_of_ble_eq_true rfl) ?_
        · refine px_C_of rfl ?_
          refine pr_s (pc1 := 1) (st1 := [.ref 136]) rfl (fun _ => rfl) ?_
          refine pr_s (pc1 := 2) (st1 := [.int 0, .ref 136]) rfl (fun _ => rfl) ?_
          refine pr_putf (pc1 := 5) (h1 := px_hs) rfl rfl pg_1 rfl rfl rfl rfl rfl (px_set_same pg_1 rfl) rfl ?_
          refine pr_s (pc1 := 6) (st1 := [.ref 136]) rfl (fun _ => rfl) ?_
          refine pr_getf (pc1 := 9) (v := .ref 138) rfl rfl pg_1 rfl rfl ?_
          refine pr_s (pc1 := 10) (st1 := [.int 7, .ref 138]) rfl (fun _ => rfl) ?_
          refine pr_s (pc1 := 11) (st1 := [.int a2, .int 7, .ref 138]) rfl (fun _ => rfl) ?_
          refine pr_s (pc1 := 12) (st1 := [.int a3, .int a2, .int 7, .ref 138]) rfl (fun _ => rfl) ?_
          refine pr_s (pc1 := 14) (st1 := [.int a4, .int a3, .int a2, .int 7, .ref 138]) rfl (fun _ => rfl) ?_
          refine pr_callv (N := pm_X9_find) (as := [.ref 138, .int 7, .int a2, .int a3, .int a4]) (rest := []) (f := 2046) (l := 83950) (c1 := 0) (k1 := 0) (c2 := 0) (k2 := 0) (v := some (.int (-1))) (h1 := px_hs) rfl (fun ex => px_inv_hs ex rfl rfl rfl pg_66 rfl rfl rfl rfl) ?_ (Nat.le_of_ble_eq_true rfl) (Nat.le_of_ble_eq_true rfl) ?_
          · refine px_C_of rfl ?_
            refine pr_s (pc1 := 1) (st1 := [.ref 138]) rfl (fun _ => rfl) ?_
            refine pr_getf (pc1 := 4) (v := .ref 141) rfl rfl pg_66 rfl rfl ?_
            refine pr_getf (pc1 := 7) (v := .int 0) rfl rfl pg_68 rfl rfl ?_
            refine pr_s (pc1 := 8) (st1 := [.int 1, .int 0]) rfl (fun _ => rfl) ?_
            refine pr_s (pc1 := 9) (st1 := [.int (-1)]) rfl (fun _ => rfl) ?_
            refine pr_s (pc1 := 11) (lv1 := [(5, .int (-1)), (0, .ref 138), (1, .int 7), (2, .int a2), (3, .int a3), (4, .int a4)]) (st1 := []) rfl (fun _ => rfl) ?_
            refine pr_s (pc1 := 13) (st1 := [.int (-1)]) rfl (fun _ => rfl) ?_
            refine pr_bt (t := 79) (off := 66) (bb := decide (((-1) : Int32) < 0)) (st1 := []) rfl rfl rfl rfl (by decide) ?_
            refine pr_s (pc1 := 81) (st1 := [.int (-1)]) rfl (fun _ => rfl) ?_
            exact pr_e rfl (fun _ => rfl) ⟨rfl, rfl⟩
          show px_R _ _ _ _ (17, [(0, .ref 136), (1, .int 7), (2, .int a2), (3, .int a3), (4, .int a4)], [.int (-1)], _) _ _ _
          refine pr_s (pc1 := 19) (lv1 := [(5, .int (-1)), (0, .ref 136), (1, .int 7), (2, .int a2), (3, .int a3), (4, .int a4)]) (st1 := []) rfl (fun _ => rfl) ?_
          refine pr_s (pc1 := 21) (st1 := [.int (-1)]) rfl (fun _ => rfl) ?_
          refine pr_s (pc1 := 22) (st1 := [.int (-1), .int (-1)]) rfl (fun _ => rfl) ?_
          refine pr_bf (t := 29) (off := 7) (bb := !decide (((-1) : Int32) = (-1))) (st1 := []) rfl rfl rfl rfl (px_not_f (by decide)) ?_
          refine pr_s (pc1 := 26) (st1 := [.int (-1)]) rfl (fun _ => rfl) ?_
          refine pr_s (pc1 := 42) (st1 := [.int (-1)]) rfl (fun _ => rfl) ?_
          exact pr_e rfl (fun _ => rfl) ⟨rfl, rfl⟩
        show px_T _ _ _ _ (1666, [(4, .int 0), (3, .ref 164), (2, .ref 136), (1, .ref 0), (0, .retAddr 0)], [.int (-1), .int (-1)], _) _ _ _
        refine pt_bt (t := 2771) (off := 1105) (bb := decide (((-1) : Int32) = (-1))) (st1 := []) rfl rfl rfl rfl rfl (by decide) ?_
        refine pt_s (pc1 := 2774) (lv1 := [(4, .int 6), (3, .ref 164), (2, .ref 136), (1, .ref 0), (0, .retAddr 0)]) (st1 := []) rfl rfl (fun _ => rfl) ?_
        refine pt_s (pc1 := 23) (st1 := []) rfl rfl (fun _ => rfl) ?_
        refine pt_s (pc1 := 25) (st1 := [.int 6]) rfl rfl (fun _ => rfl) ?_
        refine pt_s (pc1 := 26) (st1 := [.retAddr 0, .int 6]) rfl rfl (fun _ => rfl) ?_
        refine pt_s (pc1 := 27) (st1 := [.int 6, .int 6]) rfl rfl (fun _ => rfl) ?_
        refine pt_s (pc1 := 29) (st1 := [.int 6, .int 6, .int 6]) rfl rfl (fun _ => rfl) ?_
        refine pt_s (pc1 := 30) (st1 := [.int 0, .int 6]) rfl rfl (fun _ => rfl) ?_
        refine pt_bt (t := 2777) (off := 2747) (bb := decide ((0 : Int32) < (6 : Int32))) (st1 := []) rfl rfl rfl rfl rfl (by decide) ?_
        refine pt_s (pc1 := 2778) (st1 := [.int 1]) rfl rfl (fun _ => rfl) ?_
        exact pt_e rfl ⟨rfl, (rfl : px_ins pm_law 2778 = some (.ireturn, 1))⟩
    · have ha1 : 8 ≤ a1.toInt ∧ a1.toInt ≤ 2147483647 := ⟨by omega, ha1.2⟩
      refine pt_s (pc1 := 1610) (st1 := []) rfl rfl (fun _ => rfl) ?_
      refine pt_s (pc1 := 1611) (st1 := [.ref 0]) rfl rfl (fun _ => rfl) ?_
      refine pt_s (pc1 := 1612) (st1 := [.retAddr 0, .ref 0]) rfl rfl (fun _ => rfl) ?_
      refine pt_s (pc1 := 1614) (st1 := [.int 0, .retAddr 0, .ref 0]) rfl rfl (fun _ => rfl) ?_
      refine pt_s (pc1 := 1615) (st1 := [.int 1, .int 0, .retAddr 0, .ref 0]) rfl rfl (fun _ => rfl) ?_
      refine pt_s (pc1 := 1616) (st1 := [.int 1, .retAddr 0, .ref 0]) rfl rfl (fun _ => rfl) ?_
      refine pt_s (pc1 := 1617) (st1 := [.int a1, .ref 0]) rfl rfl (fun _ => rfl) ?_
      refine pt_s (pc1 := 1618) (st1 := [.retAddr 0, .int a1, .ref 0]) rfl rfl (fun _ => rfl) ?_
      refine pt_s (pc1 := 1620) (st1 := [.int 0, .retAddr 0, .int a1, .ref 0]) rfl rfl (fun _ => rfl) ?_
      refine pt_s (pc1 := 1621) (st1 := [.int 2, .int 0, .retAddr 0, .int a1, .ref 0]) rfl rfl (fun _ => rfl) ?_
      refine pt_s (pc1 := 1622) (st1 := [.int 2, .retAddr 0, .int a1, .ref 0]) rfl rfl (fun _ => rfl) ?_
      refine pt_s (pc1 := 1623) (st1 := [.int a2, .int a1, .ref 0]) rfl rfl (fun _ => rfl) ?_
      refine pt_s (pc1 := 1624) (st1 := [.retAddr 0, .int a2, .int a1, .ref 0]) rfl rfl (fun _ => rfl) ?_
      refine pt_s (pc1 := 1626) (st1 := [.int 0, .retAddr 0, .int a2, .int a1, .ref 0]) rfl rfl (fun _ => rfl) ?_
      refine pt_s (pc1 := 1627) (st1 := [.int 3, .int 0, .retAddr 0, .int a2, .int a1, .ref 0]) rfl rfl (fun _ => rfl) ?_
      refine pt_s (pc1 := 1628) (st1 := [.int 3, .retAddr 0, .int a2, .int a1, .ref 0]) rfl rfl (fun _ => rfl) ?_
      refine pt_s (pc1 := 1629) (st1 := [.int a3, .int a2, .int a1, .ref 0]) rfl rfl (fun _ => rfl) ?_
      refine pt_s (pc1 := 1630) (st1 := [.retAddr 0, .int a3, .int a2, .int a1, .ref 0]) rfl rfl (fun _ => rfl) ?_
      refine pt_s (pc1 := 1632) (st1 := [.int 0, .retAddr 0, .int a3, .int a2, .int a1, .ref 0]) rfl rfl (fun _ => rfl) ?_
      refine pt_s (pc1 := 1633) (st1 := [.int 4, .int 0, .retAddr 0, .int a3, .int a2, .int a1, .ref 0]) rfl rfl (fun _ => rfl) ?_
      refine pt_s (pc1 := 1634) (st1 := [.int 4, .retAddr 0, .int a3, .int a2, .int a1, .ref 0]) rfl rfl (fun _ => rfl) ?_
      refine pt_s (pc1 := 1635) (st1 := [.int a4, .int a3, .int a2, .int a1, .ref 0]) rfl rfl (fun _ => rfl) ?_
      refine pt_callv (N := pm_X6_find) (as := [.ref 0, .int a1, .int a2, .int a3, .int a4]) (rest := []) (f := 2047) (l := 83976) (c1 := 0) (k1 := 0) (c2 := 599837) (k2 := 7274195) (v := some (.int (-1))) (h1 := px_hs) rfl rfl (fun ex => px_inv_hs ex rfl rfl rfl pg_0 rfl rfl rfl rfl) ?_ (Nat.le_of_ble_eq_true rfl) (Nat.le_of_ble_eq_true rfl) ?_
      · refine px_C_of rfl ?_
        refine pr_s (pc1 := 1) (st1 := [.ref 0]) rfl (fun _ => rfl) ?_
        refine pr_getf (pc1 := 4) (v := .ref 92) rfl rfl pg_0 rfl rfl ?_
        refine pr_getf (pc1 := 7) (v := .ref 93) rfl rfl pg_22 rfl rfl ?_
        refine pr_s (pc1 := 8) (st1 := [.ref 0, .ref 93]) rfl (fun _ => rfl) ?_
        refine pr_getf (pc1 := 11) (v := .ref 92) rfl rfl pg_0 rfl rfl ?_
        refine pr_getf (pc1 := 14) (v := .ref 93) rfl rfl pg_22 rfl rfl ?_
        refine pr_s (pc1 := 15) (st1 := [.int a1, .ref 93, .ref 93]) rfl (fun _ => rfl) ?_
        refine pr_s (pc1 := 16) (st1 := [.int a2, .int a1, .ref 93, .ref 93]) rfl (fun _ => rfl) ?_
        refine pr_s (pc1 := 17) (st1 := [.int a3, .int a2, .int a1, .ref 93, .ref 93]) rfl (fun _ => rfl) ?_
        refine pr_s (pc1 := 19) (st1 := [.int a4, .int a3, .int a2, .int a1, .ref 93, .ref 93]) rfl (fun _ => rfl) ?_
        refine pr_callv (N := pm_X2_placeLike) (as := [.ref 93, .int a1, .int a2, .int a3, .int a4]) (rest := [.ref 93]) (f := 2046) (l := 83950) (c1 := 0) (k1 := 0) (c2 := 0) (k2 := 0) (v := some (.int (-1))) (h1 := px_hs) rfl (fun ex => px_inv_hs ex rfl rfl rfl pg_23 rfl rfl rfl rfl) ?_ (Nat.le_of_ble_eq_true rfl) (Nat.le_of_ble_eq_true rfl) ?_
        · refine px_C_of rfl ?_
          refine pr_s (pc1 := 1) (st1 := [.int a1]) rfl (fun _ => rfl) ?_
          refine pr_bf (t := 10) (off := 9) (bb := decide (a1 < 0)) (st1 := []) rfl rfl rfl rfl (pb_ltF ha1.1 (show (0 : Int32).toInt ≤ 0 by decide) (by decide)) ?_
          refine pr_s (pc1 := 5) (st1 := [.int a1]) rfl (fun _ => rfl) ?_
          refine pr_s (pc1 := 7) (st1 := [.int 8, .int a1]) rfl (fun _ => rfl) ?_
          refine pr_bf (t := 12) (off := 5) (bb := decide (a1 < 8)) (st1 := []) rfl rfl rfl rfl (pb_ltF ha1.1 (show (8 : Int32).toInt ≤ 8 by decide) (by decide)) ?_
          refine pr_s (pc1 := 11) (st1 := [.int (-1)]) rfl (fun _ => rfl) ?_
          exact pr_e rfl (fun _ => rfl) ⟨rfl, rfl⟩
        show px_R _ _ _ _ (22, [(0, .ref 0), (1, .int a1), (2, .int a2), (3, .int a3), (4, .int a4)], [.int (-1), .ref 93], _) _ _ _
        refine pr_callv (N := pm_X2_numberAt) (as := [.ref 93, .int (-1)]) (rest := []) (f := 2046) (l := 83955) (c1 := 0) (k1 := 0) (c2 := 0) (k2 := 0) (v := some (.int (-1))) (h1 := px_hs) rfl (fun ex => px_inv_hs ex rfl rfl rfl pg_23 rfl rfl rfl rfl) ?_ (Nat.le_of_ble_eq_true rfl) (Nat.le_of_ble_eq_true rfl) ?_
        · refine px_C_of rfl ?_
          refine pr_s (pc1 := 1) (st1 := [.int (-1)]) rfl (fun _ => rfl) ?_
          refine pr_bt (t := 19) (off := 18) (bb := decide (((-1) : Int32) < 0)) (st1 := []) rfl rfl rfl rfl (by decide) ?_
          refine pr_s (pc1 := 20) (st1 := [.int (-1)]) rfl (fun _ => rfl) ?_
          exact pr_e rfl (fun _ => rfl) ⟨rfl, rfl⟩
        show px_R _ _ _ _ (25, [(0, .ref 0), (1, .int a1), (2, .int a2), (3, .int a3), (4, .int a4)], [.int (-1)], _) _ _ _
        exact pr_e rfl (fun _ => rfl) ⟨rfl, rfl⟩
      show px_T _ _ _ _ (1638, [(4, .int 0), (3, .ref 164), (2, .ref 136), (1, .ref 0), (0, .retAddr 0)], [.int (-1)], _) _ _ _
      refine pt_s (pc1 := 1639) (st1 := [.ref 136, .int (-1)]) rfl rfl (fun _ => rfl) ?_
      refine pt_s (pc1 := 1640) (st1 := [.retAddr 0, .ref 136, .int (-1)]) rfl rfl (fun _ => rfl) ?_
      refine pt_s (pc1 := 1642) (st1 := [.int 0, .retAddr 0, .ref 136, .int (-1)]) rfl rfl (fun _ => rfl) ?_
      refine pt_s (pc1 := 1643) (st1 := [.int 1, .int 0, .retAddr 0, .ref 136, .int (-1)]) rfl rfl (fun _ => rfl) ?_
      refine pt_s (pc1 := 1644) (st1 := [.int 1, .retAddr 0, .ref 136, .int (-1)]) rfl rfl (fun _ => rfl) ?_
      refine pt_s (pc1 := 1645) (st1 := [.int a1, .ref 136, .int (-1)]) rfl rfl (fun _ => rfl) ?_
      refine pt_s (pc1 := 1646) (st1 := [.retAddr 0, .int a1, .ref 136, .int (-1)]) rfl rfl (fun _ => rfl) ?_
      refine pt_s (pc1 := 1648) (st1 := [.int 0, .retAddr 0, .int a1, .ref 136, .int (-1)]) rfl rfl (fun _ => rfl) ?_
      refine pt_s (pc1 := 1649) (st1 := [.int 2, .int 0, .retAddr 0, .int a1, .ref 136, .int (-1)]) rfl rfl (fun _ => rfl) ?_
      refine pt_s (pc1 := 1650) (st1 := [.int 2, .retAddr 0, .int a1, .ref 136, .int (-1)]) rfl rfl (fun _ => rfl) ?_
      refine pt_s (pc1 := 1651) (st1 := [.int a2, .int a1, .ref 136, .int (-1)]) rfl rfl (fun _ => rfl) ?_
      refine pt_s (pc1 := 1652) (st1 := [.retAddr 0, .int a2, .int a1, .ref 136, .int (-1)]) rfl rfl (fun _ => rfl) ?_
      refine pt_s (pc1 := 1654) (st1 := [.int 0, .retAddr 0, .int a2, .int a1, .ref 136, .int (-1)]) rfl rfl (fun _ => rfl) ?_
      refine pt_s (pc1 := 1655) (st1 := [.int 3, .int 0, .retAddr 0, .int a2, .int a1, .ref 136, .int (-1)]) rfl rfl (fun _ => rfl) ?_
      refine pt_s (pc1 := 1656) (st1 := [.int 3, .retAddr 0, .int a2, .int a1, .ref 136, .int (-1)]) rfl rfl (fun _ => rfl) ?_
      refine pt_s (pc1 := 1657) (st1 := [.int a3, .int a2, .int a1, .ref 136, .int (-1)]) rfl rfl (fun _ => rfl) ?_
      refine pt_s (pc1 := 1658) (st1 := [.retAddr 0, .int a3, .int a2, .int a1, .ref 136, .int (-1)]) rfl rfl (fun _ => rfl) ?_
      refine pt_s (pc1 := 1660) (st1 := [.int 0, .retAddr 0, .int a3, .int a2, .int a1, .ref 136, .int (-1)]) rfl rfl (fun _ => rfl) ?_
      refine pt_s (pc1 := 1661) (st1 := [.int 4, .int 0, .retAddr 0, .int a3, .int a2, .int a1, .ref 136, .int (-1)]) rfl rfl (fun _ => rfl) ?_
      refine pt_s (pc1 := 1662) (st1 := [.int 4, .retAddr 0, .int a3, .int a2, .int a1, .ref 136, .int (-1)]) rfl rfl (fun _ => rfl) ?_
      refine pt_s (pc1 := 1663) (st1 := [.int a4, .int a3, .int a2, .int a1, .ref 136, .int (-1)]) rfl rfl (fun _ => rfl) ?_
      refine pt_callv (N := pm_X10_find) (as := [.ref 136, .int a1, .int a2, .int a3, .int a4]) (rest := [.int (-1)]) (f := 2047) (l := 83975) (c1 := 0) (k1 := 0) (c2 := 599837) (k2 := 7274195) (v := some (.int (-1))) (h1 := px_hs) rfl rfl (fun ex => px_inv_hs ex rfl rfl rfl pg_1 rfl rfl rfl rfl) ?_ (Nat.le_of_ble_eq_true rfl) (Nat.le_of_ble_eq_true rfl) ?_
      · refine px_C_of rfl ?_
        refine pr_s (pc1 := 1) (st1 := [.ref 136]) rfl (fun _ => rfl) ?_
        refine pr_s (pc1 := 2) (st1 := [.int 0, .ref 136]) rfl (fun _ => rfl) ?_
        refine pr_putf (pc1 := 5) (h1 := px_hs) rfl rfl pg_1 rfl rfl rfl rfl rfl (px_set_same pg_1 rfl) rfl ?_
        refine pr_s (pc1 := 6) (st1 := [.ref 136]) rfl (fun _ => rfl) ?_
        refine pr_getf (pc1 := 9) (v := .ref 138) rfl rfl pg_1 rfl rfl ?_
        refine pr_s (pc1 := 10) (st1 := [.int a1, .ref 138]) rfl (fun _ => rfl) ?_
        refine pr_s (pc1 := 11) (st1 := [.int a2, .int a1, .ref 138]) rfl (fun _ => rfl) ?_
        refine pr_s (pc1 := 12) (st1 := [.int a3, .int a2, .int a1, .ref 138]) rfl (fun _ => rfl) ?_
        refine pr_s (pc1 := 14) (st1 := [.int a4, .int a3, .int a2, .int a1, .ref 138]) rfl (fun _ => rfl) ?_
        refine pr_callv (N := pm_X9_find) (as := [.ref 138, .int a1, .int a2, .int a3, .int a4]) (rest := []) (f := 2046) (l := 83950) (c1 := 0) (k1 := 0) (c2 := 0) (k2 := 0) (v := some (.int (-1))) (h1 := px_hs) rfl (fun ex => px_inv_hs ex rfl rfl rfl pg_66 rfl rfl rfl rfl) ?_ (Nat.le_of_ble_eq_true rfl) (Nat.le_of_ble_eq_true rfl) ?_
        · refine px_C_of rfl ?_
          refine pr_s (pc1 := 1) (st1 := [.ref 138]) rfl (fun _ => rfl) ?_
          refine pr_getf (pc1 := 4) (v := .ref 141) rfl rfl pg_66 rfl rfl ?_
          refine pr_getf (pc1 := 7) (v := .int 0) rfl rfl pg_68 rfl rfl ?_
          refine pr_s (pc1 := 8) (st1 := [.int 1, .int 0]) rfl (fun _ => rfl) ?_
          refine pr_s (pc1 := 9) (st1 := [.int (-1)]) rfl (fun _ => rfl) ?_
          refine pr_s (pc1 := 11) (lv1 := [(5, .int (-1)), (0, .ref 138), (1, .int a1), (2, .int a2), (3, .int a3), (4, .int a4)]) (st1 := []) rfl (fun _ => rfl) ?_
          refine pr_s (pc1 := 13) (st1 := [.int (-1)]) rfl (fun _ => rfl) ?_
          refine pr_bt (t := 79) (off := 66) (bb := decide (((-1) : Int32) < 0)) (st1 := []) rfl rfl rfl rfl (by decide) ?_
          refine pr_s (pc1 := 81) (st1 := [.int (-1)]) rfl (fun _ => rfl) ?_
          exact pr_e rfl (fun _ => rfl) ⟨rfl, rfl⟩
        show px_R _ _ _ _ (17, [(0, .ref 136), (1, .int a1), (2, .int a2), (3, .int a3), (4, .int a4)], [.int (-1)], _) _ _ _
        refine pr_s (pc1 := 19) (lv1 := [(5, .int (-1)), (0, .ref 136), (1, .int a1), (2, .int a2), (3, .int a3), (4, .int a4)]) (st1 := []) rfl (fun _ => rfl) ?_
        refine pr_s (pc1 := 21) (st1 := [.int (-1)]) rfl (fun _ => rfl) ?_
        refine pr_s (pc1 := 22) (st1 := [.int (-1), .int (-1)]) rfl (fun _ => rfl) ?_
        refine pr_bf (t := 29) (off := 7) (bb := !decide (((-1) : Int32) = (-1))) (st1 := []) rfl rfl rfl rfl (px_not_f (by decide)) ?_
        refine pr_s (pc1 := 26) (st1 := [.int (-1)]) rfl (fun _ => rfl) ?_
        refine pr_s (pc1 := 42) (st1 := [.int (-1)]) rfl (fun _ => rfl) ?_
        exact pr_e rfl (fun _ => rfl) ⟨rfl, rfl⟩
      show px_T _ _ _ _ (1666, [(4, .int 0), (3, .ref 164), (2, .ref 136), (1, .ref 0), (0, .retAddr 0)], [.int (-1), .int (-1)], _) _ _ _
      refine pt_bt (t := 2771) (off := 1105) (bb := decide (((-1) : Int32) = (-1))) (st1 := []) rfl rfl rfl rfl rfl (by decide) ?_
      refine pt_s (pc1 := 2774) (lv1 := [(4, .int 6), (3, .ref 164), (2, .ref 136), (1, .ref 0), (0, .retAddr 0)]) (st1 := []) rfl rfl (fun _ => rfl) ?_
      refine pt_s (pc1 := 23) (st1 := []) rfl rfl (fun _ => rfl) ?_
      refine pt_s (pc1 := 25) (st1 := [.int 6]) rfl rfl (fun _ => rfl) ?_
      refine pt_s (pc1 := 26) (st1 := [.retAddr 0, .int 6]) rfl rfl (fun _ => rfl) ?_
      refine pt_s (pc1 := 27) (st1 := [.int 6, .int 6]) rfl rfl (fun _ => rfl) ?_
      refine pt_s (pc1 := 29) (st1 := [.int 6, .int 6, .int 6]) rfl rfl (fun _ => rfl) ?_
      refine pt_s (pc1 := 30) (st1 := [.int 0, .int 6]) rfl rfl (fun _ => rfl) ?_
      refine pt_bt (t := 2777) (off := 2747) (bb := decide ((0 : Int32) < (6 : Int32))) (st1 := []) rfl rfl rfl rfl rfl (by decide) ?_
      refine pt_s (pc1 := 2778) (st1 := [.int 1]) rfl rfl (fun _ => rfl) ?_
      exact pt_e rfl ⟨rfl, (rfl : px_ins pm_law 2778 = some (.ireturn, 1))⟩
set_option maxRecDepth 100000 in
set_option maxHeartbeats 40000000 in
theorem px_op_24 (a0 a1 a2 a3 a4 a5 : Int32) : px_T (some [a0, a1, a2, a3, a4, a5]) pm_law 2048 84000 (40, [(4, .int 0), (3, .ref 164), (2, .ref 136), (1, .ref 0), (0, .retAddr 0)], [.int 24], px_hs) 599837 7274195 (fun s1 => s1.2.2.1 = [.int 1] ∧ px_ins pm_law s1.1 = some (.ireturn, 1)) := by
  have ha1 : (-2147483648) ≤ a1.toInt ∧ a1.toInt ≤ 2147483647 := ⟨Int32.le_toInt a1, Int32.toInt_le a1⟩
  by_cases hs : a1.toInt < 0
  · have ha1 : (-2147483648) ≤ a1.toInt ∧ a1.toInt ≤ (-1) := ⟨ha1.1, by omega⟩
    refine pt_s (pc1 := 1671) (st1 := []) rfl rfl (fun _ => rfl) ?_
    refine pt_s (pc1 := 1672) (st1 := [.ref 0]) rfl rfl (fun _ => rfl) ?_
    refine pt_s (pc1 := 1673) (st1 := [.retAddr 0, .ref 0]) rfl rfl (fun _ => rfl) ?_
    refine pt_s (pc1 := 1675) (st1 := [.int 0, .retAddr 0, .ref 0]) rfl rfl (fun _ => rfl) ?_
    refine pt_s (pc1 := 1676) (st1 := [.int 1, .int 0, .retAddr 0, .ref 0]) rfl rfl (fun _ => rfl) ?_
    refine pt_s (pc1 := 1677) (st1 := [.int 1, .retAddr 0, .ref 0]) rfl rfl (fun _ => rfl) ?_
    refine pt_s (pc1 := 1678) (st1 := [.int a1, .ref 0]) rfl rfl (fun _ => rfl) ?_
    refine pt_s (pc1 := 1679) (st1 := [.ref 164, .int a1, .ref 0]) rfl rfl (fun _ => rfl) ?_
    refine pt_callv (N := pm_L_kindOf) (as := [.ref 0, .int a1, .ref 164]) (rest := []) (f := 2047) (l := 83977) (c1 := 1) (k1 := 6) (c2 := 599836) (k2 := 7274189) (v := some (.int 1)) (h1 := ph_14) rfl rfl (fun _ => rfl) ?_ (Nat.le_of_ble_eq_true rfl) (Nat.le_of_ble_eq_true rfl) ?_
    · refine px_C_of rfl ?_
      refine pr_s (pc1 := 1) (st1 := [.ref 164]) rfl (fun _ => rfl) ?_
      refine pr_s (pc1 := 2) (st1 := [.int 0, .ref 164]) rfl (fun _ => rfl) ?_
      refine pr_s (pc1 := 3) (st1 := [.ref 0, .int 0, .ref 164]) rfl (fun _ => rfl) ?_
      refine pr_s (pc1 := 4) (st1 := [.int a1, .ref 0, .int 0, .ref 164]) rfl (fun _ => rfl) ?_
      refine pr_callx (N := pm_X6_kindOf) (as := [.ref 0, .int a1]) (rest := [.int 0, .ref 164]) (f := 2046) (l := 83956) (c1 := 1) (k1 := 6) (c2 := 0) (k2 := 0) (E := 11) (h1 := ph_14) (a := 12) (y1 := 3) (y2 := 1) rfl (fun ex => px_inv_hs ex rfl rfl rfl pg_0 rfl rfl rfl rfl) ?_ (Nat.le_of_ble_eq_true rfl) (Nat.le_of_ble_eq_true rfl) rfl rfl rfl rfl ?_
      · refine px_C_of rfl ?_
        refine pr_s (pc1 := 1) (st1 := [.ref 0]) rfl (fun _ => rfl) ?_
        refine pr_s (pc1 := 2) (st1 := [.int a1, .ref 0]) rfl (fun _ => rfl) ?_
        refine pr_callo (N := pm_X6_needFact) (as := [.ref 0, .int a1]) (rest := []) (f := 2045) (l := 83934) (E := 11) (h1 := ph_14) rfl (fun ex => px_inv_hs ex rfl rfl rfl pg_0 rfl rfl rfl rfl) ?_ rfl ⟨rfl, rfl⟩
        · refine px_C_of rfl ?_
          refine pr_s (pc1 := 1) (st1 := [.ref 0]) rfl (fun _ => rfl) ?_
          refine pr_getf (pc1 := 4) (v := .ref 92) rfl rfl pg_0 rfl rfl ?_
          refine pr_getf (pc1 := 7) (v := .ref 93) rfl rfl pg_22 rfl rfl ?_
          refine pr_s (pc1 := 8) (st1 := [.int a1, .ref 93]) rfl (fun _ => rfl) ?_
          refine pr_callv (N := pm_X2_placeOf) (as := [.ref 93, .int a1]) (rest := []) (f := 2044) (l := 83912) (c1 := 0) (k1 := 0) (c2 := 1) (k2 := 6) (v := some (.int (-1))) (h1 := px_hs) rfl (fun ex => px_inv_hs ex rfl rfl rfl pg_23 rfl rfl rfl rfl) ?_ (Nat.le_of_ble_eq_true rfl) (Nat.le_of_ble_eq_true rfl) ?_
          · refine px_C_of rfl ?_
            refine pr_s (pc1 := 1) (st1 := [.int a1]) rfl (fun _ => rfl) ?_
            refine pr_bt (t := 12) (off := 11) (bb := decide (a1 < 0)) (st1 := []) rfl rfl rfl rfl (pb_ltT ha1.2 (show 0 ≤ (0 : Int32).toInt by decide) (by decide)) ?_
            refine pr_s (pc1 := 13) (st1 := [.int (-1)]) rfl (fun _ => rfl) ?_
            exact pr_e rfl (fun _ => rfl) ⟨rfl, rfl⟩
          show px_R _ _ _ _ (11, [(0, .ref 0), (1, .int a1)], [.int (-1)], _) _ _ _
          refine pr_s (pc1 := 12) (lv1 := [(2, .int (-1)), (0, .ref 0), (1, .int a1)]) (st1 := []) rfl (fun _ => rfl) ?_
          refine pr_s (pc1 := 13) (st1 := [.int (-1)]) rfl (fun _ => rfl) ?_
          refine pr_bf (t := 27) (off := 14) (bb := decide ((0 : Int32) ≤ ((-1) : Int32))) (st1 := []) rfl rfl rfl rfl (by decide) ?_
          refine pr_mh (z1 := 1) (z2 := 6) (c1 := 0) (k1 := 0) (pc1 := 26) (n := 165) (r := []) (h1 := ph_14) (es := fun n => [.inr (11, [])]) rfl (fun _ => rfl) pl_0 rfl (Nat.le_of_ble_eq_true rfl) (Nat.le_of_ble_eq_true rfl) ?_
          exact pr_e rfl (fun _ => rfl) ⟨rfl, rfl⟩
      show px_R _ _ _ _ (13, [(0, .ref 0), (1, .int a1), (2, .ref 164)], [], _) _ _ _
      refine pr_s (pc1 := 14) (st1 := [.int 1]) rfl (fun _ => rfl) ?_
      exact pr_e rfl (fun _ => rfl) ⟨rfl, rfl⟩
    show px_T _ _ _ _ (1682, [(4, .int 0), (3, .ref 164), (2, .ref 136), (1, .ref 0), (0, .retAddr 0)], [.int 1], _) _ _ _
    refine pt_s (pc1 := 1684) (lv1 := [(5, .int 1), (4, .int 0), (3, .ref 164), (2, .ref 136), (1, .ref 0), (0, .retAddr 0)]) (st1 := []) rfl rfl (fun _ => rfl) ?_
    refine pt_s (pc1 := 1685) (st1 := [.ref 136]) rfl rfl (fun _ => rfl) ?_
    refine pt_s (pc1 := 1686) (st1 := [.retAddr 0, .ref 136]) rfl rfl (fun _ => rfl) ?_
    refine pt_s (pc1 := 1688) (st1 := [.int 0, .retAddr 0, .ref 136]) rfl rfl (fun _ => rfl) ?_
    refine pt_s (pc1 := 1689) (st1 := [.int 1, .int 0, .retAddr 0, .ref 136]) rfl rfl (fun _ => rfl) ?_
    refine pt_s (pc1 := 1690) (st1 := [.int 1, .retAddr 0, .ref 136]) rfl rfl (fun _ => rfl) ?_
    refine pt_s (pc1 := 1691) (st1 := [.int a1, .ref 136]) rfl rfl (fun _ => rfl) ?_
    refine pt_callv (N := pm_X10_kindOf) (as := [.ref 136, .int a1]) (rest := []) (f := 2047) (l := 83979) (c1 := 0) (k1 := 0) (c2 := 599836) (k2 := 7274189) (v := some (.int 0)) (h1 := ph_15) rfl rfl (fun ex => px_inv_hs ex rfl rfl rfl pg_20 rfl rfl rfl rfl) ?_ (Nat.le_of_ble_eq_true rfl) (Nat.le_of_ble_eq_true rfl) ?_
    · refine px_C_of rfl ?_
      refine pr_s (pc1 := 1) (st1 := [.ref 136]) rfl (fun _ => rfl) ?_
      refine pr_s (pc1 := 2) (st1 := [.int a1, .ref 136]) rfl (fun _ => rfl) ?_
      refine pr_callv (N := pm_X10_isFact) (as := [.ref 136, .int a1]) (rest := []) (f := 2046) (l := 83958) (c1 := 0) (k1 := 0) (c2 := 0) (k2 := 0) (v := some (.int 0)) (h1 := ph_15) rfl (fun ex => px_inv_hs ex rfl rfl rfl pg_20 rfl rfl rfl rfl) ?_ (Nat.le_of_ble_eq_true rfl) (Nat.le_of_ble_eq_true rfl) ?_
      · refine px_C_of rfl ?_
        refine pr_s (pc1 := 1) (st1 := [.ref 136]) rfl (fun _ => rfl) ?_
        refine pr_s (pc1 := 2) (st1 := [.ref 136, .ref 136]) rfl (fun _ => rfl) ?_
        refine pr_getf (pc1 := 5) (v := .ref 138) rfl rfl pg_20 rfl rfl ?_
        refine pr_s (pc1 := 6) (st1 := [.int a1, .ref 138, .ref 136]) rfl (fun _ => rfl) ?_
        refine pr_callv (N := pm_X9_place) (as := [.ref 138, .int a1]) (rest := [.ref 136]) (f := 2045) (l := 83936) (c1 := 0) (k1 := 0) (c2 := 0) (k2 := 0) (v := some (.int (-1))) (h1 := ph_14) rfl (fun ex => px_inv_hs ex rfl rfl rfl pg_506 rfl rfl rfl rfl) ?_ (Nat.le_of_ble_eq_true rfl) (Nat.le_of_ble_eq_true rfl) ?_
        · refine px_C_of rfl ?_
          refine pr_s (pc1 := 1) (st1 := [.ref 138]) rfl (fun _ => rfl) ?_
          refine pr_getf (pc1 := 4) (v := .ref 141) rfl rfl pg_506 rfl rfl ?_
          refine pr_getf (pc1 := 7) (v := .int 0) rfl rfl pg_507 rfl rfl ?_
          refine pr_s (pc1 := 8) (st1 := [.int 1, .int 0]) rfl (fun _ => rfl) ?_
          refine pr_s (pc1 := 9) (st1 := [.int (-1)]) rfl (fun _ => rfl) ?_
          refine pr_s (pc1 := 10) (lv1 := [(2, .int (-1)), (0, .ref 138), (1, .int a1)]) (st1 := []) rfl (fun _ => rfl) ?_
          refine pr_s (pc1 := 11) (st1 := [.int (-1)]) rfl (fun _ => rfl) ?_
          refine pr_bt (t := 33) (off := 22) (bb := decide (((-1) : Int32) < 0)) (st1 := []) rfl rfl rfl rfl (by decide) ?_
          refine pr_s (pc1 := 34) (st1 := [.int (-1)]) rfl (fun _ => rfl) ?_
          exact pr_e rfl (fun _ => rfl) ⟨rfl, rfl⟩
        show px_R _ _ _ _ (9, [(0, .ref 136), (1, .int a1)], [.int (-1), .ref 136], _) _ _ _
        refine pr_s (pc1 := 10) (st1 := [.int (-1), .int (-1), .ref 136]) rfl (fun _ => rfl) ?_
        refine pr_bt (t := 17) (off := 7) (bb := decide (((-1) : Int32) = (-1))) (st1 := [.ref 136]) rfl rfl rfl rfl (by decide) ?_
        refine pr_s (pc1 := 18) (st1 := [.int 1, .ref 136]) rfl (fun _ => rfl) ?_
        refine pr_putf (pc1 := 21) (h1 := ph_15) rfl rfl pg_20 rfl rfl rfl rfl rfl rfl rfl ?_
        refine pr_s (pc1 := 22) (st1 := [.ref 136]) rfl (fun _ => rfl) ?_
        refine pr_getf (pc1 := 25) (v := .int 1) rfl rfl pg_21 rfl rfl ?_
        refine pr_bt (t := 32) (off := 7) (bb := !decide ((1 : Int32) = 0)) (st1 := []) rfl rfl rfl rfl (px_not_t (by decide)) ?_
        refine pr_s (pc1 := 33) (st1 := [.int 0]) rfl (fun _ => rfl) ?_
        exact pr_e rfl (fun _ => rfl) ⟨rfl, rfl⟩
      show px_R _ _ _ _ (5, [(0, .ref 136), (1, .int a1)], [.int 0], _) _ _ _
      refine pr_bt (t := 30) (off := 25) (bb := decide ((0 : Int32) = 0)) (st1 := []) rfl rfl rfl rfl (by decide) ?_
      refine pr_s (pc1 := 31) (st1 := [.int 0]) rfl (fun _ => rfl) ?_
      exact pr_e rfl (fun _ => rfl) ⟨rfl, rfl⟩
    show px_T _ _ _ _ (1694, [(5, .int 1), (4, .int 0), (3, .ref 164), (2, .ref 136), (1, .ref 0), (0, .retAddr 0)], [.int 0], _) _ _ _
    refine pt_s (pc1 := 1696) (lv1 := [(6, .int 0), (5, .int 1), (4, .int 0), (3, .ref 164), (2, .ref 136), (1, .ref 0), (0, .retAddr 0)]) (st1 := []) rfl rfl (fun _ => rfl) ?_
    refine pt_s (pc1 := 1697) (st1 := [.ref 136]) rfl rfl (fun _ => rfl) ?_
    refine pt_callv (N := pm_X10_thrown) (as := [.ref 136]) (rest := []) (f := 2047) (l := 83980) (c1 := 0) (k1 := 0) (c2 := 599836) (k2 := 7274189) (v := some (.int 1)) (h1 := ph_15) rfl rfl (fun ex => px_inv_hs ex rfl rfl rfl pg_21 rfl rfl rfl rfl) ?_ (Nat.le_of_ble_eq_true rfl) (Nat.le_of_ble_eq_true rfl) ?_
    · refine px_C_of rfl ?_
      refine pr_s (pc1 := 1) (st1 := [.ref 136]) rfl (fun _ => rfl) ?_
      refine pr_getf (pc1 := 4) (v := .int 1) rfl rfl pg_21 rfl rfl ?_
      exact pr_e rfl (fun _ => rfl) ⟨rfl, rfl⟩
    show px_T _ _ _ _ (1700, [(6, .int 0), (5, .int 1), (4, .int 0), (3, .ref 164), (2, .ref 136), (1, .ref 0), (0, .retAddr 0)], [.int 1], _) _ _ _
    refine pt_s (pc1 := 1702) (st1 := [.int 1, .int 1]) rfl rfl (fun _ => rfl) ?_
    refine pt_bt (t := 1707) (off := 5) (bb := decide ((1 : Int32) = 1)) (st1 := []) rfl rfl rfl rfl rfl (by decide) ?_
    refine pt_s (pc1 := 1709) (st1 := [.int 1]) rfl rfl (fun _ => rfl) ?_
    refine pt_bt (t := 1724) (off := 15) (bb := !decide ((1 : Int32) = 0)) (st1 := []) rfl rfl rfl rfl rfl (px_not_t (by decide)) ?_
    refine pt_s (pc1 := 2771) (st1 := []) rfl rfl (fun _ => rfl) ?_
    refine pt_s (pc1 := 2774) (lv1 := [(4, .int 6), (6, .int 0), (5, .int 1), (3, .ref 164), (2, .ref 136), (1, .ref 0), (0, .retAddr 0)]) (st1 := []) rfl rfl (fun _ => rfl) ?_
    refine pt_s (pc1 := 23) (st1 := []) rfl rfl (fun _ => rfl) ?_
    refine pt_s (pc1 := 25) (st1 := [.int 6]) rfl rfl (fun _ => rfl) ?_
    refine pt_s (pc1 := 26) (st1 := [.retAddr 0, .int 6]) rfl rfl (fun _ => rfl) ?_
    refine pt_s (pc1 := 27) (st1 := [.int 6, .int 6]) rfl rfl (fun _ => rfl) ?_
    refine pt_s (pc1 := 29) (st1 := [.int 6, .int 6, .int 6]) rfl rfl (fun _ => rfl) ?_
    refine pt_s (pc1 := 30) (st1 := [.int 0, .int 6]) rfl rfl (fun _ => rfl) ?_
    refine pt_bt (t := 2777) (off := 2747) (bb := decide ((0 : Int32) < (6 : Int32))) (st1 := []) rfl rfl rfl rfl rfl (by decide) ?_
    refine pt_s (pc1 := 2778) (st1 := [.int 1]) rfl rfl (fun _ => rfl) ?_
    exact pt_e rfl ⟨rfl, (rfl : px_ins pm_law 2778 = some (.ireturn, 1))⟩
  · have ha1 : 0 ≤ a1.toInt ∧ a1.toInt ≤ 2147483647 := ⟨by omega, ha1.2⟩
    refine pt_s (pc1 := 1671) (st1 := []) rfl rfl (fun _ => rfl) ?_
    refine pt_s (pc1 := 1672) (st1 := [.ref 0]) rfl rfl (fun _ => rfl) ?_
    refine pt_s (pc1 := 1673) (st1 := [.retAddr 0, .ref 0]) rfl rfl (fun _ => rfl) ?_
    refine pt_s (pc1 := 1675) (st1 := [.int 0, .retAddr 0, .ref 0]) rfl rfl (fun _ => rfl) ?_
    refine pt_s (pc1 := 1676) (st1 := [.int 1, .int 0, .retAddr 0, .ref 0]) rfl rfl (fun _ => rfl) ?_
    refine pt_s (pc1 := 1677) (st1 := [.int 1, .retAddr 0, .ref 0]) rfl rfl (fun _ => rfl) ?_
    refine pt_s (pc1 := 1678) (st1 := [.int a1, .ref 0]) rfl rfl (fun _ => rfl) ?_
    refine pt_s (pc1 := 1679) (st1 := [.ref 164, .int a1, .ref 0]) rfl rfl (fun _ => rfl) ?_
    refine pt_callv (N := pm_L_kindOf) (as := [.ref 0, .int a1, .ref 164]) (rest := []) (f := 2047) (l := 83977) (c1 := 1) (k1 := 6) (c2 := 599836) (k2 := 7274189) (v := some (.int 1)) (h1 := ph_14) rfl rfl (fun _ => rfl) ?_ (Nat.le_of_ble_eq_true rfl) (Nat.le_of_ble_eq_true rfl) ?_
    · refine px_C_of rfl ?_
      refine pr_s (pc1 := 1) (st1 := [.ref 164]) rfl (fun _ => rfl) ?_
      refine pr_s (pc1 := 2) (st1 := [.int 0, .ref 164]) rfl (fun _ => rfl) ?_
      refine pr_s (pc1 := 3) (st1 := [.ref 0, .int 0, .ref 164]) rfl (fun _ => rfl) ?_
      refine pr_s (pc1 := 4) (st1 := [.int a1, .ref 0, .int 0, .ref 164]) rfl (fun _ => rfl) ?_
      refine pr_callx (N := pm_X6_kindOf) (as := [.ref 0, .int a1]) (rest := [.int 0, .ref 164]) (f := 2046) (l := 83956) (c1 := 1) (k1 := 6) (c2 := 0) (k2 := 0) (E := 11) (h1 := ph_14) (a := 12) (y1 := 3) (y2 := 1) rfl (fun ex => px_inv_hs ex rfl rfl rfl pg_0 rfl rfl rfl rfl) ?_ (Nat.le_of_ble_eq_true rfl) (Nat.le_of_ble_eq_true rfl) rfl rfl rfl rfl ?_
      · refine px_C_of rfl ?_
        refine pr_s (pc1 := 1) (st1 := [.ref 0]) rfl (fun _ => rfl) ?_
        refine pr_s (pc1 := 2) (st1 := [.int a1, .ref 0]) rfl (fun _ => rfl) ?_
        refine pr_callo (N := pm_X6_needFact) (as := [.ref 0, .int a1]) (rest := []) (f := 2045) (l := 83934) (E := 11) (h1 := ph_14) rfl (fun ex => px_inv_hs ex rfl rfl rfl pg_0 rfl rfl rfl rfl) ?_ rfl ⟨rfl, rfl⟩
        · refine px_C_of rfl ?_
          refine pr_s (pc1 := 1) (st1 := [.ref 0]) rfl (fun _ => rfl) ?_
          refine pr_getf (pc1 := 4) (v := .ref 92) rfl rfl pg_0 rfl rfl ?_
          refine pr_getf (pc1 := 7) (v := .ref 93) rfl rfl pg_22 rfl rfl ?_
          refine pr_s (pc1 := 8) (st1 := [.int a1, .ref 93]) rfl (fun _ => rfl) ?_
          refine pr_callv (N := pm_X2_placeOf) (as := [.ref 93, .int a1]) (rest := []) (f := 2044) (l := 83912) (c1 := 0) (k1 := 0) (c2 := 1) (k2 := 6) (v := some (.int (-1))) (h1 := px_hs) rfl (fun ex => px_inv_hs ex rfl rfl rfl pg_23 rfl rfl rfl rfl) ?_ (Nat.le_of_ble_eq_true rfl) (Nat.le_of_ble_eq_true rfl) ?_
          · refine px_C_of rfl ?_
            refine pr_s (pc1 := 1) (st1 := [.int a1]) rfl (fun _ => rfl) ?_
            refine pr_bf (t := 12) (off := 11) (bb := decide (a1 < 0)) (st1 := []) rfl rfl rfl rfl (pb_ltF ha1.1 (show (0 : Int32).toInt ≤ 0 by decide) (by decide)) ?_
            refine pr_s (pc1 := 5) (st1 := [.int a1]) rfl (fun _ => rfl) ?_
            refine pr_s (pc1 := 6) (st1 := [.ref 93, .int a1]) rfl (fun _ => rfl) ?_
            refine pr_getf (pc1 := 9) (v := .int 0) rfl rfl pg_23 rfl rfl ?_
            refine pr_bf (t := 14) (off := 5) (bb := decide (a1 < 0)) (st1 := []) rfl rfl rfl rfl (pb_ltF ha1.1 (show (0 : Int32).toInt ≤ 0 by decide) (by decide)) ?_
            refine pr_s (pc1 := 13) (st1 := [.int (-1)]) rfl (fun _ => rfl) ?_
            exact pr_e rfl (fun _ => rfl) ⟨rfl, rfl⟩
          show px_R _ _ _ _ (11, [(0, .ref 0), (1, .int a1)], [.int (-1)], _) _ _ _
          refine pr_s (pc1 := 12) (lv1 := [(2, .int (-1)), (0, .ref 0), (1, .int a1)]) (st1 := []) rfl (fun _ => rfl) ?_
          refine pr_s (pc1 := 13) (st1 := [.int (-1)]) rfl (fun _ => rfl) ?_
          refine pr_bf (t := 27) (off := 14) (bb := decide ((0 : Int32) ≤ ((-1) : Int32))) (st1 := []) rfl rfl rfl rfl (by decide) ?_
          refine pr_mh (z1 := 1) (z2 := 6) (c1 := 0) (k1 := 0) (pc1 := 26) (n := 165) (r := []) (h1 := ph_14) (es := fun n => [.inr (11, [])]) rfl (fun _ => rfl) pl_0 rfl (Nat.le_of_ble_eq_true rfl) (Nat.le_of_ble_eq_true rfl) ?_
          exact pr_e rfl (fun _ => rfl) ⟨rfl, rfl⟩
      show px_R _ _ _ _ (13, [(0, .ref 0), (1, .int a1), (2, .ref 164)], [], _) _ _ _
      refine pr_s (pc1 := 14) (st1 := [.int 1]) rfl (fun _ => rfl) ?_
      exact pr_e rfl (fun _ => rfl) ⟨rfl, rfl⟩
    show px_T _ _ _ _ (1682, [(4, .int 0), (3, .ref 164), (2, .ref 136), (1, .ref 0), (0, .retAddr 0)], [.int 1], _) _ _ _
    refine pt_s (pc1 := 1684) (lv1 := [(5, .int 1), (4, .int 0), (3, .ref 164), (2, .ref 136), (1, .ref 0), (0, .retAddr 0)]) (st1 := []) rfl rfl (fun _ => rfl) ?_
    refine pt_s (pc1 := 1685) (st1 := [.ref 136]) rfl rfl (fun _ => rfl) ?_
    refine pt_s (pc1 := 1686) (st1 := [.retAddr 0, .ref 136]) rfl rfl (fun _ => rfl) ?_
    refine pt_s (pc1 := 1688) (st1 := [.int 0, .retAddr 0, .ref 136]) rfl rfl (fun _ => rfl) ?_
    refine pt_s (pc1 := 1689) (st1 := [.int 1, .int 0, .retAddr 0, .ref 136]) rfl rfl (fun _ => rfl) ?_
    refine pt_s (pc1 := 1690) (st1 := [.int 1, .retAddr 0, .ref 136]) rfl rfl (fun _ => rfl) ?_
    refine pt_s (pc1 := 1691) (st1 := [.int a1, .ref 136]) rfl rfl (fun _ => rfl) ?_
    refine pt_callv (N := pm_X10_kindOf) (as := [.ref 136, .int a1]) (rest := []) (f := 2047) (l := 83979) (c1 := 0) (k1 := 0) (c2 := 599836) (k2 := 7274189) (v := some (.int 0)) (h1 := ph_15) rfl rfl (fun ex => px_inv_hs ex rfl rfl rfl pg_20 rfl rfl rfl rfl) ?_ (Nat.le_of_ble_eq_true rfl) (Nat.le_of_ble_eq_true rfl) ?_
    · refine px_C_of rfl ?_
      refine pr_s (pc1 := 1) (st1 := [.ref 136]) rfl (fun _ => rfl) ?_
      refine pr_s (pc1 := 2) (st1 := [.int a1, .ref 136]) rfl (fun _ => rfl) ?_
      refine pr_callv (N := pm_X10_isFact) (as := [.ref 136, .int a1]) (rest := []) (f := 2046) (l := 83958) (c1 := 0) (k1 := 0) (c2 := 0) (k2 := 0) (v := some (.int 0)) (h1 := ph_15) rfl (fun ex => px_inv_hs ex rfl rfl rfl pg_20 rfl rfl rfl rfl) ?_ (Nat.le_of_ble_eq_true rfl) (Nat.le_of_ble_eq_true rfl) ?_
      · refine px_C_of rfl ?_
        refine pr_s (pc1 := 1) (st1 := [.ref 136]) rfl (fun _ => rfl) ?_
        refine pr_s (pc1 := 2) (st1 := [.ref 136, .ref 136]) rfl (fun _ => rfl) ?_
        refine pr_getf (pc1 := 5) (v := .ref 138) rfl rfl pg_20 rfl rfl ?_
        refine pr_s (pc1 := 6) (st1 := [.int a1, .ref 138, .ref 136]) rfl (fun _ => rfl) ?_
        refine pr_callv (N := pm_X9_place) (as := [.ref 138, .int a1]) (rest := [.ref 136]) (f := 2045) (l := 83936) (c1 := 0) (k1 := 0) (c2 := 0) (k2 := 0) (v := some (.int (-1))) (h1 := ph_14) rfl (fun ex => px_inv_hs ex rfl rfl rfl pg_506 rfl rfl rfl rfl) ?_ (Nat.le_of_ble_eq_true rfl) (Nat.le_of_ble_eq_true rfl) ?_
        · refine px_C_of rfl ?_
          refine pr_s (pc1 := 1) (st1 := [.ref 138]) rfl (fun _ => rfl) ?_
          refine pr_getf (pc1 := 4) (v := .ref 141) rfl rfl pg_506 rfl rfl ?_
          refine pr_getf (pc1 := 7) (v := .int 0) rfl rfl pg_507 rfl rfl ?_
          refine pr_s (pc1 := 8) (st1 := [.int 1, .int 0]) rfl (fun _ => rfl) ?_
          refine pr_s (pc1 := 9) (st1 := [.int (-1)]) rfl (fun _ => rfl) ?_
          refine pr_s (pc1 := 10) (lv1 := [(2, .int (-1)), (0, .ref 138), (1, .int a1)]) (st1 := []) rfl (fun _ => rfl) ?_
          refine pr_s (pc1 := 11) (st1 := [.int (-1)]) rfl (fun _ => rfl) ?_
          refine pr_bt (t := 33) (off := 22) (bb := decide (((-1) : Int32) < 0)) (st1 := []) rfl rfl rfl rfl (by decide) ?_
          refine pr_s (pc1 := 34) (st1 := [.int (-1)]) rfl (fun _ => rfl) ?_
          exact pr_e rfl (fun _ => rfl) ⟨rfl, rfl⟩
        show px_R _ _ _ _ (9, [(0, .ref 136), (1, .int a1)], [.int (-1), .ref 136], _) _ _ _
        refine pr_s (pc1 := 10) (st1 := [.int (-1), .int (-1), .ref 136]) rfl (fun _ => rfl) ?_
        refine pr_bt (t := 17) (off := 7) (bb := decide (((-1) : Int32) = (-1))) (st1 := [.ref 136]) rfl rfl rfl rfl (by decide) ?_
        refine pr_s (pc1 := 18) (st1 := [.int 1, .ref 136]) rfl (fun _ => rfl) ?_
        refine pr_putf (pc1 := 21) (h1 := ph_15) rfl rfl pg_20 rfl rfl rfl rfl rfl rfl rfl ?_
        refine pr_s (pc1 := 22) (st1 := [.ref 136]) rfl (fun _ => rfl) ?_
        refine pr_getf (pc1 := 25) (v := .int 1) rfl rfl pg_21 rfl rfl ?_
        refine pr_bt (t := 32) (off := 7) (bb := !decide ((1 : Int32) = 0)) (st1 := []) rfl rfl rfl rfl (px_not_t (by decide)) ?_
        refine pr_s (pc1 := 33) (st1 := [.int 0]) rfl (fun _ => rfl) ?_
        exact pr_e rfl (fun _ => rfl) ⟨rfl, rfl⟩
      show px_R _ _ _ _ (5, [(0, .ref 136), (1, .int a1)], [.int 0], _) _ _ _
      refine pr_bt (t := 30) (off := 25) (bb := decide ((0 : Int32) = 0)) (st1 := []) rfl rfl rfl rfl (by decide) ?_
      refine pr_s (pc1 := 31) (st1 := [.int 0]) rfl (fun _ => rfl) ?_
      exact pr_e rfl (fun _ => rfl) ⟨rfl, rfl⟩
    show px_T _ _ _ _ (1694, [(5, .int 1), (4, .int 0), (3, .ref 164), (2, .ref 136), (1, .ref 0), (0, .retAddr 0)], [.int 0], _) _ _ _
    refine pt_s (pc1 := 1696) (lv1 := [(6, .int 0), (5, .int 1), (4, .int 0), (3, .ref 164), (2, .ref 136), (1, .ref 0), (0, .retAddr 0)]) (st1 := []) rfl rfl (fun _ => rfl) ?_
    refine pt_s (pc1 := 1697) (st1 := [.ref 136]) rfl rfl (fun _ => rfl) ?_
    refine pt_callv (N := pm_X10_thrown) (as := [.ref 136]) (rest := []) (f := 2047) (l := 83980) (c1 := 0) (k1 := 0) (c2 := 599836) (k2 := 7274189) (v := some (.int 1)) (h1 := ph_15) rfl rfl (fun ex => px_inv_hs ex rfl rfl rfl pg_21 rfl rfl rfl rfl) ?_ (Nat.le_of_ble_eq_true rfl) (Nat.le_of_ble_eq_true rfl) ?_
    · refine px_C_of rfl ?_
      refine pr_s (pc1 := 1) (st1 := [.ref 136]) rfl (fun _ => rfl) ?_
      refine pr_getf (pc1 := 4) (v := .int 1) rfl rfl pg_21 rfl rfl ?_
      exact pr_e rfl (fun _ => rfl) ⟨rfl, rfl⟩
    show px_T _ _ _ _ (1700, [(6, .int 0), (5, .int 1), (4, .int 0), (3, .ref 164), (2, .ref 136), (1, .ref 0), (0, .retAddr 0)], [.int 1], _) _ _ _
    refine pt_s (pc1 := 1702) (st1 := [.int 1, .int 1]) rfl rfl (fun _ => rfl) ?_
    refine pt_bt (t := 1707) (off := 5) (bb := decide ((1 : Int32) = 1)) (st1 := []) rfl rfl rfl rfl rfl (by decide) ?_
    refine pt_s (pc1 := 1709) (st1 := [.int 1]) rfl rfl (fun _ => rfl) ?_
    refine pt_bt (t := 1724) (off := 15) (bb := !decide ((1 : Int32) = 0)) (st1 := []) rfl rfl rfl rfl rfl (px_not_t (by decide)) ?_
    refine pt_s (pc1 := 2771) (st1 := []) rfl rfl (fun _ => rfl) ?_
    refine pt_s (pc1 := 2774) (lv1 := [(4, .int 6), (6, .int 0), (5, .int 1), (3, .ref 164), (2, .ref 136), (1, .ref 0), (0, .retAddr 0)]) (st1 := []) rfl rfl (fun _ => rfl) ?_
    refine pt_s (pc1 := 23) (st1 := []) rfl rfl (fun _ => rfl) ?_
    refine pt_s (pc1 := 25) (st1 := [.int 6]) rfl rfl (fun _ => rfl) ?_
    refine pt_s (pc1 := 26) (st1 := [.retAddr 0, .int 6]) rfl rfl (fun _ => rfl) ?_
    refine pt_s (pc1 := 27) (st1 := [.int 6, .int 6]) rfl rfl (fun _ => rfl) ?_
    refine pt_s (pc1 := 29) (st1 := [.int 6, .int 6, .int 6]) rfl rfl (fun _ => rfl) ?_
    refine pt_s (pc1 := 30) (st1 := [.int 0, .int 6]) rfl rfl (fun _ => rfl) ?_
    refine pt_bt (t := 2777) (off := 2747) (bb := decide ((0 : Int32) < (6 : Int32))) (st1 := []) rfl rfl rfl rfl rfl (by decide) ?_
    refine pt_s (pc1 := 2778) (st1 := [.int 1]) rfl rfl (fun _ => rfl) ?_
    exact pt_e rfl ⟨rfl, (rfl : px_ins pm_law 2778 = some (.ireturn, 1))⟩
set_option maxRecDepth 100000 in
set_option maxHeartbeats 40000000 in
theorem px_op_25 (a0 a1 a2 a3 a4 a5 : Int32) : px_T (some [a0, a1, a2, a3, a4, a5]) pm_law 2048 84000 (40, [(4, .int 0), (3, .ref 164), (2, .ref 136), (1, .ref 0), (0, .retAddr 0)], [.int 25], px_hs) 599837 7274195 (fun s1 => s1.2.2.1 = [.int 1] ∧ px_ins pm_law s1.1 = some (.ireturn, 1)) := by
  have ha1 : (-2147483648) ≤ a1.toInt ∧ a1.toInt ≤ 2147483647 := ⟨Int32.le_toInt a1, Int32.toInt_le a1⟩
  by_cases hs : a1.toInt < 0
  · have ha1 : (-2147483648) ≤ a1.toInt ∧ a1.toInt ≤ (-1) := ⟨ha1.1, by omega⟩
    refine pt_s (pc1 := 1727) (st1 := []) rfl rfl (fun _ => rfl) ?_
    refine pt_s (pc1 := 1728) (st1 := [.ref 0]) rfl rfl (fun _ => rfl) ?_
    refine pt_s (pc1 := 1729) (st1 := [.retAddr 0, .ref 0]) rfl rfl (fun _ => rfl) ?_
    refine pt_s (pc1 := 1731) (st1 := [.int 0, .retAddr 0, .ref 0]) rfl rfl (fun _ => rfl) ?_
    refine pt_s (pc1 := 1732) (st1 := [.int 1, .int 0, .retAddr 0, .ref 0]) rfl rfl (fun _ => rfl) ?_
    refine pt_s (pc1 := 1733) (st1 := [.int 1, .retAddr 0, .ref 0]) rfl rfl (fun _ => rfl) ?_
    refine pt_s (pc1 := 1734) (st1 := [.int a1, .ref 0]) rfl rfl (fun _ => rfl) ?_
    refine pt_s (pc1 := 1735) (st1 := [.retAddr 0, .int a1, .ref 0]) rfl rfl (fun _ => rfl) ?_
    refine pt_s (pc1 := 1737) (st1 := [.int 0, .retAddr 0, .int a1, .ref 0]) rfl rfl (fun _ => rfl) ?_
    refine pt_s (pc1 := 1738) (st1 := [.int 2, .int 0, .retAddr 0, .int a1, .ref 0]) rfl rfl (fun _ => rfl) ?_
    refine pt_s (pc1 := 1739) (st1 := [.int 2, .retAddr 0, .int a1, .ref 0]) rfl rfl (fun _ => rfl) ?_
    refine pt_s (pc1 := 1740) (st1 := [.int a2, .int a1, .ref 0]) rfl rfl (fun _ => rfl) ?_
    refine pt_s (pc1 := 1741) (st1 := [.ref 164, .int a2, .int a1, .ref 0]) rfl rfl (fun _ => rfl) ?_
    refine pt_callv (N := pm_L_valueOf) (as := [.ref 0, .int a1, .int a2, .ref 164]) (rest := []) (f := 2047) (l := 83976) (c1 := 1) (k1 := 6) (c2 := 599836) (k2 := 7274189) (v := some (.int 1)) (h1 := ph_14) rfl rfl (fun _ => rfl) ?_ (Nat.le_of_ble_eq_true rfl) (Nat.le_of_ble_eq_true rfl) ?_
    · refine px_C_of rfl ?_
      refine pr_s (pc1 := 1) (st1 := [.ref 164]) rfl (fun _ => rfl) ?_
      refine pr_s (pc1 := 2) (st1 := [.int 0, .ref 164]) rfl (fun _ => rfl) ?_
      refine pr_s (pc1 := 3) (st1 := [.ref 0, .int 0, .ref 164]) rfl (fun _ => rfl) ?_
      refine pr_s (pc1 := 4) (st1 := [.int a1, .ref 0, .int 0, .ref 164]) rfl (fun _ => rfl) ?_
      refine pr_s (pc1 := 5) (st1 := [.int a2, .int a1, .ref 0, .int 0, .ref 164]) rfl (fun _ => rfl) ?_
      refine pr_callx (N := pm_X6_valueOf) (as := [.ref 0, .int a1, .int a2]) (rest := [.int 0, .ref 164]) (f := 2046) (l := 83953) (c1 := 1) (k1 := 6) (c2 := 0) (k2 := 0) (E := 11) (h1 := ph_14) (a := 13) (y1 := 4) (y2 := 2) rfl (fun ex => px_inv_hs ex rfl rfl rfl pg_0 rfl rfl rfl rfl) ?_ (Nat.le_of_ble_eq_true rfl) (Nat.le_of_ble_eq_true rfl) rfl rfl rfl rfl ?_
      · refine px_C_of rfl ?_
        refine pr_s (pc1 := 1) (st1 := [.ref 0]) rfl (fun _ => rfl) ?_
        refine pr_s (pc1 := 2) (st1 := [.int a1, .ref 0]) rfl (fun _ => rfl) ?_
        refine pr_callo (N := pm_X6_needFact) (as := [.ref 0, .int a1]) (rest := []) (f := 2045) (l := 83931) (E := 11) (h1 := ph_14) rfl (fun ex => px_inv_hs ex rfl rfl rfl pg_0 rfl rfl rfl rfl) ?_ rfl ⟨rfl, rfl⟩
        · refine px_C_of rfl ?_
          refine pr_s (pc1 := 1) (st1 := [.ref 0]) rfl (fun _ => rfl) ?_
          refine pr_getf (pc1 := 4) (v := .ref 92) rfl rfl pg_0 rfl rfl ?_
          refine pr_getf (pc1 := 7) (v := .ref 93) rfl rfl pg_22 rfl rfl ?_
          refine pr_s (pc1 := 8) (st1 := [.int a1, .ref 93]) rfl (fun _ => rfl) ?_
          refine pr_callv (N := pm_X2_placeOf) (as := [.ref 93, .int a1]) (rest := []) (f := 2044) (l := 83909) (c1 := 0) (k1 := 0) (c2 := 1) (k2 := 6) (v := some (.int (-1))) (h1 := px_hs) rfl (fun ex => px_inv_hs ex rfl rfl rfl pg_23 rfl rfl rfl rfl) ?_ (Nat.le_of_ble_eq_true rfl) (Nat.le_of_ble_eq_true rfl) ?_
          · refine px_C_of rfl ?_
            refine pr_s (pc1 := 1) (st1 := [.int a1]) rfl (fun _ => rfl) ?_
            refine pr_bt (t := 12) (off := 11) (bb := decide (a1 < 0)) (st1 := []) rfl rfl rfl rfl (pb_ltT ha1.2 (show 0 ≤ (0 : Int32).toInt by decide) (by decide)) ?_
            refine pr_s (pc1 := 13) (st1 := [.int (-1)]) rfl (fun _ => rfl) ?_
            exact pr_e rfl (fun _ => rfl) ⟨rfl, rfl⟩
          show px_R _ _ _ _ (11, [(0, .ref 0), (1, .int a1)], [.int (-1)], _) _ _ _
          refine pr_s (pc1 := 12) (lv1 := [(2, .int (-1)), (0, .ref 0), (1, .int a1)]) (st1 := []) rfl (fun _ => rfl) ?_
          refine pr_s (pc1 := 13) (st1 := [.int (-1)]) rfl (fun _ => rfl) ?_
          refine pr_bf (t := 27) (off := 14) (bb := decide ((0 : Int32) ≤ ((-1) : Int32))) (st1 := []) rfl rfl rfl rfl (by decide) ?_
          refine pr_mh (z1 := 1) (z2 := 6) (c1 := 0) (k1 := 0) (pc1 := 26) (n := 165) (r := []) (h1 := ph_14) (es := fun n => [.inr (11, [])]) rfl (fun _ => rfl) pl_0 rfl (Nat.le_of_ble_eq_true rfl) (Nat.le_of_ble_eq_true rfl) ?_
          exact pr_e rfl (fun _ => rfl) ⟨rfl, rfl⟩
      show px_R _ _ _ _ (15, [(0, .ref 0), (1, .int a1), (2, .int a2), (3, .ref 164)], [], _) _ _ _
      refine pr_s (pc1 := 16) (st1 := [.int 1]) rfl (fun _ => rfl) ?_
      exact pr_e rfl (fun _ => rfl) ⟨rfl, rfl⟩
    show px_T _ _ _ _ (1744, [(4, .int 0), (3, .ref 164), (2, .ref 136), (1, .ref 0), (0, .retAddr 0)], [.int 1], _) _ _ _
    refine pt_s (pc1 := 1746) (lv1 := [(5, .int 1), (4, .int 0), (3, .ref 164), (2, .ref 136), (1, .ref 0), (0, .retAddr 0)]) (st1 := []) rfl rfl (fun _ => rfl) ?_
    refine pt_s (pc1 := 1747) (st1 := [.ref 136]) rfl rfl (fun _ => rfl) ?_
    refine pt_s (pc1 := 1748) (st1 := [.retAddr 0, .ref 136]) rfl rfl (fun _ => rfl) ?_
    refine pt_s (pc1 := 1750) (st1 := [.int 0, .retAddr 0, .ref 136]) rfl rfl (fun _ => rfl) ?_
    refine pt_s (pc1 := 1751) (st1 := [.int 1, .int 0, .retAddr 0, .ref 136]) rfl rfl (fun _ => rfl) ?_
    refine pt_s (pc1 := 1752) (st1 := [.int 1, .retAddr 0, .ref 136]) rfl rfl (fun _ => rfl) ?_
    refine pt_s (pc1 := 1753) (st1 := [.int a1, .ref 136]) rfl rfl (fun _ => rfl) ?_
    refine pt_s (pc1 := 1754) (st1 := [.retAddr 0, .int a1, .ref 136]) rfl rfl (fun _ => rfl) ?_
    refine pt_s (pc1 := 1756) (st1 := [.int 0, .retAddr 0, .int a1, .ref 136]) rfl rfl (fun _ => rfl) ?_
    refine pt_s (pc1 := 1757) (st1 := [.int 2, .int 0, .retAddr 0, .int a1, .ref 136]) rfl rfl (fun _ => rfl) ?_
    refine pt_s (pc1 := 1758) (st1 := [.int 2, .retAddr 0, .int a1, .ref 136]) rfl rfl (fun _ => rfl) ?_
    refine pt_s (pc1 := 1759) (st1 := [.int a2, .int a1, .ref 136]) rfl rfl (fun _ => rfl) ?_
    refine pt_callv (N := pm_X10_valueOf) (as := [.ref 136, .int a1, .int a2]) (rest := []) (f := 2047) (l := 83978) (c1 := 0) (k1 := 0) (c2 := 599836) (k2 := 7274189) (v := some (.int 0)) (h1 := ph_15) rfl rfl (fun ex => px_inv_hs ex rfl rfl rfl pg_20 rfl rfl rfl rfl) ?_ (Nat.le_of_ble_eq_true rfl) (Nat.le_of_ble_eq_true rfl) ?_
    · refine px_C_of rfl ?_
      refine pr_s (pc1 := 1) (st1 := [.ref 136]) rfl (fun _ => rfl) ?_
      refine pr_s (pc1 := 2) (st1 := [.int a1, .ref 136]) rfl (fun _ => rfl) ?_
      refine pr_callv (N := pm_X10_isFact) (as := [.ref 136, .int a1]) (rest := []) (f := 2046) (l := 83957) (c1 := 0) (k1 := 0) (c2 := 0) (k2 := 0) (v := some (.int 0)) (h1 := ph_15) rfl (fun ex => px_inv_hs ex rfl rfl rfl pg_20 rfl rfl rfl rfl) ?_ (Nat.le_of_ble_eq_true rfl) (Nat.le_of_ble_eq_true rfl) ?_
      · refine px_C_of rfl ?_
        refine pr_s (pc1 := 1) (st1 := [.ref 136]) rfl (fun _ => rfl) ?_
        refine pr_s (pc1 := 2) (st1 := [.ref 136, .ref 136]) rfl (fun _ => rfl) ?_
        refine pr_getf (pc1 := 5) (v := .ref 138) rfl rfl pg_20 rfl rfl ?_
        refine pr_s (pc1 := 6) (st1 := [.int a1, .ref 138, .ref 136]) rfl (fun _ => rfl) ?_
        refine pr_callv (N := pm_X9_place) (as := [.ref 138, .int a1]) (rest := [.ref 136]) (f := 2045) (l := 83935) (c1 := 0) (k1 := 0) (c2 := 0) (k2 := 0) (v := some (.int (-1))) (h1 := ph_14) rfl (fun ex => px_inv_hs ex rfl rfl rfl pg_506 rfl rfl rfl rfl) ?_ (Nat.le_of_ble_eq_true rfl) (Nat.le_of_ble_eq_true rfl) ?_
        · refine px_C_of rfl ?_
          refine pr_s (pc1 := 1) (st1 := [.ref 138]) rfl (fun _ => rfl) ?_
          refine pr_getf (pc1 := 4) (v := .ref 141) rfl rfl pg_506 rfl rfl ?_
          refine pr_getf (pc1 := 7) (v := .int 0) rfl rfl pg_507 rfl rfl ?_
          refine pr_s (pc1 := 8) (st1 := [.int 1, .int 0]) rfl (fun _ => rfl) ?_
          refine pr_s (pc1 := 9) (st1 := [.int (-1)]) rfl (fun _ => rfl) ?_
          refine pr_s (pc1 := 10) (lv1 := [(2, .int (-1)), (0, .ref 138), (1, .int a1)]) (st1 := []) rfl (fun _ => rfl) ?_
          refine pr_s (pc1 := 11) (st1 := [.int (-1)]) rfl (fun _ => rfl) ?_
          refine pr_bt (t := 33) (off := 22) (bb := decide (((-1) : Int32) < 0)) (st1 := []) rfl rfl rfl rfl (by decide) ?_
          refine pr_s (pc1 := 34) (st1 := [.int (-1)]) rfl (fun _ => rfl) ?_
          exact pr_e rfl (fun _ => rfl) ⟨rfl, rfl⟩
        show px_R _ _ _ _ (9, [(0, .ref 136), (1, .int a1)], [.int (-1), .ref 136], _) _ _ _
        refine pr_s (pc1 := 10) (st1 := [.int (-1), .int (-1), .ref 136]) rfl (fun _ => rfl) ?_
        refine pr_bt (t := 17) (off := 7) (bb := decide (((-1) : Int32) = (-1))) (st1 := [.ref 136]) rfl rfl rfl rfl (by decide) ?_
        refine pr_s (pc1 := 18) (st1 := [.int 1, .ref 136]) rfl (fun _ => rfl) ?_
        refine pr_putf (pc1 := 21) (h1 := ph_15) rfl rfl pg_20 rfl rfl rfl rfl rfl rfl rfl ?_
        refine pr_s (pc1 := 22) (st1 := [.ref 136]) rfl (fun _ => rfl) ?_
        refine pr_getf (pc1 := 25) (v := .int 1) rfl rfl pg_21 rfl rfl ?_
        refine pr_bt (t := 32) (off := 7) (bb := !decide ((1 : Int32) = 0)) (st1 := []) rfl rfl rfl rfl (px_not_t (by decide)) ?_
        refine pr_s (pc1 := 33) (st1 := [.int 0]) rfl (fun _ => rfl) ?_
        exact pr_e rfl (fun _ => rfl) ⟨rfl, rfl⟩
      show px_R _ _ _ _ (5, [(0, .ref 136), (1, .int a1), (2, .int a2)], [.int 0], _) _ _ _
      refine pr_bf (t := 10) (off := 5) (bb := !decide ((0 : Int32) = 0)) (st1 := []) rfl rfl rfl rfl (px_not_f (by decide)) ?_
      refine pr_s (pc1 := 9) (st1 := [.int 0]) rfl (fun _ => rfl) ?_
      exact pr_e rfl (fun _ => rfl) ⟨rfl, rfl⟩
    show px_T _ _ _ _ (1762, [(5, .int 1), (4, .int 0), (3, .ref 164), (2, .ref 136), (1, .ref 0), (0, .retAddr 0)], [.int 0], _) _ _ _
    refine pt_s (pc1 := 1764) (lv1 := [(6, .int 0), (5, .int 1), (4, .int 0), (3, .ref 164), (2, .ref 136), (1, .ref 0), (0, .retAddr 0)]) (st1 := []) rfl rfl (fun _ => rfl) ?_
    refine pt_s (pc1 := 1765) (st1 := [.ref 136]) rfl rfl (fun _ => rfl) ?_
    refine pt_callv (N := pm_X10_thrown) (as := [.ref 136]) (rest := []) (f := 2047) (l := 83980) (c1 := 0) (k1 := 0) (c2 := 599836) (k2 := 7274189) (v := some (.int 1)) (h1 := ph_15) rfl rfl (fun ex => px_inv_hs ex rfl rfl rfl pg_21 rfl rfl rfl rfl) ?_ (Nat.le_of_ble_eq_true rfl) (Nat.le_of_ble_eq_true rfl) ?_
    · refine px_C_of rfl ?_
      refine pr_s (pc1 := 1) (st1 := [.ref 136]) rfl (fun _ => rfl) ?_
      refine pr_getf (pc1 := 4) (v := .int 1) rfl rfl pg_21 rfl rfl ?_
      exact pr_e rfl (fun _ => rfl) ⟨rfl, rfl⟩
    show px_T _ _ _ _ (1768, [(6, .int 0), (5, .int 1), (4, .int 0), (3, .ref 164), (2, .ref 136), (1, .ref 0), (0, .retAddr 0)], [.int 1], _) _ _ _
    refine pt_s (pc1 := 1770) (st1 := [.int 1, .int 1]) rfl rfl (fun _ => rfl) ?_
    refine pt_bt (t := 1775) (off := 5) (bb := decide ((1 : Int32) = 1)) (st1 := []) rfl rfl rfl rfl rfl (by decide) ?_
    refine pt_s (pc1 := 1777) (st1 := [.int 1]) rfl rfl (fun _ => rfl) ?_
    refine pt_bt (t := 1792) (off := 15) (bb := !decide ((1 : Int32) = 0)) (st1 := []) rfl rfl rfl rfl rfl (px_not_t (by decide)) ?_
    refine pt_s (pc1 := 2771) (st1 := []) rfl rfl (fun _ => rfl) ?_
    refine pt_s (pc1 := 2774) (lv1 := [(4, .int 6), (6, .int 0), (5, .int 1), (3, .ref 164), (2, .ref 136), (1, .ref 0), (0, .retAddr 0)]) (st1 := []) rfl rfl (fun _ => rfl) ?_
    refine pt_s (pc1 := 23) (st1 := []) rfl rfl (fun _ => rfl) ?_
    refine pt_s (pc1 := 25) (st1 := [.int 6]) rfl rfl (fun _ => rfl) ?_
    refine pt_s (pc1 := 26) (st1 := [.retAddr 0, .int 6]) rfl rfl (fun _ => rfl) ?_
    refine pt_s (pc1 := 27) (st1 := [.int 6, .int 6]) rfl rfl (fun _ => rfl) ?_
    refine pt_s (pc1 := 29) (st1 := [.int 6, .int 6, .int 6]) rfl rfl (fun _ => rfl) ?_
    refine pt_s (pc1 := 30) (st1 := [.int 0, .int 6]) rfl rfl (fun _ => rfl) ?_
    refine pt_bt (t := 2777) (off := 2747) (bb := decide ((0 : Int32) < (6 : Int32))) (st1 := []) rfl rfl rfl rfl rfl (by decide) ?_
    refine pt_s (pc1 := 2778) (st1 := [.int 1]) rfl rfl (fun _ => rfl) ?_
    exact pt_e rfl ⟨rfl, (rfl : px_ins pm_law 2778 = some (.ireturn, 1))⟩
  · have ha1 : 0 ≤ a1.toInt ∧ a1.toInt ≤ 2147483647 := ⟨by omega, ha1.2⟩
    refine pt_s (pc1 := 1727) (st1 := []) rfl rfl (fun _ => rfl) ?_
    refine pt_s (pc1 := 1728) (st1 := [.ref 0]) rfl rfl (fun _ => rfl) ?_
    refine pt_s (pc1 := 1729) (st1 := [.retAddr 0, .ref 0]) rfl rfl (fun _ => rfl) ?_
    refine pt_s (pc1 := 1731) (st1 := [.int 0, .retAddr 0, .ref 0]) rfl rfl (fun _ => rfl) ?_
    refine pt_s (pc1 := 1732) (st1 := [.int 1, .int 0, .retAddr 0, .ref 0]) rfl rfl (fun _ => rfl) ?_
    refine pt_s (pc1 := 1733) (st1 := [.int 1, .retAddr 0, .ref 0]) rfl rfl (fun _ => rfl) ?_
    refine pt_s (pc1 := 1734) (st1 := [.int a1, .ref 0]) rfl rfl (fun _ => rfl) ?_
    refine pt_s (pc1 := 1735) (st1 := [.retAddr 0, .int a1, .ref 0]) rfl rfl (fun _ => rfl) ?_
    refine pt_s (pc1 := 1737) (st1 := [.int 0, .retAddr 0, .int a1, .ref 0]) rfl rfl (fun _ => rfl) ?_
    refine pt_s (pc1 := 1738) (st1 := [.int 2, .int 0, .retAddr 0, .int a1, .ref 0]) rfl rfl (fun _ => rfl) ?_
    refine pt_s (pc1 := 1739) (st1 := [.int 2, .retAddr 0, .int a1, .ref 0]) rfl rfl (fun _ => rfl) ?_
    refine pt_s (pc1 := 1740) (st1 := [.int a2, .int a1, .ref 0]) rfl rfl (fun _ => rfl) ?_
    refine pt_s (pc1 := 1741) (st1 := [.ref 164, .int a2, .int a1, .ref 0]) rfl rfl (fun _ => rfl) ?_
    refine pt_callv (N := pm_L_valueOf) (as := [.ref 0, .int a1, .int a2, .ref 164]) (rest := []) (f := 2047) (l := 83976) (c1 := 1) (k1 := 6) (c2 := 599836) (k2 := 7274189) (v := some (.int 1)) (h1 := ph_14) rfl rfl (fun _ => rfl) ?_ (Nat.le_of_ble_eq_true rfl) (Nat.le_of_ble_eq_true rfl) ?_
    · refine px_C_of rfl ?_
      refine pr_s (pc1 := 1) (st1 := [.ref 164]) rfl (fun _ => rfl) ?_
      refine pr_s (pc1 := 2) (st1 := [.int 0, .ref 164]) rfl (fun _ => rfl) ?_
      refine pr_s (pc1 := 3) (st1 := [.ref 0, .int 0, .ref 164]) rfl (fun _ => rfl) ?_
      refine pr_s (pc1 := 4) (st1 := [.int a1, .ref 0, .int 0, .ref 164]) rfl (fun _ => rfl) ?_
      refine pr_s (pc1 := 5) (st1 := [.int a2, .int a1, .ref 0, .int 0, .ref 164]) rfl (fun _ => rfl) ?_
      refine pr_callx (N := pm_X6_valueOf) (as := [.ref 0, .int a1, .int a2]) (rest := [.int 0, .ref 164]) (f := 2046) (l := 83953) (c1 := 1) (k1 := 6) (c2 := 0) (k2 := 0) (E := 11) (h1 := ph_14) (a := 13) (y1 := 4) (y2 := 2) rfl (fun ex => px_inv_hs ex rfl rfl rfl pg_0 rfl rfl rfl rfl) ?_ (Nat.le_of_ble_eq_true rfl) (Nat.le_of_ble_eq_true rfl) rfl rfl rfl rfl ?_
      · refine px_C_of rfl ?_
        refine pr_s (pc1 := 1) (st1 := [.ref 0]) rfl (fun _ => rfl) ?_
        refine pr_s (pc1 := 2) (st1 := [.int a1, .ref 0]) rfl (fun _ => rfl) ?_
        refine pr_callo (N := pm_X6_needFact) (as := [.ref 0, .int a1]) (rest := []) (f := 2045) (l := 83931) (E := 11) (h1 := ph_14) rfl (fun ex => px_inv_hs ex rfl rfl rfl pg_0 rfl rfl rfl rfl) ?_ rfl ⟨rfl, rfl⟩
        · refine px_C_of rfl ?_
          refine pr_s (pc1 := 1) (st1 := [.ref 0]) rfl (fun _ => rfl) ?_
          refine pr_getf (pc1 := 4) (v := .ref 92) rfl rfl pg_0 rfl rfl ?_
          refine pr_getf (pc1 := 7) (v := .ref 93) rfl rfl pg_22 rfl rfl ?_
          refine pr_s (pc1 := 8) (st1 := [.int a1, .ref 93]) rfl (fun _ => rfl) ?_
          refine pr_callv (N := pm_X2_placeOf) (as := [.ref 93, .int a1]) (rest := []) (f := 2044) (l := 83909) (c1 := 0) (k1 := 0) (c2 := 1) (k2 := 6) (v := some (.int (-1))) (h1 := px_hs) rfl (fun ex => px_inv_hs ex rfl rfl rfl pg_23 rfl rfl rfl rfl) ?_ (Nat.le_of_ble_eq_true rfl) (Nat.le_of_ble_eq_true rfl) ?_
          · refine px_C_of rfl ?_
            refine pr_s (pc1 := 1) (st1 := [.int a1]) rfl (fun _ => rfl) ?_
            refine pr_bf (t := 12) (off := 11) (bb := decide (a1 < 0)) (st1 := []) rfl rfl rfl rfl (pb_ltF ha1.1 (show (0 : Int32).toInt ≤ 0 by decide) (by decide)) ?_
            refine pr_s (pc1 := 5) (st1 := [.int a1]) rfl (fun _ => rfl) ?_
            refine pr_s (pc1 := 6) (st1 := [.ref 93, .int a1]) rfl (fun _ => rfl) ?_
            refine pr_getf (pc1 := 9) (v := .int 0) rfl rfl pg_23 rfl rfl ?_
            refine pr_bf (t := 14) (off := 5) (bb := decide (a1 < 0)) (st1 := []) rfl rfl rfl rfl (pb_ltF ha1.1 (show (0 : Int32).toInt ≤ 0 by decide) (by decide)) ?_
            refine pr_s (pc1 := 13) (st1 := [.int (-1)]) rfl (fun _ => rfl) ?_
            exact pr_e rfl (fun _ => rfl) ⟨rfl, rfl⟩
          show px_R _ _ _ _ (11, [(0, .ref 0), (1, .int a1)], [.int (-1)], _) _ _ _
          refine pr_s (pc1 := 12) (lv1 := [(2, .int (-1)), (0, .ref 0), (1, .int a1)]) (st1 := []) rfl (fun _ => rfl) ?_
          refine pr_s (pc1 := 13) (st1 := [.int (-1)]) rfl (fun _ => rfl) ?_
          refine pr_bf (t := 27) (off := 14) (bb := decide ((0 : Int32) ≤ ((-1) : Int32))) (st1 := []) rfl rfl rfl rfl (by decide) ?_
          refine pr_mh (z1 := 1) (z2 := 6) (c1 := 0) (k1 := 0) (pc1 := 26) (n := 165) (r := []) (h1 := ph_14) (es := fun n => [.inr (11, [])]) rfl (fun _ => rfl) pl_0 rfl (Nat.le_of_ble_eq_true rfl) (Nat.le_of_ble_eq_true rfl) ?_
          exact pr_e rfl (fun _ => rfl) ⟨rfl, rfl⟩
      show px_R _ _ _ _ (15, [(0, .ref 0), (1, .int a1), (2, .int a2), (3, .ref 164)], [], _) _ _ _
      refine pr_s (pc1 := 16) (st1 := [.int 1]) rfl (fun _ => rfl) ?_
      exact pr_e rfl (fun _ => rfl) ⟨rfl, rfl⟩
    show px_T _ _ _ _ (1744, [(4, .int 0), (3, .ref 164), (2, .ref 136), (1, .ref 0), (0, .retAddr 0)], [.int 1], _) _ _ _
    refine pt_s (pc1 := 1746) (lv1 := [(5, .int 1), (4, .int 0), (3, .ref 164), (2, .ref 136), (1, .ref 0), (0, .retAddr 0)]) (st1 := []) rfl rfl (fun _ => rfl) ?_
    refine pt_s (pc1 := 1747) (st1 := [.ref 136]) rfl rfl (fun _ => rfl) ?_
    refine pt_s (pc1 := 1748) (st1 := [.retAddr 0, .ref 136]) rfl rfl (fun _ => rfl) ?_
    refine pt_s (pc1 := 1750) (st1 := [.int 0, .retAddr 0, .ref 136]) rfl rfl (fun _ => rfl) ?_
    refine pt_s (pc1 := 1751) (st1 := [.int 1, .int 0, .retAddr 0, .ref 136]) rfl rfl (fun _ => rfl) ?_
    refine pt_s (pc1 := 1752) (st1 := [.int 1, .retAddr 0, .ref 136]) rfl rfl (fun _ => rfl) ?_
    refine pt_s (pc1 := 1753) (st1 := [.int a1, .ref 136]) rfl rfl (fun _ => rfl) ?_
    refine pt_s (pc1 := 1754) (st1 := [.retAddr 0, .int a1, .ref 136]) rfl rfl (fun _ => rfl) ?_
    refine pt_s (pc1 := 1756) (st1 := [.int 0, .retAddr 0, .int a1, .ref 136]) rfl rfl (fun _ => rfl) ?_
    refine pt_s (pc1 := 1757) (st1 := [.int 2, .int 0, .retAddr 0, .int a1, .ref 136]) rfl rfl (fun _ => rfl) ?_
    refine pt_s (pc1 := 1758) (st1 := [.int 2, .retAddr 0, .int a1, .ref 136]) rfl rfl (fun _ => rfl) ?_
    refine pt_s (pc1 := 1759) (st1 := [.int a2, .int a1, .ref 136]) rfl rfl (fun _ => rfl) ?_
    refine pt_callv (N := pm_X10_valueOf) (as := [.ref 136, .int a1, .int a2]) (rest := []) (f := 2047) (l := 83978) (c1 := 0) (k1 := 0) (c2 := 599836) (k2 := 7274189) (v := some (.int 0)) (h1 := ph_15) rfl rfl (fun ex => px_inv_hs ex rfl rfl rfl pg_20 rfl rfl rfl rfl) ?_ (Nat.le_of_ble_eq_true rfl) (Nat.le_of_ble_eq_true rfl) ?_
    · refine px_C_of rfl ?_
      refine pr_s (pc1 := 1) (st1 := [.ref 136]) rfl (fun _ => rfl) ?_
      refine pr_s (pc1 := 2) (st1 := [.int a1, .ref 136]) rfl (fun _ => rfl) ?_
      refine pr_callv (N := pm_X10_isFact) (as := [.ref 136, .int a1]) (rest := []) (f := 2046) (l := 83957) (c1 := 0) (k1 := 0) (c2 := 0) (k2 := 0) (v := some (.int 0)) (h1 := ph_15) rfl (fun ex => px_inv_hs ex rfl rfl rfl pg_20 rfl rfl rfl rfl) ?_ (Nat.le_of_ble_eq_true rfl) (Nat.le_of_ble_eq_true rfl) ?_
      · refine px_C_of rfl ?_
        refine pr_s (pc1 := 1) (st1 := [.ref 136]) rfl (fun _ => rfl) ?_
        refine pr_s (pc1 := 2) (st1 := [.ref 136, .ref 136]) rfl (fun _ => rfl) ?_
        refine pr_getf (pc1 := 5) (v := .ref 138) rfl rfl pg_20 rfl rfl ?_
        refine pr_s (pc1 := 6) (st1 := [.int a1, .ref 138, .ref 136]) rfl (fun _ => rfl) ?_
        refine pr_callv (N := pm_X9_place) (as := [.ref 138, .int a1]) (rest := [.ref 136]) (f := 2045) (l := 83935) (c1 := 0) (k1 := 0) (c2 := 0) (k2 := 0) (v := some (.int (-1))) (h1 := ph_14) rfl (fun ex => px_inv_hs ex rfl rfl rfl pg_506 rfl rfl rfl rfl) ?_ (Nat.le_of_ble_eq_true rfl) (Nat.le_of_ble_eq_true rfl) ?_
        · refine px_C_of rfl ?_
          refine pr_s (pc1 := 1) (st1 := [.ref 138]) rfl (fun _ => rfl) ?_
          refine pr_getf (pc1 := 4) (v := .ref 141) rfl rfl pg_506 rfl rfl ?_
          refine pr_getf (pc1 := 7) (v := .int 0) rfl rfl pg_507 rfl rfl ?_
          refine pr_s (pc1 := 8) (st1 := [.int 1, .int 0]) rfl (fun _ => rfl) ?_
          refine pr_s (pc1 := 9) (st1 := [.int (-1)]) rfl (fun _ => rfl) ?_
          refine pr_s (pc1 := 10) (lv1 := [(2, .int (-1)), (0, .ref 138), (1, .int a1)]) (st1 := []) rfl (fun _ => rfl) ?_
          refine pr_s (pc1 := 11) (st1 := [.int (-1)]) rfl (fun _ => rfl) ?_
          refine pr_bt (t := 33) (off := 22) (bb := decide (((-1) : Int32) < 0)) (st1 := []) rfl rfl rfl rfl (by decide) ?_
          refine pr_s (pc1 := 34) (st1 := [.int (-1)]) rfl (fun _ => rfl) ?_
          exact pr_e rfl (fun _ => rfl) ⟨rfl, rfl⟩
        show px_R _ _ _ _ (9, [(0, .ref 136), (1, .int a1)], [.int (-1), .ref 136], _) _ _ _
        refine pr_s (pc1 := 10) (st1 := [.int (-1), .int (-1), .ref 136]) rfl (fun _ => rfl) ?_
        refine pr_bt (t := 17) (off := 7) (bb := decide (((-1) : Int32) = (-1))) (st1 := [.ref 136]) rfl rfl rfl rfl (by decide) ?_
        refine pr_s (pc1 := 18) (st1 := [.int 1, .ref 136]) rfl (fun _ => rfl) ?_
        refine pr_putf (pc1 := 21) (h1 := ph_15) rfl rfl pg_20 rfl rfl rfl rfl rfl rfl rfl ?_
        refine pr_s (pc1 := 22) (st1 := [.ref 136]) rfl (fun _ => rfl) ?_
        refine pr_getf (pc1 := 25) (v := .int 1) rfl rfl pg_21 rfl rfl ?_
        refine pr_bt (t := 32) (off := 7) (bb := !decide ((1 : Int32) = 0)) (st1 := []) rfl rfl rfl rfl (px_not_t (by decide)) ?_
        refine pr_s (pc1 := 33) (st1 := [.int 0]) rfl (fun _ => rfl) ?_
        exact pr_e rfl (fun _ => rfl) ⟨rfl, rfl⟩
      show px_R _ _ _ _ (5, [(0, .ref 136), (1, .int a1), (2, .int a2)], [.int 0], _) _ _ _
      refine pr_bf (t := 10) (off := 5) (bb := !decide ((0 : Int32) = 0)) (st1 := []) rfl rfl rfl rfl (px_not_f (by decide)) ?_
      refine pr_s (pc1 := 9) (st1 := [.int 0]) rfl (fun _ => rfl) ?_
      exact pr_e rfl (fun _ => rfl) ⟨rfl, rfl⟩
    show px_T _ _ _ _ (1762, [(5, .int 1), (4, .int 0), (3, .ref 164), (2, .ref 136), (1, .ref 0), (0, .retAddr 0)], [.int 0], _) _ _ _
    refine pt_s (pc1 := 1764) (lv1 := [(6, .int 0), (5, .int 1), (4, .int 0), (3, .ref 164), (2, .ref 136), (1, .ref 0), (0, .retAddr 0)]) (st1 := []) rfl rfl (fun _ => rfl) ?_
    refine pt_s (pc1 := 1765) (st1 := [.ref 136]) rfl rfl (fun _ => rfl) ?_
    refine pt_callv (N := pm_X10_thrown) (as := [.ref 136]) (rest := []) (f := 2047) (l := 83980) (c1 := 0) (k1 := 0) (c2 := 599836) (k2 := 7274189) (v := some (.int 1)) (h1 := ph_15) rfl rfl (fun ex => px_inv_hs ex rfl rfl rfl pg_21 rfl rfl rfl rfl) ?_ (Nat.le_of_ble_eq_true rfl) (Nat.le_of_ble_eq_true rfl) ?_
    · refine px_C_of rfl ?_
      refine pr_s (pc1 := 1) (st1 := [.ref 136]) rfl (fun _ => rfl) ?_
      refine pr_getf (pc1 := 4) (v := .int 1) rfl rfl pg_21 rfl rfl ?_
      exact pr_e rfl (fun _ => rfl) ⟨rfl, rfl⟩
    show px_T _ _ _ _ (1768, [(6, .int 0), (5, .int 1), (4, .int 0), (3, .ref 164), (2, .ref 136), (1, .ref 0), (0, .retAddr 0)], [.int 1], _) _ _ _
    refine pt_s (pc1 := 1770) (st1 := [.int 1, .int 1]) rfl rfl (fun _ => rfl) ?_
    refine pt_bt (t := 1775) (off := 5) (bb := decide ((1 : Int32) = 1)) (st1 := []) rfl rfl rfl rfl rfl (by decide) ?_
    refine pt_s (pc1 := 1777) (st1 := [.int 1]) rfl rfl (fun _ => rfl) ?_
    refine pt_bt (t := 1792) (off := 15) (bb := !decide ((1 : Int32) = 0)) (st1 := []) rfl rfl rfl rfl rfl (px_not_t (by decide)) ?_
    refine pt_s (pc1 := 2771) (st1 := []) rfl rfl (fun _ => rfl) ?_
    refine pt_s (pc1 := 2774) (lv1 := [(4, .int 6), (6, .int 0), (5, .int 1), (3, .ref 164), (2, .ref 136), (1, .ref 0), (0, .retAddr 0)]) (st1 := []) rfl rfl (fun _ => rfl) ?_
    refine pt_s (pc1 := 23) (st1 := []) rfl rfl (fun _ => rfl) ?_
    refine pt_s (pc1 := 25) (st1 := [.int 6]) rfl rfl (fun _ => rfl) ?_
    refine pt_s (pc1 := 26) (st1 := [.retAddr 0, .int 6]) rfl rfl (fun _ => rfl) ?_
    refine pt_s (pc1 := 27) (st1 := [.int 6, .int 6]) rfl rfl (fun _ => rfl) ?_
    refine pt_s (pc1 := 29) (st1 := [.int 6, .int 6, .int 6]) rfl rfl (fun _ => rfl) ?_
    refine pt_s (pc1 := 30) (st1 := [.int 0, .int 6]) rfl rfl (fun _ => rfl) ?_
    refine pt_bt (t := 2777) (off := 2747) (bb := decide ((0 : Int32) < (6 : Int32))) (st1 := []) rfl rfl rfl rfl rfl (by decide) ?_
    refine pt_s (pc1 := 2778) (st1 := [.int 1]) rfl rfl (fun _ => rfl) ?_
    exact pt_e rfl ⟨rfl, (rfl : px_ins pm_law 2778 = some (.ireturn, 1))⟩
set_option maxRecDepth 100000 in
set_option maxHeartbeats 40000000 in
theorem px_op_26 (a0 a1 a2 a3 a4 a5 : Int32) : px_T (some [a0, a1, a2, a3, a4, a5]) pm_law 2048 84000 (40, [(4, .int 0), (3, .ref 164), (2, .ref 136), (1, .ref 0), (0, .retAddr 0)], [.int 26], px_hs) 599837 7274195 (fun s1 => s1.2.2.1 = [.int 1] ∧ px_ins pm_law s1.1 = some (.ireturn, 1)) := by
  have ha1 : (-2147483648) ≤ a1.toInt ∧ a1.toInt ≤ 2147483647 := ⟨Int32.le_toInt a1, Int32.toInt_le a1⟩
  by_cases hs : a1.toInt < 0
  · have ha1 : (-2147483648) ≤ a1.toInt ∧ a1.toInt ≤ (-1) := ⟨ha1.1, by omega⟩
    refine pt_s (pc1 := 1795) (st1 := []) rfl rfl (fun _ => rfl) ?_
    refine pt_s (pc1 := 1796) (st1 := [.ref 0]) rfl rfl (fun _ => rfl) ?_
    refine pt_s (pc1 := 1797) (st1 := [.retAddr 0, .ref 0]) rfl rfl (fun _ => rfl) ?_
    refine pt_s (pc1 := 1799) (st1 := [.int 0, .retAddr 0, .ref 0]) rfl rfl (fun _ => rfl) ?_
    refine pt_s (pc1 := 1800) (st1 := [.int 1, .int 0, .retAddr 0, .ref 0]) rfl rfl (fun _ => rfl) ?_
    refine pt_s (pc1 := 1801) (st1 := [.int 1, .retAddr 0, .ref 0]) rfl rfl (fun _ => rfl) ?_
    refine pt_s (pc1 := 1802) (st1 := [.int a1, .ref 0]) rfl rfl (fun _ => rfl) ?_
    refine pt_s (pc1 := 1803) (st1 := [.ref 164, .int a1, .ref 0]) rfl rfl (fun _ => rfl) ?_
    refine pt_callv (N := pm_L_isStated) (as := [.ref 0, .int a1, .ref 164]) (rest := []) (f := 2047) (l := 83977) (c1 := 1) (k1 := 6) (c2 := 599836) (k2 := 7274189) (v := some (.int 1)) (h1 := ph_14) rfl rfl (fun _ => rfl) ?_ (Nat.le_of_ble_eq_true rfl) (Nat.le_of_ble_eq_true rfl) ?_
    · refine px_C_of rfl ?_
      refine pr_s (pc1 := 1) (st1 := [.ref 164]) rfl (fun _ => rfl) ?_
      refine pr_s (pc1 := 2) (st1 := [.int 0, .ref 164]) rfl (fun _ => rfl) ?_
      refine pr_s (pc1 := 3) (st1 := [.ref 0, .int 0, .ref 164]) rfl (fun _ => rfl) ?_
      refine pr_s (pc1 := 4) (st1 := [.int a1, .ref 0, .int 0, .ref 164]) rfl (fun _ => rfl) ?_
      refine pr_callx (N := pm_X6_isStated) (as := [.ref 0, .int a1]) (rest := [.int 0, .ref 164]) (f := 2046) (l := 83956) (c1 := 1) (k1 := 6) (c2 := 0) (k2 := 0) (E := 11) (h1 := ph_14) (a := 19) (y1 := 3) (y2 := 1) rfl (fun ex => px_inv_hs ex rfl rfl rfl pg_0 rfl rfl rfl rfl) ?_ (Nat.le_of_ble_eq_true rfl) (Nat.le_of_ble_eq_true rfl) rfl rfl rfl rfl ?_
      · refine px_C_of rfl ?_
        refine pr_s (pc1 := 1) (st1 := [.ref 0]) rfl (fun _ => rfl) ?_
        refine pr_getf (pc1 := 4) (v := .ref 92) rfl rfl pg_0 rfl rfl ?_
        refine pr_getf (pc1 := 7) (v := .ref 93) rfl rfl pg_22 rfl rfl ?_
        refine pr_getf (pc1 := 10) (v := .ref 95) rfl rfl pg_23 rfl rfl ?_
        refine pr_s (pc1 := 11) (st1 := [.ref 0, .ref 95]) rfl (fun _ => rfl) ?_
        refine pr_s (pc1 := 12) (st1 := [.int a1, .ref 0, .ref 95]) rfl (fun _ => rfl) ?_
        refine pr_callo (N := pm_X6_needFact) (as := [.ref 0, .int a1]) (rest := [.ref 95]) (f := 2045) (l := 83934) (E := 11) (h1 := ph_14) rfl (fun ex => px_inv_hs ex rfl rfl rfl pg_0 rfl rfl rfl rfl) ?_ rfl ⟨rfl, rfl⟩
        · refine px_C_of rfl ?_
          refine pr_s (pc1 := 1) (st1 := [.ref 0]) rfl (fun _ => rfl) ?_
          refine pr_getf (pc1 := 4) (v := .ref 92) rfl rfl pg_0 rfl rfl ?_
          refine pr_getf (pc1 := 7) (v := .ref 93) rfl rfl pg_22 rfl rfl ?_
          refine pr_s (pc1 := 8) (st1 := [.int a1, .ref 93]) rfl (fun _ => rfl) ?_
          refine pr_callv (N := pm_X2_placeOf) (as := [.ref 93, .int a1]) (rest := []) (f := 2044) (l := 83912) (c1 := 0) (k1 := 0) (c2 := 1) (k2 := 6) (v := some (.int (-1))) (h1 := px_hs) rfl (fun ex => px_inv_hs ex rfl rfl rfl pg_23 rfl rfl rfl rfl) ?_ (Nat.le_of_ble_eq_true rfl) (Nat.le_of_ble_eq_true rfl) ?_
          · refine px_C_of rfl ?_
            refine pr_s (pc1 := 1) (st1 := [.int a1]) rfl (fun _ => rfl) ?_
            refine pr_bt (t := 12) (off := 11) (bb := decide (a1 < 0)) (st1 := []) rfl rfl rfl rfl (pb_ltT ha1.2 (show 0 ≤ (0 : Int32).toInt by decide) (by decide)) ?_
            refine pr_s (pc1 := 13) (st1 := [.int (-1)]) rfl (fun _ => rfl) ?_
            exact pr_e rfl (fun _ => rfl) ⟨rfl, rfl⟩
          show px_R _ _ _ _ (11, [(0, .ref 0), (1, .int a1)], [.int (-1)], _) _ _ _
          refine pr_s (pc1 := 12) (lv1 := [(2, .int (-1)), (0, .ref 0), (1, .int a1)]) (st1 := []) rfl (fun _ => rfl) ?_
          refine pr_s (pc1 := 13) (st1 := [.int (-1)]) rfl (fun _ => rfl) ?_
          refine pr_bf (t := 27) (off := 14) (bb := decide ((0 : Int32) ≤ ((-1) : Int32))) (st1 := []) rfl rfl rfl rfl (by decide) ?_
          refine pr_mh (z1 := 1) (z2 := 6) (c1 := 0) (k1 := 0) (pc1 := 26) (n := 165) (r := []) (h1 := ph_14) (es := fun n => [.inr (11, [])]) rfl (fun _ => rfl) pl_0 rfl (Nat.le_of_ble_eq_true rfl) (Nat.le_of_ble_eq_true rfl) ?_
          exact pr_e rfl (fun _ => rfl) ⟨rfl, rfl⟩
      show px_R _ _ _ _ (20, [(0, .ref 0), (1, .int a1), (2, .ref 164)], [], _) _ _ _
      refine pr_s (pc1 := 21) (st1 := [.int 1]) rfl (fun _ => rfl) ?_
      exact pr_e rfl (fun _ => rfl) ⟨rfl, rfl⟩
    show px_T _ _ _ _ (1806, [(4, .int 0), (3, .ref 164), (2, .ref 136), (1, .ref 0), (0, .retAddr 0)], [.int 1], _) _ _ _
    refine pt_s (pc1 := 1808) (lv1 := [(5, .int 1), (4, .int 0), (3, .ref 164), (2, .ref 136), (1, .ref 0), (0, .retAddr 0)]) (st1 := []) rfl rfl (fun _ => rfl) ?_
    refine pt_s (pc1 := 1809) (st1 := [.ref 136]) rfl rfl (fun _ => rfl) ?_
    refine pt_s (pc1 := 1810) (st1 := [.retAddr 0, .ref 136]) rfl rfl (fun _ => rfl) ?_
    refine pt_s (pc1 := 1812) (st1 := [.int 0, .retAddr 0, .ref 136]) rfl rfl (fun _ => rfl) ?_
    refine pt_s (pc1 := 1813) (st1 := [.int 1, .int 0, .retAddr 0, .ref 136]) rfl rfl (fun _ => rfl) ?_
    refine pt_s (pc1 := 1814) (st1 := [.int 1, .retAddr 0, .ref 136]) rfl rfl (fun _ => rfl) ?_
    refine pt_s (pc1 := 1815) (st1 := [.int a1, .ref 136]) rfl rfl (fun _ => rfl) ?_
    refine pt_callv (N := pm_X10_isStated) (as := [.ref 136, .int a1]) (rest := []) (f := 2047) (l := 83979) (c1 := 0) (k1 := 0) (c2 := 599836) (k2 := 7274189) (v := some (.int 0)) (h1 := ph_15) rfl rfl (fun ex => px_inv_hs ex rfl rfl rfl pg_20 rfl rfl rfl rfl) ?_ (Nat.le_of_ble_eq_true rfl) (Nat.le_of_ble_eq_true rfl) ?_
    · refine px_C_of rfl ?_
      refine pr_s (pc1 := 1) (st1 := [.ref 136]) rfl (fun _ => rfl) ?_
      refine pr_s (pc1 := 2) (st1 := [.int a1, .ref 136]) rfl (fun _ => rfl) ?_
      refine pr_callv (N := pm_X10_isFact) (as := [.ref 136, .int a1]) (rest := []) (f := 2046) (l := 83958) (c1 := 0) (k1 := 0) (c2 := 0) (k2 := 0) (v := some (.int 0)) (h1 := ph_15) rfl (fun ex => px_inv_hs ex rfl rfl rfl pg_20 rfl rfl rfl rfl) ?_ (Nat.le_of_ble_eq_true rfl) (Nat.le_of_ble_eq_true rfl) ?_
      · refine px_C_of rfl ?_
        refine pr_s (pc1 := 1) (st1 := [.ref 136]) rfl (fun _ => rfl) ?_
        refine pr_s (pc1 := 2) (st1 := [.ref 136, .ref 136]) rfl (fun _ => rfl) ?_
        refine pr_getf (pc1 := 5) (v := .ref 138) rfl rfl pg_20 rfl rfl ?_
        refine pr_s (pc1 := 6) (st1 := [.int a1, .ref 138, .ref 136]) rfl (fun _ => rfl) ?_
        refine pr_callv (N := pm_X9_place) (as := [.ref 138, .int a1]) (rest := [.ref 136]) (f := 2045) (l := 83936) (c1 := 0) (k1 := 0) (c2 := 0) (k2 := 0) (v := some (.int (-1))) (h1 := ph_14) rfl (fun ex => px_inv_hs ex rfl rfl rfl pg_506 rfl rfl rfl rfl) ?_ (Nat.le_of_ble_eq_true rfl) (Nat.le_of_ble_eq_true rfl) ?_
        · refine px_C_of rfl ?_
          refine pr_s (pc1 := 1) (st1 := [.ref 138]) rfl (fun _ => rfl) ?_
          refine pr_getf (pc1 := 4) (v := .ref 141) rfl rfl pg_506 rfl rfl ?_
          refine pr_getf (pc1 := 7) (v := .int 0) rfl rfl pg_507 rfl rfl ?_
          refine pr_s (pc1 := 8) (st1 := [.int 1, .int 0]) rfl (fun _ => rfl) ?_
          refine pr_s (pc1 := 9) (st1 := [.int (-1)]) rfl (fun _ => rfl) ?_
          refine pr_s (pc1 := 10) (lv1 := [(2, .int (-1)), (0, .ref 138), (1, .int a1)]) (st1 := []) rfl (fun _ => rfl) ?_
          refine pr_s (pc1 := 11) (st1 := [.int (-1)]) rfl (fun _ => rfl) ?_
          refine pr_bt (t := 33) (off := 22) (bb := decide (((-1) : Int32) < 0)) (st1 := []) rfl rfl rfl rfl (by decide) ?_
          refine pr_s (pc1 := 34) (st1 := [.int (-1)]) rfl (fun _ => rfl) ?_
          exact pr_e rfl (fun _ => rfl) ⟨rfl, rfl⟩
        show px_R _ _ _ _ (9, [(0, .ref 136), (1, .int a1)], [.int (-1), .ref 136], _) _ _ _
        refine pr_s (pc1 := 10) (st1 := [.int (-1), .int (-1), .ref 136]) rfl (fun _ => rfl) ?_
        refine pr_bt (t := 17) (off := 7) (bb := decide (((-1) : Int32) = (-1))) (st1 := [.ref 136]) rfl rfl rfl rfl (by decide) ?_
        refine pr_s (pc1 := 18) (st1 := [.int 1, .ref 136]) rfl (fun _ => rfl) ?_
        refine pr_putf (pc1 := 21) (h1 := ph_15) rfl rfl pg_20 rfl rfl rfl rfl rfl rfl rfl ?_
        refine pr_s (pc1 := 22) (st1 := [.ref 136]) rfl (fun _ => rfl) ?_
        refine pr_getf (pc1 := 25) (v := .int 1) rfl rfl pg_21 rfl rfl ?_
        refine pr_bt (t := 32) (off := 7) (bb := !decide ((1 : Int32) = 0)) (st1 := []) rfl rfl rfl rfl (px_not_t (by decide)) ?_
        refine pr_s (pc1 := 33) (st1 := [.int 0]) rfl (fun _ => rfl) ?_
        exact pr_e rfl (fun _ => rfl) ⟨rfl, rfl⟩
      show px_R _ _ _ _ (5, [(0, .ref 136), (1, .int a1)], [.int 0], _) _ _ _
      refine pr_bt (t := 35) (off := 30) (bb := decide ((0 : Int32) = 0)) (st1 := []) rfl rfl rfl rfl (by decide) ?_
      refine pr_s (pc1 := 36) (st1 := [.int 0]) rfl (fun _ => rfl) ?_
      exact pr_e rfl (fun _ => rfl) ⟨rfl, rfl⟩
    show px_T _ _ _ _ (1818, [(5, .int 1), (4, .int 0), (3, .ref 164), (2, .ref 136), (1, .ref 0), (0, .retAddr 0)], [.int 0], _) _ _ _
    refine pt_s (pc1 := 1820) (lv1 := [(6, .int 0), (5, .int 1), (4, .int 0), (3, .ref 164), (2, .ref 136), (1, .ref 0), (0, .retAddr 0)]) (st1 := []) rfl rfl (fun _ => rfl) ?_
    refine pt_s (pc1 := 1821) (st1 := [.ref 136]) rfl rfl (fun _ => rfl) ?_
    refine pt_callv (N := pm_X10_thrown) (as := [.ref 136]) (rest := []) (f := 2047) (l := 83980) (c1 := 0) (k1 := 0) (c2 := 599836) (k2 := 7274189) (v := some (.int 1)) (h1 := ph_15) rfl rfl (fun ex => px_inv_hs ex rfl rfl rfl pg_21 rfl rfl rfl rfl) ?_ (Nat.le_of_ble_eq_true rfl) (Nat.le_of_ble_eq_true rfl) ?_
    · refine px_C_of rfl ?_
      refine pr_s (pc1 := 1) (st1 := [.ref 136]) rfl (fun _ => rfl) ?_
      refine pr_getf (pc1 := 4) (v := .int 1) rfl rfl pg_21 rfl rfl ?_
      exact pr_e rfl (fun _ => rfl) ⟨rfl, rfl⟩
    show px_T _ _ _ _ (1824, [(6, .int 0), (5, .int 1), (4, .int 0), (3, .ref 164), (2, .ref 136), (1, .ref 0), (0, .retAddr 0)], [.int 1], _) _ _ _
    refine pt_s (pc1 := 1826) (st1 := [.int 1, .int 1]) rfl rfl (fun _ => rfl) ?_
    refine pt_bt (t := 1831) (off := 5) (bb := decide ((1 : Int32) = 1)) (st1 := []) rfl rfl rfl rfl rfl (by decide) ?_
    refine pt_s (pc1 := 1833) (st1 := [.int 1]) rfl rfl (fun _ => rfl) ?_
    refine pt_bt (t := 1855) (off := 22) (bb := !decide ((1 : Int32) = 0)) (st1 := []) rfl rfl rfl rfl rfl (px_not_t (by decide)) ?_
    refine pt_s (pc1 := 2771) (st1 := []) rfl rfl (fun _ => rfl) ?_
    refine pt_s (pc1 := 2774) (lv1 := [(4, .int 6), (6, .int 0), (5, .int 1), (3, .ref 164), (2, .ref 136), (1, .ref 0), (0, .retAddr 0)]) (st1 := []) rfl rfl (fun _ => rfl) ?_
    refine pt_s (pc1 := 23) (st1 := []) rfl rfl (fun _ => rfl) ?_
    refine pt_s (pc1 := 25) (st1 := [.int 6]) rfl rfl (fun _ => rfl) ?_
    refine pt_s (pc1 := 26) (st1 := [.retAddr 0, .int 6]) rfl rfl (fun _ => rfl) ?_
    refine pt_s (pc1 := 27) (st1 := [.int 6, .int 6]) rfl rfl (fun _ => rfl) ?_
    refine pt_s (pc1 := 29) (st1 := [.int 6, .int 6, .int 6]) rfl rfl (fun _ => rfl) ?_
    refine pt_s (pc1 := 30) (st1 := [.int 0, .int 6]) rfl rfl (fun _ => rfl) ?_
    refine pt_bt (t := 2777) (off := 2747) (bb := decide ((0 : Int32) < (6 : Int32))) (st1 := []) rfl rfl rfl rfl rfl (by decide) ?_
    refine pt_s (pc1 := 2778) (st1 := [.int 1]) rfl rfl (fun _ => rfl) ?_
    exact pt_e rfl ⟨rfl, (rfl : px_ins pm_law 2778 = some (.ireturn, 1))⟩
  · have ha1 : 0 ≤ a1.toInt ∧ a1.toInt ≤ 2147483647 := ⟨by omega, ha1.2⟩
    refine pt_s (pc1 := 1795) (st1 := []) rfl rfl (fun _ => rfl) ?_
    refine pt_s (pc1 := 1796) (st1 := [.ref 0]) rfl rfl (fun _ => rfl) ?_
    refine pt_s (pc1 := 1797) (st1 := [.retAddr 0, .ref 0]) rfl rfl (fun _ => rfl) ?_
    refine pt_s (pc1 := 1799) (st1 := [.int 0, .retAddr 0, .ref 0]) rfl rfl (fun _ => rfl) ?_
    refine pt_s (pc1 := 1800) (st1 := [.int 1, .int 0, .retAddr 0, .ref 0]) rfl rfl (fun _ => rfl) ?_
    refine pt_s (pc1 := 1801) (st1 := [.int 1, .retAddr 0, .ref 0]) rfl rfl (fun _ => rfl) ?_
    refine pt_s (pc1 := 1802) (st1 := [.int a1, .ref 0]) rfl rfl (fun _ => rfl) ?_
    refine pt_s (pc1 := 1803) (st1 := [.ref 164, .int a1, .ref 0]) rfl rfl (fun _ => rfl) ?_
    refine pt_callv (N := pm_L_isStated) (as := [.ref 0, .int a1, .ref 164]) (rest := []) (f := 2047) (l := 83977) (c1 := 1) (k1 := 6) (c2 := 599836) (k2 := 7274189) (v := some (.int 1)) (h1 := ph_14) rfl rfl (fun _ => rfl) ?_ (Nat.le_of_ble_eq_true rfl) (Nat.le_of_ble_eq_true rfl) ?_
    · refine px_C_of rfl ?_
      refine pr_s (pc1 := 1) (st1 := [.ref 164]) rfl (fun _ => rfl) ?_
      refine pr_s (pc1 := 2) (st1 := [.int 0, .ref 164]) rfl (fun _ => rfl) ?_
      refine pr_s (pc1 := 3) (st1 := [.ref 0, .int 0, .ref 164]) rfl (fun _ => rfl) ?_
      refine pr_s (pc1 := 4) (st1 := [.int a1, .ref 0, .int 0, .ref 164]) rfl (fun _ => rfl) ?_
      refine pr_callx (N := pm_X6_isStated) (as := [.ref 0, .int a1]) (rest := [.int 0, .ref 164]) (f := 2046) (l := 83956) (c1 := 1) (k1 := 6) (c2 := 0) (k2 := 0) (E := 11) (h1 := ph_14) (a := 19) (y1 := 3) (y2 := 1) rfl (fun ex => px_inv_hs ex rfl rfl rfl pg_0 rfl rfl rfl rfl) ?_ (Nat.le_of_ble_eq_true rfl) (Nat.le_of_ble_eq_true rfl) rfl rfl rfl rfl ?_
      · refine px_C_of rfl ?_
        refine pr_s (pc1 := 1) (st1 := [.ref 0]) rfl (fun _ => rfl) ?_
        refine pr_getf (pc1 := 4) (v := .ref 92) rfl rfl pg_0 rfl rfl ?_
        refine pr_getf (pc1 := 7) (v := .ref 93) rfl rfl pg_22 rfl rfl ?_
        refine pr_getf (pc1 := 10) (v := .ref 95) rfl rfl pg_23 rfl rfl ?_
        refine pr_s (pc1 := 11) (st1 := [.ref 0, .ref 95]) rfl (fun _ => rfl) ?_
        refine pr_s (pc1 := 12) (st1 := [.int a1, .ref 0, .ref 95]) rfl (fun _ => rfl) ?_
        refine pr_callo (N := pm_X6_needFact) (as := [.ref 0, .int a1]) (rest := [.ref 95]) (f := 2045) (l := 83934) (E := 11) (h1 := ph_14) rfl (fun ex => px_inv_hs ex rfl rfl rfl pg_0 rfl rfl rfl rfl) ?_ rfl ⟨rfl, rfl⟩
        · refine px_C_of rfl ?_
          refine pr_s (pc1 := 1) (st1 := [.ref 0]) rfl (fun _ => rfl) ?_
          refine pr_getf (pc1 := 4) (v := .ref 92) rfl rfl pg_0 rfl rfl ?_
          refine pr_getf (pc1 := 7) (v := .ref 93) rfl rfl pg_22 rfl rfl ?_
          refine pr_s (pc1 := 8) (st1 := [.int a1, .ref 93]) rfl (fun _ => rfl) ?_
          refine pr_callv (N := pm_X2_placeOf) (as := [.ref 93, .int a1]) (rest := []) (f := 2044) (l := 83912) (c1 := 0) (k1 := 0) (c2 := 1) (k2 := 6) (v := some (.int (-1))) (h1 := px_hs) rfl (fun ex => px_inv_hs ex rfl rfl rfl pg_23 rfl rfl rfl rfl) ?_ (Nat.le_of_ble_eq_true rfl) (Nat.le_of_ble_eq_true rfl) ?_
          · refine px_C_of rfl ?_
            refine pr_s (pc1 := 1) (st1 := [.int a1]) rfl (fun _ => rfl) ?_
            refine pr_bf (t := 12) (off := 11) (bb := decide (a1 < 0)) (st1 := []) rfl rfl rfl rfl (pb_ltF ha1.1 (show (0 : Int32).toInt ≤ 0 by decide) (by decide)) ?_
            refine pr_s (pc1 := 5) (st1 := [.int a1]) rfl (fun _ => rfl) ?_
            refine pr_s (pc1 := 6) (st1 := [.ref 93, .int a1]) rfl (fun _ => rfl) ?_
            refine pr_getf (pc1 := 9) (v := .int 0) rfl rfl pg_23 rfl rfl ?_
            refine pr_bf (t := 14) (off := 5) (bb := decide (a1 < 0)) (st1 := []) rfl rfl rfl rfl (pb_ltF ha1.1 (show (0 : Int32).toInt ≤ 0 by decide) (by decide)) ?_
            refine pr_s (pc1 := 13) (st1 := [.int (-1)]) rfl (fun _ => rfl) ?_
            exact pr_e rfl (fun _ => rfl) ⟨rfl, rfl⟩
          show px_R _ _ _ _ (11, [(0, .ref 0), (1, .int a1)], [.int (-1)], _) _ _ _
          refine pr_s (pc1 := 12) (lv1 := [(2, .int (-1)), (0, .ref 0), (1, .int a1)]) (st1 := []) rfl (fun _ => rfl) ?_
          refine pr_s (pc1 := 13) (st1 := [.int (-1)]) rfl (fun _ => rfl) ?_
          refine pr_bf (t := 27) (off := 14) (bb := decide ((0 : Int32) ≤ ((-1) : Int32))) (st1 := []) rfl rfl rfl rfl (by decide) ?_
          refine pr_mh (z1 := 1) (z2 := 6) (c1 := 0) (k1 := 0) (pc1 := 26) (n := 165) (r := []) (h1 := ph_14) (es := fun n => [.inr (11, [])]) rfl (fun _ => rfl) pl_0 rfl (Nat.le_of_ble_eq_true rfl) (Nat.le_of_ble_eq_true rfl) ?_
          exact pr_e rfl (fun _ => rfl) ⟨rfl, rfl⟩
      show px_R _ _ _ _ (20, [(0, .ref 0), (1, .int a1), (2, .ref 164)], [], _) _ _ _
      refine pr_s (pc1 := 21) (st1 := [.int 1]) rfl (fun _ => rfl) ?_
      exact pr_e rfl (fun _ => rfl) ⟨rfl, rfl⟩
    show px_T _ _ _ _ (1806, [(4, .int 0), (3, .ref 164), (2, .ref 136), (1, .ref 0), (0, .retAddr 0)], [.int 1], _) _ _ _
    refine pt_s (pc1 := 1808) (lv1 := [(5, .int 1), (4, .int 0), (3, .ref 164), (2, .ref 136), (1, .ref 0), (0, .retAddr 0)]) (st1 := []) rfl rfl (fun _ => rfl) ?_
    refine pt_s (pc1 := 1809) (st1 := [.ref 136]) rfl rfl (fun _ => rfl) ?_
    refine pt_s (pc1 := 1810) (st1 := [.retAddr 0, .ref 136]) rfl rfl (fun _ => rfl) ?_
    refine pt_s (pc1 := 1812) (st1 := [.int 0, .retAddr 0, .ref 136]) rfl rfl (fun _ => rfl) ?_
    refine pt_s (pc1 := 1813) (st1 := [.int 1, .int 0, .retAddr 0, .ref 136]) rfl rfl (fun _ => rfl) ?_
    refine pt_s (pc1 := 1814) (st1 := [.int 1, .retAddr 0, .ref 136]) rfl rfl (fun _ => rfl) ?_
    refine pt_s (pc1 := 1815) (st1 := [.int a1, .ref 136]) rfl rfl (fun _ => rfl) ?_
    refine pt_callv (N := pm_X10_isStated) (as := [.ref 136, .int a1]) (rest := []) (f := 2047) (l := 83979) (c1 := 0) (k1 := 0) (c2 := 599836) (k2 := 7274189) (v := some (.int 0)) (h1 := ph_15) rfl rfl (fun ex => px_inv_hs ex rfl rfl rfl pg_20 rfl rfl rfl rfl) ?_ (Nat.le_of_ble_eq_true rfl) (Nat.le_of_ble_eq_true rfl) ?_
    · refine px_C_of rfl ?_
      refine pr_s (pc1 := 1) (st1 := [.ref 136]) rfl (fun _ => rfl) ?_
      refine pr_s (pc1 := 2) (st1 := [.int a1, .ref 136]) rfl (fun _ => rfl) ?_
      refine pr_callv (N := pm_X10_isFact) (as := [.ref 136, .int a1]) (rest := []) (f := 2046) (l := 83958) (c1 := 0) (k1 := 0) (c2 := 0) (k2 := 0) (v := some (.int 0)) (h1 := ph_15) rfl (fun ex => px_inv_hs ex rfl rfl rfl pg_20 rfl rfl rfl rfl) ?_ (Nat.le_of_ble_eq_true rfl) (Nat.le_of_ble_eq_true rfl) ?_
      · refine px_C_of rfl ?_
        refine pr_s (pc1 := 1) (st1 := [.ref 136]) rfl (fun _ => rfl) ?_
        refine pr_s (pc1 := 2) (st1 := [.ref 136, .ref 136]) rfl (fun _ => rfl) ?_
        refine pr_getf (pc1 := 5) (v := .ref 138) rfl rfl pg_20 rfl rfl ?_
        refine pr_s (pc1 := 6) (st1 := [.int a1, .ref 138, .ref 136]) rfl (fun _ => rfl) ?_
        refine pr_callv (N := pm_X9_place) (as := [.ref 138, .int a1]) (rest := [.ref 136]) (f := 2045) (l := 83936) (c1 := 0) (k1 := 0) (c2 := 0) (k2 := 0) (v := some (.int (-1))) (h1 := ph_14) rfl (fun ex => px_inv_hs ex rfl rfl rfl pg_506 rfl rfl rfl rfl) ?_ (Nat.le_of_ble_eq_true rfl) (Nat.le_of_ble_eq_true rfl) ?_
        · refine px_C_of rfl ?_
          refine pr_s (pc1 := 1) (st1 := [.ref 138]) rfl (fun _ => rfl) ?_
          refine pr_getf (pc1 := 4) (v := .ref 141) rfl rfl pg_506 rfl rfl ?_
          refine pr_getf (pc1 := 7) (v := .int 0) rfl rfl pg_507 rfl rfl ?_
          refine pr_s (pc1 := 8) (st1 := [.int 1, .int 0]) rfl (fun _ => rfl) ?_
          refine pr_s (pc1 := 9) (st1 := [.int (-1)]) rfl (fun _ => rfl) ?_
          refine pr_s (pc1 := 10) (lv1 := [(2, .int (-1)), (0, .ref 138), (1, .int a1)]) (st1 := []) rfl (fun _ => rfl) ?_
          refine pr_s (pc1 := 11) (st1 := [.int (-1)]) rfl (fun _ => rfl) ?_
          refine pr_bt (t := 33) (off := 22) (bb := decide (((-1) : Int32) < 0)) (st1 := []) rfl rfl rfl rfl (by decide) ?_
          refine pr_s (pc1 := 34) (st1 := [.int (-1)]) rfl (fun _ => rfl) ?_
          exact pr_e rfl (fun _ => rfl) ⟨rfl, rfl⟩
        show px_R _ _ _ _ (9, [(0, .ref 136), (1, .int a1)], [.int (-1), .ref 136], _) _ _ _
        refine pr_s (pc1 := 10) (st1 := [.int (-1), .int (-1), .ref 136]) rfl (fun _ => rfl) ?_
        refine pr_bt (t := 17) (off := 7) (bb := decide (((-1) : Int32) = (-1))) (st1 := [.ref 136]) rfl rfl rfl rfl (by decide) ?_
        refine pr_s (pc1 := 18) (st1 := [.int 1, .ref 136]) rfl (fun _ => rfl) ?_
        refine pr_putf (pc1 := 21) (h1 := ph_15) rfl rfl pg_20 rfl rfl rfl rfl rfl rfl rfl ?_
        refine pr_s (pc1 := 22) (st1 := [.ref 136]) rfl (fun _ => rfl) ?_
        refine pr_getf (pc1 := 25) (v := .int 1) rfl rfl pg_21 rfl rfl ?_
        refine pr_bt (t := 32) (off := 7) (bb := !decide ((1 : Int32) = 0)) (st1 := []) rfl rfl rfl rfl (px_not_t (by decide)) ?_
        refine pr_s (pc1 := 33) (st1 := [.int 0]) rfl (fun _ => rfl) ?_
        exact pr_e rfl (fun _ => rfl) ⟨rfl, rfl⟩
      show px_R _ _ _ _ (5, [(0, .ref 136), (1, .int a1)], [.int 0], _) _ _ _
      refine pr_bt (t := 35) (off := 30) (bb := decide ((0 : Int32) = 0)) (st1 := []) rfl rfl rfl rfl (by decide) ?_
      refine pr_s (pc1 := 36) (st1 := [.int 0]) rfl (fun _ => rfl) ?_
      exact pr_e rfl (fun _ => rfl) ⟨rfl, rfl⟩
    show px_T _ _ _ _ (1818, [(5, .int 1), (4, .int 0), (3, .ref 164), (2, .ref 136), (1, .ref 0), (0, .retAddr 0)], [.int 0], _) _ _ _
    refine pt_s (pc1 := 1820) (lv1 := [(6, .int 0), (5, .int 1), (4, .int 0), (3, .ref 164), (2, .ref 136), (1, .ref 0), (0, .retAddr 0)]) (st1 := []) rfl rfl (fun _ => rfl) ?_
    refine pt_s (pc1 := 1821) (st1 := [.ref 136]) rfl rfl (fun _ => rfl) ?_
    refine pt_callv (N := pm_X10_thrown) (as := [.ref 136]) (rest := []) (f := 2047) (l := 83980) (c1 := 0) (k1 := 0) (c2 := 599836) (k2 := 7274189) (v := some (.int 1)) (h1 := ph_15) rfl rfl (fun ex => px_inv_hs ex rfl rfl rfl pg_21 rfl rfl rfl rfl) ?_ (Nat.le_of_ble_eq_true rfl) (Nat.le_of_ble_eq_true rfl) ?_
    · refine px_C_of rfl ?_
      refine pr_s (pc1 := 1) (st1 := [.ref 136]) rfl (fun _ => rfl) ?_
      refine pr_getf (pc1 := 4) (v := .int 1) rfl rfl pg_21 rfl rfl ?_
      exact pr_e rfl (fun _ => rfl) ⟨rfl, rfl⟩
    show px_T _ _ _ _ (1824, [(6, .int 0), (5, .int 1), (4, .int 0), (3, .ref 164), (2, .ref 136), (1, .ref 0), (0, .retAddr 0)], [.int 1], _) _ _ _
    refine pt_s (pc1 := 1826) (st1 := [.int 1, .int 1]) rfl rfl (fun _ => rfl) ?_
    refine pt_bt (t := 1831) (off := 5) (bb := decide ((1 : Int32) = 1)) (st1 := []) rfl rfl rfl rfl rfl (by decide) ?_
    refine pt_s (pc1 := 1833) (st1 := [.int 1]) rfl rfl (fun _ => rfl) ?_
    refine pt_bt (t := 1855) (off := 22) (bb := !decide ((1 : Int32) = 0)) (st1 := []) rfl rfl rfl rfl rfl (px_not_t (by decide)) ?_
    refine pt_s (pc1 := 2771) (st1 := []) rfl rfl (fun _ => rfl) ?_
    refine pt_s (pc1 := 2774) (lv1 := [(4, .int 6), (6, .int 0), (5, .int 1), (3, .ref 164), (2, .ref 136), (1, .ref 0), (0, .retAddr 0)]) (st1 := []) rfl rfl (fun _ => rfl) ?_
    refine pt_s (pc1 := 23) (st1 := []) rfl rfl (fun _ => rfl) ?_
    refine pt_s (pc1 := 25) (st1 := [.int 6]) rfl rfl (fun _ => rfl) ?_
    refine pt_s (pc1 := 26) (st1 := [.retAddr 0, .int 6]) rfl rfl (fun _ => rfl) ?_
    refine pt_s (pc1 := 27) (st1 := [.int 6, .int 6]) rfl rfl (fun _ => rfl) ?_
    refine pt_s (pc1 := 29) (st1 := [.int 6, .int 6, .int 6]) rfl rfl (fun _ => rfl) ?_
    refine pt_s (pc1 := 30) (st1 := [.int 0, .int 6]) rfl rfl (fun _ => rfl) ?_
    refine pt_bt (t := 2777) (off := 2747) (bb := decide ((0 : Int32) < (6 : Int32))) (st1 := []) rfl rfl rfl rfl rfl (by decide) ?_
    refine pt_s (pc1 := 2778) (st1 := [.int 1]) rfl rfl (fun _ => rfl) ?_
    exact pt_e rfl ⟨rfl, (rfl : px_ins pm_law 2778 = some (.ireturn, 1))⟩
set_option maxRecDepth 100000 in
set_option maxHeartbeats 40000000 in
theorem px_op_27 (a0 a1 a2 a3 a4 a5 : Int32) : px_T (some [a0, a1, a2, a3, a4, a5]) pm_law 2048 84000 (40, [(4, .int 0), (3, .ref 164), (2, .ref 136), (1, .ref 0), (0, .retAddr 0)], [.int 27], px_hs) 599837 7274195 (fun s1 => s1.2.2.1 = [.int 1] ∧ px_ins pm_law s1.1 = some (.ireturn, 1)) := by
  have ha1 : (-2147483648) ≤ a1.toInt ∧ a1.toInt ≤ 2147483647 := ⟨Int32.le_toInt a1, Int32.toInt_le a1⟩
  by_cases hs : a1.toInt < 0
  · have ha1 : (-2147483648) ≤ a1.toInt ∧ a1.toInt ≤ (-1) := ⟨ha1.1, by omega⟩
    refine pt_s (pc1 := 1858) (st1 := []) rfl rfl (fun _ => rfl) ?_
    refine pt_s (pc1 := 1859) (st1 := [.ref 0]) rfl rfl (fun _ => rfl) ?_
    refine pt_s (pc1 := 1860) (st1 := [.retAddr 0, .ref 0]) rfl rfl (fun _ => rfl) ?_
    refine pt_s (pc1 := 1862) (st1 := [.int 0, .retAddr 0, .ref 0]) rfl rfl (fun _ => rfl) ?_
    refine pt_s (pc1 := 1863) (st1 := [.int 1, .int 0, .retAddr 0, .ref 0]) rfl rfl (fun _ => rfl) ?_
    refine pt_s (pc1 := 1864) (st1 := [.int 1, .retAddr 0, .ref 0]) rfl rfl (fun _ => rfl) ?_
    refine pt_s (pc1 := 1865) (st1 := [.int a1, .ref 0]) rfl rfl (fun _ => rfl) ?_
    refine pt_s (pc1 := 1866) (st1 := [.ref 164, .int a1, .ref 0]) rfl rfl (fun _ => rfl) ?_
    refine pt_callv (N := pm_L_supports) (as := [.ref 0, .int a1, .ref 164]) (rest := []) (f := 2047) (l := 83977) (c1 := 1) (k1 := 6) (c2 := 599836) (k2 := 7274189) (v := some (.int 1)) (h1 := ph_14) rfl rfl (fun _ => rfl) ?_ (Nat.le_of_ble_eq_true rfl) (Nat.le_of_ble_eq_true rfl) ?_
    · refine px_C_of rfl ?_
      refine pr_s (pc1 := 1) (st1 := [.ref 164]) rfl (fun _ => rfl) ?_
      refine pr_s (pc1 := 2) (st1 := [.int 0, .ref 164]) rfl (fun _ => rfl) ?_
      refine pr_s (pc1 := 3) (st1 := [.ref 0, .int 0, .ref 164]) rfl (fun _ => rfl) ?_
      refine pr_s (pc1 := 4) (st1 := [.int a1, .ref 0, .int 0, .ref 164]) rfl (fun _ => rfl) ?_
      refine pr_callx (N := pm_X6_supports) (as := [.ref 0, .int a1]) (rest := [.int 0, .ref 164]) (f := 2046) (l := 83956) (c1 := 1) (k1 := 6) (c2 := 0) (k2 := 0) (E := 11) (h1 := ph_14) (a := 12) (y1 := 3) (y2 := 1) rfl (fun ex => px_inv_hs ex rfl rfl rfl pg_0 rfl rfl rfl rfl) ?_ (Nat.le_of_ble_eq_true rfl) (Nat.le_of_ble_eq_true rfl) rfl rfl rfl rfl ?_
      · refine px_C_of rfl ?_
        refine pr_s (pc1 := 1) (st1 := [.ref 0]) rfl (fun _ => rfl) ?_
        refine pr_s (pc1 := 2) (st1 := [.int a1, .ref 0]) rfl (fun _ => rfl) ?_
        refine pr_callo (N := pm_X6_needFact) (as := [.ref 0, .int a1]) (rest := []) (f := 2045) (l := 83934) (E := 11) (h1 := ph_14) rfl (fun ex => px_inv_hs ex rfl rfl rfl pg_0 rfl rfl rfl rfl) ?_ rfl ⟨rfl, rfl⟩
        · refine px_C_of rfl ?_
          refine pr_s (pc1 := 1) (st1 := [.ref 0]) rfl (fun _ => rfl) ?_
          refine pr_getf (pc1 := 4) (v := .ref 92) rfl rfl pg_0 rfl rfl ?_
          refine pr_getf (pc1 := 7) (v := .ref 93) rfl rfl pg_22 rfl rfl ?_
          refine pr_s (pc1 := 8) (st1 := [.int a1, .ref 93]) rfl (fun _ => rfl) ?_
          refine pr_callv (N := pm_X2_placeOf) (as := [.ref 93, .int a1]) (rest := []) (f := 2044) (l := 83912) (c1 := 0) (k1 := 0) (c2 := 1) (k2 := 6) (v := some (.int (-1))) (h1 := px_hs) rfl (fun ex => px_inv_hs ex rfl rfl rfl pg_23 rfl rfl rfl rfl) ?_ (Nat.le_of_ble_eq_true rfl) (Nat.le_of_ble_eq_true rfl) ?_
          · refine px_C_of rfl ?_
            refine pr_s (pc1 := 1) (st1 := [.int a1]) rfl (fun _ => rfl) ?_
            refine pr_bt (t := 12) (off := 11) (bb := decide (a1 < 0)) (st1 := []) rfl rfl rfl rfl (pb_ltT ha1.2 (show 0 ≤ (0 : Int32).toInt by decide) (by decide)) ?_
            refine pr_s (pc1 := 13) (st1 := [.int (-1)]) rfl (fun _ => rfl) ?_
            exact pr_e rfl (fun _ => rfl) ⟨rfl, rfl⟩
          show px_R _ _ _ _ (11, [(0, .ref 0), (1, .int a1)], [.int (-1)], _) _ _ _
          refine pr_s (pc1 := 12) (lv1 := [(2, .int (-1)), (0, .ref 0), (1, .int a1)]) (st1 := []) rfl (fun _ => rfl) ?_
          refine pr_s (pc1 := 13) (st1 := [.int (-1)]) rfl (fun _ => rfl) ?_
          refine pr_bf (t := 27) (off := 14) (bb := decide ((0 : Int32) ≤ ((-1) : Int32))) (st1 := []) rfl rfl rfl rfl (by decide) ?_
          refine pr_mh (z1 := 1) (z2 := 6) (c1 := 0) (k1 := 0) (pc1 := 26) (n := 165) (r := []) (h1 := ph_14) (es := fun n => [.inr (11, [])]) rfl (fun _ => rfl) pl_0 rfl (Nat.le_of_ble_eq_true rfl) (Nat.le_of_ble_eq_true rfl) ?_
          exact pr_e rfl (fun _ => rfl) ⟨rfl, rfl⟩
      show px_R _ _ _ _ (13, [(0, .ref 0), (1, .int a1), (2, .ref 164)], [], _) _ _ _
      refine pr_s (pc1 := 14) (st1 := [.int 1]) rfl (fun _ => rfl) ?_
      exact pr_e rfl (fun _ => rfl) ⟨rfl, rfl⟩
    show px_T _ _ _ _ (1869, [(4, .int 0), (3, .ref 164), (2, .ref 136), (1, .ref 0), (0, .retAddr 0)], [.int 1], _) _ _ _
    refine pt_s (pc1 := 1871) (lv1 := [(5, .int 1), (4, .int 0), (3, .ref 164), (2, .ref 136), (1, .ref 0), (0, .retAddr 0)]) (st1 := []) rfl rfl (fun _ => rfl) ?_
    refine pt_s (pc1 := 1872) (st1 := [.ref 136]) rfl rfl (fun _ => rfl) ?_
    refine pt_s (pc1 := 1873) (st1 := [.retAddr 0, .ref 136]) rfl rfl (fun _ => rfl) ?_
    refine pt_s (pc1 := 1875) (st1 := [.int 0, .retAddr 0, .ref 136]) rfl rfl (fun _ => rfl) ?_
    refine pt_s (pc1 := 1876) (st1 := [.int 1, .int 0, .retAddr 0, .ref 136]) rfl rfl (fun _ => rfl) ?_
    refine pt_s (pc1 := 1877) (st1 := [.int 1, .retAddr 0, .ref 136]) rfl rfl (fun _ => rfl) ?_
    refine pt_s (pc1 := 1878) (st1 := [.int a1, .ref 136]) rfl rfl (fun _ => rfl) ?_
    refine pt_callv (N := pm_X10_supports) (as := [.ref 136, .int a1]) (rest := []) (f := 2047) (l := 83979) (c1 := 0) (k1 := 0) (c2 := 599836) (k2 := 7274189) (v := some (.int 0)) (h1 := ph_15) rfl rfl (fun ex => px_inv_hs ex rfl rfl rfl pg_20 rfl rfl rfl rfl) ?_ (Nat.le_of_ble_eq_true rfl) (Nat.le_of_ble_eq_true rfl) ?_
    · refine px_C_of rfl ?_
      refine pr_s (pc1 := 1) (st1 := [.ref 136]) rfl (fun _ => rfl) ?_
      refine pr_s (pc1 := 2) (st1 := [.int a1, .ref 136]) rfl (fun _ => rfl) ?_
      refine pr_callv (N := pm_X10_isFact) (as := [.ref 136, .int a1]) (rest := []) (f := 2046) (l := 83958) (c1 := 0) (k1 := 0) (c2 := 0) (k2 := 0) (v := some (.int 0)) (h1 := ph_15) rfl (fun ex => px_inv_hs ex rfl rfl rfl pg_20 rfl rfl rfl rfl) ?_ (Nat.le_of_ble_eq_true rfl) (Nat.le_of_ble_eq_true rfl) ?_
      · refine px_C_of rfl ?_
        refine pr_s (pc1 := 1) (st1 := [.ref 136]) rfl (fun _ => rfl) ?_
        refine pr_s (pc1 := 2) (st1 := [.ref 136, .ref 136]) rfl (fun _ => rfl) ?_
        refine pr_getf (pc1 := 5) (v := .ref 138) rfl rfl pg_20 rfl rfl ?_
        refine pr_s (pc1 := 6) (st1 := [.int a1, .ref 138, .ref 136]) rfl (fun _ => rfl) ?_
        refine pr_callv (N := pm_X9_place) (as := [.ref 138, .int a1]) (rest := [.ref 136]) (f := 2045) (l := 83936) (c1 := 0) (k1 := 0) (c2 := 0) (k2 := 0) (v := some (.int (-1))) (h1 := ph_14) rfl (fun ex => px_inv_hs ex rfl rfl rfl pg_506 rfl rfl rfl rfl) ?_ (Nat.le_of_ble_eq_true rfl) (Nat.le_of_ble_eq_true rfl) ?_
        · refine px_C_of rfl ?_
          refine pr_s (pc1 := 1) (st1 := [.ref 138]) rfl (fun _ => rfl) ?_
          refine pr_getf (pc1 := 4) (v := .ref 141) rfl rfl pg_506 rfl rfl ?_
          refine pr_getf (pc1 := 7) (v := .int 0) rfl rfl pg_507 rfl rfl ?_
          refine pr_s (pc1 := 8) (st1 := [.int 1, .int 0]) rfl (fun _ => rfl) ?_
          refine pr_s (pc1 := 9) (st1 := [.int (-1)]) rfl (fun _ => rfl) ?_
          refine pr_s (pc1 := 10) (lv1 := [(2, .int (-1)), (0, .ref 138), (1, .int a1)]) (st1 := []) rfl (fun _ => rfl) ?_
          refine pr_s (pc1 := 11) (st1 := [.int (-1)]) rfl (fun _ => rfl) ?_
          refine pr_bt (t := 33) (off := 22) (bb := decide (((-1) : Int32) < 0)) (st1 := []) rfl rfl rfl rfl (by decide) ?_
          refine pr_s (pc1 := 34) (st1 := [.int (-1)]) rfl (fun _ => rfl) ?_
          exact pr_e rfl (fun _ => rfl) ⟨rfl, rfl⟩
        show px_R _ _ _ _ (9, [(0, .ref 136), (1, .int a1)], [.int (-1), .ref 136], _) _ _ _
        refine pr_s (pc1 := 10) (st1 := [.int (-1), .int (-1), .ref 136]) rfl (fun _ => rfl) ?_
        refine pr_bt (t := 17) (off := 7) (bb := decide (((-1) : Int32) = (-1))) (st1 := [.ref 136]) rfl rfl rfl rfl (by decide) ?_
        refine pr_s (pc1 := 18) (st1 := [.int 1, .ref 136]) rfl (fun _ => rfl) ?_
        refine pr_putf (pc1 := 21) (h1 := ph_15) rfl rfl pg_20 rfl rfl rfl rfl rfl rfl rfl ?_
        refine pr_s (pc1 := 22) (st1 := [.ref 136]) rfl (fun _ => rfl) ?_
        refine pr_getf (pc1 := 25) (v := .int 1) rfl rfl pg_21 rfl rfl ?_
        refine pr_bt (t := 32) (off := 7) (bb := !decide ((1 : Int32) = 0)) (st1 := []) rfl rfl rfl rfl (px_not_t (by decide)) ?_
        refine pr_s (pc1 := 33) (st1 := [.int 0]) rfl (fun _ => rfl) ?_
        exact pr_e rfl (fun _ => rfl) ⟨rfl, rfl⟩
      show px_R _ _ _ _ (5, [(0, .ref 136), (1, .int a1)], [.int 0], _) _ _ _
      refine pr_bt (t := 19) (off := 14) (bb := decide ((0 : Int32) = 0)) (st1 := []) rfl rfl rfl rfl (by decide) ?_
      refine pr_s (pc1 := 20) (st1 := [.int 0]) rfl (fun _ => rfl) ?_
      exact pr_e rfl (fun _ => rfl) ⟨rfl, rfl⟩
    show px_T _ _ _ _ (1881, [(5, .int 1), (4, .int 0), (3, .ref 164), (2, .ref 136), (1, .ref 0), (0, .retAddr 0)], [.int 0], _) _ _ _
    refine pt_s (pc1 := 1883) (lv1 := [(6, .int 0), (5, .int 1), (4, .int 0), (3, .ref 164), (2, .ref 136), (1, .ref 0), (0, .retAddr 0)]) (st1 := []) rfl rfl (fun _ => rfl) ?_
    refine pt_s (pc1 := 1884) (st1 := [.ref 136]) rfl rfl (fun _ => rfl) ?_
    refine pt_callv (N := pm_X10_thrown) (as := [.ref 136]) (rest := []) (f := 2047) (l := 83980) (c1 := 0) (k1 := 0) (c2 := 599836) (k2 := 7274189) (v := some (.int 1)) (h1 := ph_15) rfl rfl (fun ex => px_inv_hs ex rfl rfl rfl pg_21 rfl rfl rfl rfl) ?_ (Nat.le_of_ble_eq_true rfl) (Nat.le_of_ble_eq_true rfl) ?_
    · refine px_C_of rfl ?_
      refine pr_s (pc1 := 1) (st1 := [.ref 136]) rfl (fun _ => rfl) ?_
      refine pr_getf (pc1 := 4) (v := .int 1) rfl rfl pg_21 rfl rfl ?_
      exact pr_e rfl (fun _ => rfl) ⟨rfl, rfl⟩
    show px_T _ _ _ _ (1887, [(6, .int 0), (5, .int 1), (4, .int 0), (3, .ref 164), (2, .ref 136), (1, .ref 0), (0, .retAddr 0)], [.int 1], _) _ _ _
    refine pt_s (pc1 := 1889) (st1 := [.int 1, .int 1]) rfl rfl (fun _ => rfl) ?_
    refine pt_bt (t := 1894) (off := 5) (bb := decide ((1 : Int32) = 1)) (st1 := []) rfl rfl rfl rfl rfl (by decide) ?_
    refine pt_s (pc1 := 1896) (st1 := [.int 1]) rfl rfl (fun _ => rfl) ?_
    refine pt_bt (t := 1911) (off := 15) (bb := !decide ((1 : Int32) = 0)) (st1 := []) rfl rfl rfl rfl rfl (px_not_t (by decide)) ?_
    refine pt_s (pc1 := 2771) (st1 := []) rfl rfl (fun _ => rfl) ?_
    refine pt_s (pc1 := 2774) (lv1 := [(4, .int 6), (6, .int 0), (5, .int 1), (3, .ref 164), (2, .ref 136), (1, .ref 0), (0, .retAddr 0)]) (st1 := []) rfl rfl (fun _ => rfl) ?_
    refine pt_s (pc1 := 23) (st1 := []) rfl rfl (fun _ => rfl) ?_
    refine pt_s (pc1 := 25) (st1 := [.int 6]) rfl rfl (fun _ => rfl) ?_
    refine pt_s (pc1 := 26) (st1 := [.retAddr 0, .int 6]) rfl rfl (fun _ => rfl) ?_
    refine pt_s (pc1 := 27) (st1 := [.int 6, .int 6]) rfl rfl (fun _ => rfl) ?_
    refine pt_s (pc1 := 29) (st1 := [.int 6, .int 6, .int 6]) rfl rfl (fun _ => rfl) ?_
    refine pt_s (pc1 := 30) (st1 := [.int 0, .int 6]) rfl rfl (fun _ => rfl) ?_
    refine pt_bt (t := 2777) (off := 2747) (bb := decide ((0 : Int32) < (6 : Int32))) (st1 := []) rfl rfl rfl rfl rfl (by decide) ?_
    refine pt_s (pc1 := 2778) (st1 := [.int 1]) rfl rfl (fun _ => rfl) ?_
    exact pt_e rfl ⟨rfl, (rfl : px_ins pm_law 2778 = some (.ireturn, 1))⟩
  · have ha1 : 0 ≤ a1.toInt ∧ a1.toInt ≤ 2147483647 := ⟨by omega, ha1.2⟩
    refine pt_s (pc1 := 1858) (st1 := []) rfl rfl (fun _ => rfl) ?_
    refine pt_s (pc1 := 1859) (st1 := [.ref 0]) rfl rfl (fun _ => rfl) ?_
    refine pt_s (pc1 := 1860) (st1 := [.retAddr 0, .ref 0]) rfl rfl (fun _ => rfl) ?_
    refine pt_s (pc1 := 1862) (st1 := [.int 0, .retAddr 0, .ref 0]) rfl rfl (fun _ => rfl) ?_
    refine pt_s (pc1 := 1863) (st1 := [.int 1, .int 0, .retAddr 0, .ref 0]) rfl rfl (fun _ => rfl) ?_
    refine pt_s (pc1 := 1864) (st1 := [.int 1, .retAddr 0, .ref 0]) rfl rfl (fun _ => rfl) ?_
    refine pt_s (pc1 := 1865) (st1 := [.int a1, .ref 0]) rfl rfl (fun _ => rfl) ?_
    refine pt_s (pc1 := 1866) (st1 := [.ref 164, .int a1, .ref 0]) rfl rfl (fun _ => rfl) ?_
    refine pt_callv (N := pm_L_supports) (as := [.ref 0, .int a1, .ref 164]) (rest := []) (f := 2047) (l := 83977) (c1 := 1) (k1 := 6) (c2 := 599836) (k2 := 7274189) (v := some (.int 1)) (h1 := ph_14) rfl rfl (fun _ => rfl) ?_ (Nat.le_of_ble_eq_true rfl) (Nat.le_of_ble_eq_true rfl) ?_
    · refine px_C_of rfl ?_
      refine pr_s (pc1 := 1) (st1 := [.ref 164]) rfl (fun _ => rfl) ?_
      refine pr_s (pc1 := 2) (st1 := [.int 0, .ref 164]) rfl (fun _ => rfl) ?_
      refine pr_s (pc1 := 3) (st1 := [.ref 0, .int 0, .ref 164]) rfl (fun _ => rfl) ?_
      refine pr_s (pc1 := 4) (st1 := [.int a1, .ref 0, .int 0, .ref 164]) rfl (fun _ => rfl) ?_
      refine pr_callx (N := pm_X6_supports) (as := [.ref 0, .int a1]) (rest := [.int 0, .ref 164]) (f := 2046) (l := 83956) (c1 := 1) (k1 := 6) (c2 := 0) (k2 := 0) (E := 11) (h1 := ph_14) (a := 12) (y1 := 3) (y2 := 1) rfl (fun ex => px_inv_hs ex rfl rfl rfl pg_0 rfl rfl rfl rfl) ?_ (Nat.le_of_ble_eq_true rfl) (Nat.le_of_ble_eq_true rfl) rfl rfl rfl rfl ?_
      · refine px_C_of rfl ?_
        refine pr_s (pc1 := 1) (st1 := [.ref 0]) rfl (fun _ => rfl) ?_
        refine pr_s (pc1 := 2) (st1 := [.int a1, .ref 0]) rfl (fun _ => rfl) ?_
        refine pr_callo (N := pm_X6_needFact) (as := [.ref 0, .int a1]) (rest := []) (f := 2045) (l := 83934) (E := 11) (h1 := ph_14) rfl (fun ex => px_inv_hs ex rfl rfl rfl pg_0 rfl rfl rfl rfl) ?_ rfl ⟨rfl, rfl⟩
        · refine px_C_of rfl ?_
          refine pr_s (pc1 := 1) (st1 := [.ref 0]) rfl (fun _ => rfl) ?_
          refine pr_getf (pc1 := 4) (v := .ref 92) rfl rfl pg_0 rfl rfl ?_
          refine pr_getf (pc1 := 7) (v := .ref 93) rfl rfl pg_22 rfl rfl ?_
          refine pr_s (pc1 := 8) (st1 := [.int a1, .ref 93]) rfl (fun _ => rfl) ?_
          refine pr_callv (N := pm_X2_placeOf) (as := [.ref 93, .int a1]) (rest := []) (f := 2044) (l := 83912) (c1 := 0) (k1 := 0) (c2 := 1) (k2 := 6) (v := some (.int (-1))) (h1 := px_hs) rfl (fun ex => px_inv_hs ex rfl rfl rfl pg_23 rfl rfl rfl rfl) ?_ (Nat.le_of_ble_eq_true rfl) (Nat.le_of_ble_eq_true rfl) ?_
          · refine px_C_of rfl ?_
            refine pr_s (pc1 := 1) (st1 := [.int a1]) rfl (fun _ => rfl) ?_
            refine pr_bf (t := 12) (off := 11) (bb := decide (a1 < 0)) (st1 := []) rfl rfl rfl rfl (pb_ltF ha1.1 (show (0 : Int32).toInt ≤ 0 by decide) (by decide)) ?_
            refine pr_s (pc1 := 5) (st1 := [.int a1]) rfl (fun _ => rfl) ?_
            refine pr_s (pc1 := 6) (st1 := [.ref 93, .int a1]) rfl (fun _ => rfl) ?_
            refine pr_getf (pc1 := 9) (v := .int 0) rfl rfl pg_23 rfl rfl ?_
            refine pr_bf (t := 14) (off := 5) (bb := decide (a1 < 0)) (st1 := []) rfl rfl rfl rfl (pb_ltF ha1.1 (show (0 : Int32).toInt ≤ 0 by decide) (by decide)) ?_
            refine pr_s (pc1 := 13) (st1 := [.int (-1)]) rfl (fun _ => rfl) ?_
            exact pr_e rfl (fun _ => rfl) ⟨rfl, rfl⟩
          show px_R _ _ _ _ (11, [(0, .ref 0), (1, .int a1)], [.int (-1)], _) _ _ _
          refine pr_s (pc1 := 12) (lv1 := [(2, .int (-1)), (0, .ref 0), (1, .int a1)]) (st1 := []) rfl (fun _ => rfl) ?_
          refine pr_s (pc1 := 13) (st1 := [.int (-1)]) rfl (fun _ => rfl) ?_
          refine pr_bf (t := 27) (off := 14) (bb := decide ((0 : Int32) ≤ ((-1) : Int32))) (st1 := []) rfl rfl rfl rfl (by decide) ?_
          refine pr_mh (z1 := 1) (z2 := 6) (c1 := 0) (k1 := 0) (pc1 := 26) (n := 165) (r := []) (h1 := ph_14) (es := fun n => [.inr (11, [])]) rfl (fun _ => rfl) pl_0 rfl (Nat.le_of_ble_eq_true rfl) (Nat.le_of_ble_eq_true rfl) ?_
          exact pr_e rfl (fun _ => rfl) ⟨rfl, rfl⟩
      show px_R _ _ _ _ (13, [(0, .ref 0), (1, .int a1), (2, .ref 164)], [], _) _ _ _
      refine pr_s (pc1 := 14) (st1 := [.int 1]) rfl (fun _ => rfl) ?_
      exact pr_e rfl (fun _ => rfl) ⟨rfl, rfl⟩
    show px_T _ _ _ _ (1869, [(4, .int 0), (3, .ref 164), (2, .ref 136), (1, .ref 0), (0, .retAddr 0)], [.int 1], _) _ _ _
    refine pt_s (pc1 := 1871) (lv1 := [(5, .int 1), (4, .int 0), (3, .ref 164), (2, .ref 136), (1, .ref 0), (0, .retAddr 0)]) (st1 := []) rfl rfl (fun _ => rfl) ?_
    refine pt_s (pc1 := 1872) (st1 := [.ref 136]) rfl rfl (fun _ => rfl) ?_
    refine pt_s (pc1 := 1873) (st1 := [.retAddr 0, .ref 136]) rfl rfl (fun _ => rfl) ?_
    refine pt_s (pc1 := 1875) (st1 := [.int 0, .retAddr 0, .ref 136]) rfl rfl (fun _ => rfl) ?_
    refine pt_s (pc1 := 1876) (st1 := [.int 1, .int 0, .retAddr 0, .ref 136]) rfl rfl (fun _ => rfl) ?_
    refine pt_s (pc1 := 1877) (st1 := [.int 1, .retAddr 0, .ref 136]) rfl rfl (fun _ => rfl) ?_
    refine pt_s (pc1 := 1878) (st1 := [.int a1, .ref 136]) rfl rfl (fun _ => rfl) ?_
    refine pt_callv (N := pm_X10_supports) (as := [.ref 136, .int a1]) (rest := []) (f := 2047) (l := 83979) (c1 := 0) (k1 := 0) (c2 := 599836) (k2 := 7274189) (v := some (.int 0)) (h1 := ph_15) rfl rfl (fun ex => px_inv_hs ex rfl rfl rfl pg_20 rfl rfl rfl rfl) ?_ (Nat.le_of_ble_eq_true rfl) (Nat.le_of_ble_eq_true rfl) ?_
    · refine px_C_of rfl ?_
      refine pr_s (pc1 := 1) (st1 := [.ref 136]) rfl (fun _ => rfl) ?_
      refine pr_s (pc1 := 2) (st1 := [.int a1, .ref 136]) rfl (fun _ => rfl) ?_
      refine pr_callv (N := pm_X10_isFact) (as := [.ref 136, .int a1]) (rest := []) (f := 2046) (l := 83958) (c1 := 0) (k1 := 0) (c2 := 0) (k2 := 0) (v := some (.int 0)) (h1 := ph_15) rfl (fun ex => px_inv_hs ex rfl rfl rfl pg_20 rfl rfl rfl rfl) ?_ (Nat.le_of_ble_eq_true rfl) (Nat.le_of_ble_eq_true rfl) ?_
      · refine px_C_of rfl ?_
        refine pr_s (pc1 := 1) (st1 := [.ref 136]) rfl (fun _ => rfl) ?_
        refine pr_s (pc1 := 2) (st1 := [.ref 136, .ref 136]) rfl (fun _ => rfl) ?_
        refine pr_getf (pc1 := 5) (v := .ref 138) rfl rfl pg_20 rfl rfl ?_
        refine pr_s (pc1 := 6) (st1 := [.int a1, .ref 138, .ref 136]) rfl (fun _ => rfl) ?_
        refine pr_callv (N := pm_X9_place) (as := [.ref 138, .int a1]) (rest := [.ref 136]) (f := 2045) (l := 83936) (c1 := 0) (k1 := 0) (c2 := 0) (k2 := 0) (v := some (.int (-1))) (h1 := ph_14) rfl (fun ex => px_inv_hs ex rfl rfl rfl pg_506 rfl rfl rfl rfl) ?_ (Nat.le_of_ble_eq_true rfl) (Nat.le_of_ble_eq_true rfl) ?_
        · refine px_C_of rfl ?_
          refine pr_s (pc1 := 1) (st1 := [.ref 138]) rfl (fun _ => rfl) ?_
          refine pr_getf (pc1 := 4) (v := .ref 141) rfl rfl pg_506 rfl rfl ?_
          refine pr_getf (pc1 := 7) (v := .int 0) rfl rfl pg_507 rfl rfl ?_
          refine pr_s (pc1 := 8) (st1 := [.int 1, .int 0]) rfl (fun _ => rfl) ?_
          refine pr_s (pc1 := 9) (st1 := [.int (-1)]) rfl (fun _ => rfl) ?_
          refine pr_s (pc1 := 10) (lv1 := [(2, .int (-1)), (0, .ref 138), (1, .int a1)]) (st1 := []) rfl (fun _ => rfl) ?_
          refine pr_s (pc1 := 11) (st1 := [.int (-1)]) rfl (fun _ => rfl) ?_
          refine pr_bt (t := 33) (off := 22) (bb := decide (((-1) : Int32) < 0)) (st1 := []) rfl rfl rfl rfl (by decide) ?_
          refine pr_s (pc1 := 34) (st1 := [.int (-1)]) rfl (fun _ => rfl) ?_
          exact pr_e rfl (fun _ => rfl) ⟨rfl, rfl⟩
        show px_R _ _ _ _ (9, [(0, .ref 136), (1, .int a1)], [.int (-1), .ref 136], _) _ _ _
        refine pr_s (pc1 := 10) (st1 := [.int (-1), .int (-1), .ref 136]) rfl (fun _ => rfl) ?_
        refine pr_bt (t := 17) (off := 7) (bb := decide (((-1) : Int32) = (-1))) (st1 := [.ref 136]) rfl rfl rfl rfl (by decide) ?_
        refine pr_s (pc1 := 18) (st1 := [.int 1, .ref 136]) rfl (fun _ => rfl) ?_
        refine pr_putf (pc1 := 21) (h1 := ph_15) rfl rfl pg_20 rfl rfl rfl rfl rfl rfl rfl ?_
        refine pr_s (pc1 := 22) (st1 := [.ref 136]) rfl (fun _ => rfl) ?_
        refine pr_getf (pc1 := 25) (v := .int 1) rfl rfl pg_21 rfl rfl ?_
        refine pr_bt (t := 32) (off := 7) (bb := !decide ((1 : Int32) = 0)) (st1 := []) rfl rfl rfl rfl (px_not_t (by decide)) ?_
        refine pr_s (pc1 := 33) (st1 := [.int 0]) rfl (fun _ => rfl) ?_
        exact pr_e rfl (fun _ => rfl) ⟨rfl, rfl⟩
      show px_R _ _ _ _ (5, [(0, .ref 136), (1, .int a1)], [.int 0], _) _ _ _
      refine pr_bt (t := 19) (off := 14) (bb := decide ((0 : Int32) = 0)) (st1 := []) rfl rfl rfl rfl (by decide) ?_
      refine pr_s (pc1 := 20) (st1 := [.int 0]) rfl (fun _ => rfl) ?_
      exact pr_e rfl (fun _ => rfl) ⟨rfl, rfl⟩
    show px_T _ _ _ _ (1881, [(5, .int 1), (4, .int 0), (3, .ref 164), (2, .ref 136), (1, .ref 0), (0, .retAddr 0)], [.int 0], _) _ _ _
    refine pt_s (pc1 := 1883) (lv1 := [(6, .int 0), (5, .int 1), (4, .int 0), (3, .ref 164), (2, .ref 136), (1, .ref 0), (0, .retAddr 0)]) (st1 := []) rfl rfl (fun _ => rfl) ?_
    refine pt_s (pc1 := 1884) (st1 := [.ref 136]) rfl rfl (fun _ => rfl) ?_
    refine pt_callv (N := pm_X10_thrown) (as := [.ref 136]) (rest := []) (f := 2047) (l := 83980) (c1 := 0) (k1 := 0) (c2 := 599836) (k2 := 7274189) (v := some (.int 1)) (h1 := ph_15) rfl rfl (fun ex => px_inv_hs ex rfl rfl rfl pg_21 rfl rfl rfl rfl) ?_ (Nat.le_of_ble_eq_true rfl) (Nat.le_of_ble_eq_true rfl) ?_
    · refine px_C_of rfl ?_
      refine pr_s (pc1 := 1) (st1 := [.ref 136]) rfl (fun _ => rfl) ?_
      refine pr_getf (pc1 := 4) (v := .int 1) rfl rfl pg_21 rfl rfl ?_
      exact pr_e rfl (fun _ => rfl) ⟨rfl, rfl⟩
    show px_T _ _ _ _ (1887, [(6, .int 0), (5, .int 1), (4, .int 0), (3, .ref 164), (2, .ref 136), (1, .ref 0), (0, .retAddr 0)], [.int 1], _) _ _ _
    refine pt_s (pc1 := 1889) (st1 := [.int 1, .int 1]) rfl rfl (fun _ => rfl) ?_
    refine pt_bt (t := 1894) (off := 5) (bb := decide ((1 : Int32) = 1)) (st1 := []) rfl rfl rfl rfl rfl (by decide) ?_
    refine pt_s (pc1 := 1896) (st1 := [.int 1]) rfl rfl (fun _ => rfl) ?_
    refine pt_bt (t := 1911) (off := 15) (bb := !decide ((1 : Int32) = 0)) (st1 := []) rfl rfl rfl rfl rfl (px_not_t (by decide)) ?_
    refine pt_s (pc1 := 2771) (st1 := []) rfl rfl (fun _ => rfl) ?_
    refine pt_s (pc1 := 2774) (lv1 := [(4, .int 6), (6, .int 0), (5, .int 1), (3, .ref 164), (2, .ref 136), (1, .ref 0), (0, .retAddr 0)]) (st1 := []) rfl rfl (fun _ => rfl) ?_
    refine pt_s (pc1 := 23) (st1 := []) rfl rfl (fun _ => rfl) ?_
    refine pt_s (pc1 := 25) (st1 := [.int 6]) rfl rfl (fun _ => rfl) ?_
    refine pt_s (pc1 := 26) (st1 := [.retAddr 0, .int 6]) rfl rfl (fun _ => rfl) ?_
    refine pt_s (pc1 := 27) (st1 := [.int 6, .int 6]) rfl rfl (fun _ => rfl) ?_
    refine pt_s (pc1 := 29) (st1 := [.int 6, .int 6, .int 6]) rfl rfl (fun _ => rfl) ?_
    refine pt_s (pc1 := 30) (st1 := [.int 0, .int 6]) rfl rfl (fun _ => rfl) ?_
    refine pt_bt (t := 2777) (off := 2747) (bb := decide ((0 : Int32) < (6 : Int32))) (st1 := []) rfl rfl rfl rfl rfl (by decide) ?_
    refine pt_s (pc1 := 2778) (st1 := [.int 1]) rfl rfl (fun _ => rfl) ?_
    exact pt_e rfl ⟨rfl, (rfl : px_ins pm_law 2778 = some (.ireturn, 1))⟩
set_option maxRecDepth 100000 in
set_option maxHeartbeats 40000000 in
theorem px_op_28 (a0 a1 a2 a3 a4 a5 : Int32) : px_T (some [a0, a1, a2, a3, a4, a5]) pm_law 2048 84000 (40, [(4, .int 0), (3, .ref 164), (2, .ref 136), (1, .ref 0), (0, .retAddr 0)], [.int 28], px_hs) 599837 7274195 (fun s1 => s1.2.2.1 = [.int 1] ∧ px_ins pm_law s1.1 = some (.ireturn, 1)) := by
  have ha1 : (-2147483648) ≤ a1.toInt ∧ a1.toInt ≤ 2147483647 := ⟨Int32.le_toInt a1, Int32.toInt_le a1⟩
  by_cases hs : a1.toInt < 0
  · have ha1 : (-2147483648) ≤ a1.toInt ∧ a1.toInt ≤ (-1) := ⟨ha1.1, by omega⟩
    refine pt_s (pc1 := 1914) (st1 := []) rfl rfl (fun _ => rfl) ?_
    refine pt_s (pc1 := 1915) (st1 := [.ref 0]) rfl rfl (fun _ => rfl) ?_
    refine pt_s (pc1 := 1916) (st1 := [.retAddr 0, .ref 0]) rfl rfl (fun _ => rfl) ?_
    refine pt_s (pc1 := 1918) (st1 := [.int 0, .retAddr 0, .ref 0]) rfl rfl (fun _ => rfl) ?_
    refine pt_s (pc1 := 1919) (st1 := [.int 1, .int 0, .retAddr 0, .ref 0]) rfl rfl (fun _ => rfl) ?_
    refine pt_s (pc1 := 1920) (st1 := [.int 1, .retAddr 0, .ref 0]) rfl rfl (fun _ => rfl) ?_
    refine pt_s (pc1 := 1921) (st1 := [.int a1, .ref 0]) rfl rfl (fun _ => rfl) ?_
    refine pt_s (pc1 := 1922) (st1 := [.ref 164, .int a1, .ref 0]) rfl rfl (fun _ => rfl) ?_
    refine pt_callv (N := pm_L_because) (as := [.ref 0, .int a1, .ref 164]) (rest := []) (f := 2047) (l := 83977) (c1 := 1) (k1 := 6) (c2 := 599836) (k2 := 7274189) (v := some (.int 1)) (h1 := ph_14) rfl rfl (fun _ => rfl) ?_ (Nat.le_of_ble_eq_true rfl) (Nat.le_of_ble_eq_true rfl) ?_
    · refine px_C_of rfl ?_
      refine pr_s (pc1 := 1) (st1 := [.ref 164]) rfl (fun _ => rfl) ?_
      refine pr_s (pc1 := 2) (st1 := [.int 0, .ref 164]) rfl (fun _ => rfl) ?_
      refine pr_s (pc1 := 3) (st1 := [.ref 0, .int 0, .ref 164]) rfl (fun _ => rfl) ?_
      refine pr_s (pc1 := 4) (st1 := [.int a1, .ref 0, .int 0, .ref 164]) rfl (fun _ => rfl) ?_
      refine pr_callx (N := pm_X6_because) (as := [.ref 0, .int a1]) (rest := [.int 0, .ref 164]) (f := 2046) (l := 83956) (c1 := 1) (k1 := 6) (c2 := 0) (k2 := 0) (E := 11) (h1 := ph_14) (a := 12) (y1 := 3) (y2 := 1) rfl (fun ex => px_inv_hs ex rfl rfl rfl pg_0 rfl rfl rfl rfl) ?_ (Nat.le_of_ble_eq_true rfl) (Nat.le_of_ble_eq_true rfl) rfl rfl rfl rfl ?_
      · refine px_C_of rfl ?_
        refine pr_s (pc1 := 1) (st1 := [.ref 0]) rfl (fun _ => rfl) ?_
        refine pr_s (pc1 := 2) (st1 := [.int a1, .ref 0]) rfl (fun _ => rfl) ?_
        refine pr_callo (N := pm_X6_needFact) (as := [.ref 0, .int a1]) (rest := []) (f := 2045) (l := 83934) (E := 11) (h1 := ph_14) rfl (fun ex => px_inv_hs ex rfl rfl rfl pg_0 rfl rfl rfl rfl) ?_ rfl ⟨rfl, rfl⟩
        · refine px_C_of rfl ?_
          refine pr_s (pc1 := 1) (st1 := [.ref 0]) rfl (fun _ => rfl) ?_
          refine pr_getf (pc1 := 4) (v := .ref 92) rfl rfl pg_0 rfl rfl ?_
          refine pr_getf (pc1 := 7) (v := .ref 93) rfl rfl pg_22 rfl rfl ?_
          refine pr_s (pc1 := 8) (st1 := [.int a1, .ref 93]) rfl (fun _ => rfl) ?_
          refine pr_callv (N := pm_X2_placeOf) (as := [.ref 93, .int a1]) (rest := []) (f := 2044) (l := 83912) (c1 := 0) (k1 := 0) (c2 := 1) (k2 := 6) (v := some (.int (-1))) (h1 := px_hs) rfl (fun ex => px_inv_hs ex rfl rfl rfl pg_23 rfl rfl rfl rfl) ?_ (Nat.le_of_ble_eq_true rfl) (Nat.le_of_ble_eq_true rfl) ?_
          · refine px_C_of rfl ?_
            refine pr_s (pc1 := 1) (st1 := [.int a1]) rfl (fun _ => rfl) ?_
            refine pr_bt (t := 12) (off := 11) (bb := decide (a1 < 0)) (st1 := []) rfl rfl rfl rfl (pb_ltT ha1.2 (show 0 ≤ (0 : Int32).toInt by decide) (by decide)) ?_
            refine pr_s (pc1 := 13) (st1 := [.int (-1)]) rfl (fun _ => rfl) ?_
            exact pr_e rfl (fun _ => rfl) ⟨rfl, rfl⟩
          show px_R _ _ _ _ (11, [(0, .ref 0), (1, .int a1)], [.int (-1)], _) _ _ _
          refine pr_s (pc1 := 12) (lv1 := [(2, .int (-1)), (0, .ref 0), (1, .int a1)]) (st1 := []) rfl (fun _ => rfl) ?_
          refine pr_s (pc1 := 13) (st1 := [.int (-1)]) rfl (fun _ => rfl) ?_
          refine pr_bf (t := 27) (off := 14) (bb := decide ((0 : Int32) ≤ ((-1) : Int32))) (st1 := []) rfl rfl rfl rfl (by decide) ?_
          refine pr_mh (z1 := 1) (z2 := 6) (c1 := 0) (k1 := 0) (pc1 := 26) (n := 165) (r := []) (h1 := ph_14) (es := fun n => [.inr (11, [])]) rfl (fun _ => rfl) pl_0 rfl (Nat.le_of_ble_eq_true rfl) (Nat.le_of_ble_eq_true rfl) ?_
          exact pr_e rfl (fun _ => rfl) ⟨rfl, rfl⟩
      show px_R _ _ _ _ (13, [(0, .ref 0), (1, .int a1), (2, .ref 164)], [], _) _ _ _
      refine pr_s (pc1 := 14) (st1 := [.int 1]) rfl (fun _ => rfl) ?_
      exact pr_e rfl (fun _ => rfl) ⟨rfl, rfl⟩
    show px_T _ _ _ _ (1925, [(4, .int 0), (3, .ref 164), (2, .ref 136), (1, .ref 0), (0, .retAddr 0)], [.int 1], _) _ _ _
    refine pt_s (pc1 := 1927) (lv1 := [(5, .int 1), (4, .int 0), (3, .ref 164), (2, .ref 136), (1, .ref 0), (0, .retAddr 0)]) (st1 := []) rfl rfl (fun _ => rfl) ?_
    refine pt_s (pc1 := 1928) (st1 := [.ref 136]) rfl rfl (fun _ => rfl) ?_
    refine pt_s (pc1 := 1929) (st1 := [.retAddr 0, .ref 136]) rfl rfl (fun _ => rfl) ?_
    refine pt_s (pc1 := 1931) (st1 := [.int 0, .retAddr 0, .ref 136]) rfl rfl (fun _ => rfl) ?_
    refine pt_s (pc1 := 1932) (st1 := [.int 1, .int 0, .retAddr 0, .ref 136]) rfl rfl (fun _ => rfl) ?_
    refine pt_s (pc1 := 1933) (st1 := [.int 1, .retAddr 0, .ref 136]) rfl rfl (fun _ => rfl) ?_
    refine pt_s (pc1 := 1934) (st1 := [.int a1, .ref 136]) rfl rfl (fun _ => rfl) ?_
    refine pt_callv (N := pm_X10_because) (as := [.ref 136, .int a1]) (rest := []) (f := 2047) (l := 83979) (c1 := 0) (k1 := 0) (c2 := 599836) (k2 := 7274189) (v := some (.int 0)) (h1 := ph_15) rfl rfl (fun ex => px_inv_hs ex rfl rfl rfl pg_20 rfl rfl rfl rfl) ?_ (Nat.le_of_ble_eq_true rfl) (Nat.le_of_ble_eq_true rfl) ?_
    · refine px_C_of rfl ?_
      refine pr_s (pc1 := 1) (st1 := [.ref 136]) rfl (fun _ => rfl) ?_
      refine pr_s (pc1 := 2) (st1 := [.int a1, .ref 136]) rfl (fun _ => rfl) ?_
      refine pr_callv (N := pm_X10_isFact) (as := [.ref 136, .int a1]) (rest := []) (f := 2046) (l := 83958) (c1 := 0) (k1 := 0) (c2 := 0) (k2 := 0) (v := some (.int 0)) (h1 := ph_15) rfl (fun ex => px_inv_hs ex rfl rfl rfl pg_20 rfl rfl rfl rfl) ?_ (Nat.le_of_ble_eq_true rfl) (Nat.le_of_ble_eq_true rfl) ?_
      · refine px_C_of rfl ?_
        refine pr_s (pc1 := 1) (st1 := [.ref 136]) rfl (fun _ => rfl) ?_
        refine pr_s (pc1 := 2) (st1 := [.ref 136, .ref 136]) rfl (fun _ => rfl) ?_
        refine pr_getf (pc1 := 5) (v := .ref 138) rfl rfl pg_20 rfl rfl ?_
        refine pr_s (pc1 := 6) (st1 := [.int a1, .ref 138, .ref 136]) rfl (fun _ => rfl) ?_
        refine pr_callv (N := pm_X9_place) (as := [.ref 138, .int a1]) (rest := [.ref 136]) (f := 2045) (l := 83936) (c1 := 0) (k1 := 0) (c2 := 0) (k2 := 0) (v := some (.int (-1))) (h1 := ph_14) rfl (fun ex => px_inv_hs ex rfl rfl rfl pg_506 rfl rfl rfl rfl) ?_ (Nat.le_of_ble_eq_true rfl) (Nat.le_of_ble_eq_true rfl) ?_
        · refine px_C_of rfl ?_
          refine pr_s (pc1 := 1) (st1 := [.ref 138]) rfl (fun _ => rfl) ?_
          refine pr_getf (pc1 := 4) (v := .ref 141) rfl rfl pg_506 rfl rfl ?_
          refine pr_getf (pc1 := 7) (v := .int 0) rfl rfl pg_507 rfl rfl ?_
          refine pr_s (pc1 := 8) (st1 := [.int 1, .int 0]) rfl (fun _ => rfl) ?_
          refine pr_s (pc1 := 9) (st1 := [.int (-1)]) rfl (fun _ => rfl) ?_
          refine pr_s (pc1 := 10) (lv1 := [(2, .int (-1)), (0, .ref 138), (1, .int a1)]) (st1 := []) rfl (fun _ => rfl) ?_
          refine pr_s (pc1 := 11) (st1 := [.int (-1)]) rfl (fun _ => rfl) ?_
          refine pr_bt (t := 33) (off := 22) (bb := decide (((-1) : Int32) < 0)) (st1 := []) rfl rfl rfl rfl (by decide) ?_
          refine pr_s (pc1 := 34) (st1 := [.int (-1)]) rfl (fun _ => rfl) ?_
          exact pr_e rfl (fun _ => rfl) ⟨rfl, rfl⟩
        show px_R _ _ _ _ (9, [(0, .ref 136), (1, .int a1)], [.int (-1), .ref 136], _) _ _ _
        refine pr_s (pc1 := 10) (st1 := [.int (-1), .int (-1), .ref 136]) rfl (fun _ => rfl) ?_
        refine pr_bt (t := 17) (off := 7) (bb := decide (((-1) : Int32) = (-1))) (st1 := [.ref 136]) rfl rfl rfl rfl (by decide) ?_
        refine pr_s (pc1 := 18) (st1 := [.int 1, .ref 136]) rfl (fun _ => rfl) ?_
        refine pr_putf (pc1 := 21) (h1 := ph_15) rfl rfl pg_20 rfl rfl rfl rfl rfl rfl rfl ?_
        refine pr_s (pc1 := 22) (st1 := [.ref 136]) rfl (fun _ => rfl) ?_
        refine pr_getf (pc1 := 25) (v := .int 1) rfl rfl pg_21 rfl rfl ?_
        refine pr_bt (t := 32) (off := 7) (bb := !decide ((1 : Int32) = 0)) (st1 := []) rfl rfl rfl rfl (px_not_t (by decide)) ?_
        refine pr_s (pc1 := 33) (st1 := [.int 0]) rfl (fun _ => rfl) ?_
        exact pr_e rfl (fun _ => rfl) ⟨rfl, rfl⟩
      show px_R _ _ _ _ (5, [(0, .ref 136), (1, .int a1)], [.int 0], _) _ _ _
      refine pr_bt (t := 16) (off := 11) (bb := decide ((0 : Int32) = 0)) (st1 := []) rfl rfl rfl rfl (by decide) ?_
      refine pr_s (pc1 := 17) (st1 := [.int 0]) rfl (fun _ => rfl) ?_
      exact pr_e rfl (fun _ => rfl) ⟨rfl, rfl⟩
    show px_T _ _ _ _ (1937, [(5, .int 1), (4, .int 0), (3, .ref 164), (2, .ref 136), (1, .ref 0), (0, .retAddr 0)], [.int 0], _) _ _ _
    refine pt_s (pc1 := 1939) (lv1 := [(6, .int 0), (5, .int 1), (4, .int 0), (3, .ref 164), (2, .ref 136), (1, .ref 0), (0, .retAddr 0)]) (st1 := []) rfl rfl (fun _ => rfl) ?_
    refine pt_s (pc1 := 1940) (st1 := [.ref 136]) rfl rfl (fun _ => rfl) ?_
    refine pt_callv (N := pm_X10_thrown) (as := [.ref 136]) (rest := []) (f := 2047) (l := 83980) (c1 := 0) (k1 := 0) (c2 := 599836) (k2 := 7274189) (v := some (.int 1)) (h1 := ph_15) rfl rfl (fun ex => px_inv_hs ex rfl rfl rfl pg_21 rfl rfl rfl rfl) ?_ (Nat.le_of_ble_eq_true rfl) (Nat.le_of_ble_eq_true rfl) ?_
    · refine px_C_of rfl ?_
      refine pr_s (pc1 := 1) (st1 := [.ref 136]) rfl (fun _ => rfl) ?_
      refine pr_getf (pc1 := 4) (v := .int 1) rfl rfl pg_21 rfl rfl ?_
      exact pr_e rfl (fun _ => rfl) ⟨rfl, rfl⟩
    show px_T _ _ _ _ (1943, [(6, .int 0), (5, .int 1), (4, .int 0), (3, .ref 164), (2, .ref 136), (1, .ref 0), (0, .retAddr 0)], [.int 1], _) _ _ _
    refine pt_s (pc1 := 1945) (st1 := [.int 1, .int 1]) rfl rfl (fun _ => rfl) ?_
    refine pt_bt (t := 1950) (off := 5) (bb := decide ((1 : Int32) = 1)) (st1 := []) rfl rfl rfl rfl rfl (by decide) ?_
    refine pt_s (pc1 := 1952) (st1 := [.int 1]) rfl rfl (fun _ => rfl) ?_
    refine pt_bt (t := 1967) (off := 15) (bb := !decide ((1 : Int32) = 0)) (st1 := []) rfl rfl rfl rfl rfl (px_not_t (by decide)) ?_
    refine pt_s (pc1 := 2771) (st1 := []) rfl rfl (fun _ => rfl) ?_
    refine pt_s (pc1 := 2774) (lv1 := [(4, .int 6), (6, .int 0), (5, .int 1), (3, .ref 164), (2, .ref 136), (1, .ref 0), (0, .retAddr 0)]) (st1 := []) rfl rfl (fun _ => rfl) ?_
    refine pt_s (pc1 := 23) (st1 := []) rfl rfl (fun _ => rfl) ?_
    refine pt_s (pc1 := 25) (st1 := [.int 6]) rfl rfl (fun _ => rfl) ?_
    refine pt_s (pc1 := 26) (st1 := [.retAddr 0, .int 6]) rfl rfl (fun _ => rfl) ?_
    refine pt_s (pc1 := 27) (st1 := [.int 6, .int 6]) rfl rfl (fun _ => rfl) ?_
    refine pt_s (pc1 := 29) (st1 := [.int 6, .int 6, .int 6]) rfl rfl (fun _ => rfl) ?_
    refine pt_s (pc1 := 30) (st1 := [.int 0, .int 6]) rfl rfl (fun _ => rfl) ?_
    refine pt_bt (t := 2777) (off := 2747) (bb := decide ((0 : Int32) < (6 : Int32))) (st1 := []) rfl rfl rfl rfl rfl (by decide) ?_
    refine pt_s (pc1 := 2778) (st1 := [.int 1]) rfl rfl (fun _ => rfl) ?_
    exact pt_e rfl ⟨rfl, (rfl : px_ins pm_law 2778 = some (.ireturn, 1))⟩
  · have ha1 : 0 ≤ a1.toInt ∧ a1.toInt ≤ 2147483647 := ⟨by omega, ha1.2⟩
    refine pt_s (pc1 := 1914) (st1 := []) rfl rfl (fun _ => rfl) ?_
    refine pt_s (pc1 := 1915) (st1 := [.ref 0]) rfl rfl (fun _ => rfl) ?_
    refine pt_s (pc1 := 1916) (st1 := [.retAddr 0, .ref 0]) rfl rfl (fun _ => rfl) ?_
    refine pt_s (pc1 := 1918) (st1 := [.int 0, .retAddr 0, .ref 0]) rfl rfl (fun _ => rfl) ?_
    refine pt_s (pc1 := 1919) (st1 := [.int 1, .int 0, .retAddr 0, .ref 0]) rfl rfl (fun _ => rfl) ?_
    refine pt_s (pc1 := 1920) (st1 := [.int 1, .retAddr 0, .ref 0]) rfl rfl (fun _ => rfl) ?_
    refine pt_s (pc1 := 1921) (st1 := [.int a1, .ref 0]) rfl rfl (fun _ => rfl) ?_
    refine pt_s (pc1 := 1922) (st1 := [.ref 164, .int a1, .ref 0]) rfl rfl (fun _ => rfl) ?_
    refine pt_callv (N := pm_L_because) (as := [.ref 0, .int a1, .ref 164]) (rest := []) (f := 2047) (l := 83977) (c1 := 1) (k1 := 6) (c2 := 599836) (k2 := 7274189) (v := some (.int 1)) (h1 := ph_14) rfl rfl (fun _ => rfl) ?_ (Nat.le_of_ble_eq_true rfl) (Nat.le_of_ble_eq_true rfl) ?_
    · refine px_C_of rfl ?_
      refine pr_s (pc1 := 1) (st1 := [.ref 164]) rfl (fun _ => rfl) ?_
      refine pr_s (pc1 := 2) (st1 := [.int 0, .ref 164]) rfl (fun _ => rfl) ?_
      refine pr_s (pc1 := 3) (st1 := [.ref 0, .int 0, .ref 164]) rfl (fun _ => rfl) ?_
      refine pr_s (pc1 := 4) (st1 := [.int a1, .ref 0, .int 0, .ref 164]) rfl (fun _ => rfl) ?_
      refine pr_callx (N := pm_X6_because) (as := [.ref 0, .int a1]) (rest := [.int 0, .ref 164]) (f := 2046) (l := 83956) (c1 := 1) (k1 := 6) (c2 := 0) (k2 := 0) (E := 11) (h1 := ph_14) (a := 12) (y1 := 3) (y2 := 1) rfl (fun ex => px_inv_hs ex rfl rfl rfl pg_0 rfl rfl rfl rfl) ?_ (Nat.le_of_ble_eq_true rfl) (Nat.le_of_ble_eq_true rfl) rfl rfl rfl rfl ?_
      · refine px_C_of rfl ?_
        refine pr_s (pc1 := 1) (st1 := [.ref 0]) rfl (fun _ => rfl) ?_
        refine pr_s (pc1 := 2) (st1 := [.int a1, .ref 0]) rfl (fun _ => rfl) ?_
        refine pr_callo (N := pm_X6_needFact) (as := [.ref 0, .int a1]) (rest := []) (f := 2045) (l := 83934) (E := 11) (h1 := ph_14) rfl (fun ex => px_inv_hs ex rfl rfl rfl pg_0 rfl rfl rfl rfl) ?_ rfl ⟨rfl, rfl⟩
        · refine px_C_of rfl ?_
          refine pr_s (pc1 := 1) (st1 := [.ref 0]) rfl (fun _ => rfl) ?_
          refine pr_getf (pc1 := 4) (v := .ref 92) rfl rfl pg_0 rfl rfl ?_
          refine pr_getf (pc1 := 7) (v := .ref 93) rfl rfl pg_22 rfl rfl ?_
          refine pr_s (pc1 := 8) (st1 := [.int a1, .ref 93]) rfl (fun _ => rfl) ?_
          refine pr_callv (N := pm_X2_placeOf) (as := [.ref 93, .int a1]) (rest := []) (f := 2044) (l := 83912) (c1 := 0) (k1 := 0) (c2 := 1) (k2 := 6) (v := some (.int (-1))) (h1 := px_hs) rfl (fun ex => px_inv_hs ex rfl rfl rfl pg_23 rfl rfl rfl rfl) ?_ (Nat.le_of_ble_eq_true rfl) (Nat.le_of_ble_eq_true rfl) ?_
          · refine px_C_of rfl ?_
            refine pr_s (pc1 := 1) (st1 := [.int a1]) rfl (fun _ => rfl) ?_
            refine pr_bf (t := 12) (off := 11) (bb := decide (a1 < 0)) (st1 := []) rfl rfl rfl rfl (pb_ltF ha1.1 (show (0 : Int32).toInt ≤ 0 by decide) (by decide)) ?_
            refine pr_s (pc1 := 5) (st1 := [.int a1]) rfl (fun _ => rfl) ?_
            refine pr_s (pc1 := 6) (st1 := [.ref 93, .int a1]) rfl (fun _ => rfl) ?_
            refine pr_getf (pc1 := 9) (v := .int 0) rfl rfl pg_23 rfl rfl ?_
            refine pr_bf (t := 14) (off := 5) (bb := decide (a1 < 0)) (st1 := []) rfl rfl rfl rfl (pb_ltF ha1.1 (show (0 : Int32).toInt ≤ 0 by decide) (by decide)) ?_
            refine pr_s (pc1 := 13) (st1 := [.int (-1)]) rfl (fun _ => rfl) ?_
            exact pr_e rfl (fun _ => rfl) ⟨rfl, rfl⟩
          show px_R _ _ _ _ (11, [(0, .ref 0), (1, .int a1)], [.int (-1)], _) _ _ _
          refine pr_s (pc1 := 12) (lv1 := [(2, .int (-1)), (0, .ref 0), (1, .int a1)]) (st1 := []) rfl (fun _ => rfl) ?_
          refine pr_s (pc1 := 13) (st1 := [.int (-1)]) rfl (fun _ => rfl) ?_
          refine pr_bf (t := 27) (off := 14) (bb := decide ((0 : Int32) ≤ ((-1) : Int32))) (st1 := []) rfl rfl rfl rfl (by decide) ?_
          refine pr_mh (z1 := 1) (z2 := 6) (c1 := 0) (k1 := 0) (pc1 := 26) (n := 165) (r := []) (h1 := ph_14) (es := fun n => [.inr (11, [])]) rfl (fun _ => rfl) pl_0 rfl (Nat.le_of_ble_eq_true rfl) (Nat.le_of_ble_eq_true rfl) ?_
          exact pr_e rfl (fun _ => rfl) ⟨rfl, rfl⟩
      show px_R _ _ _ _ (13, [(0, .ref 0), (1, .int a1), (2, .ref 164)], [], _) _ _ _
      refine pr_s (pc1 := 14) (st1 := [.int 1]) rfl (fun _ => rfl) ?_
      exact pr_e rfl (fun _ => rfl) ⟨rfl, rfl⟩
    show px_T _ _ _ _ (1925, [(4, .int 0), (3, .ref 164), (2, .ref 136), (1, .ref 0), (0, .retAddr 0)], [.int 1], _) _ _ _
    refine pt_s (pc1 := 1927) (lv1 := [(5, .int 1), (4, .int 0), (3, .ref 164), (2, .ref 136), (1, .ref 0), (0, .retAddr 0)]) (st1 := []) rfl rfl (fun _ => rfl) ?_
    refine pt_s (pc1 := 1928) (st1 := [.ref 136]) rfl rfl (fun _ => rfl) ?_
    refine pt_s (pc1 := 1929) (st1 := [.retAddr 0, .ref 136]) rfl rfl (fun _ => rfl) ?_
    refine pt_s (pc1 := 1931) (st1 := [.int 0, .retAddr 0, .ref 136]) rfl rfl (fun _ => rfl) ?_
    refine pt_s (pc1 := 1932) (st1 := [.int 1, .int 0, .retAddr 0, .ref 136]) rfl rfl (fun _ => rfl) ?_
    refine pt_s (pc1 := 1933) (st1 := [.int 1, .retAddr 0, .ref 136]) rfl rfl (fun _ => rfl) ?_
    refine pt_s (pc1 := 1934) (st1 := [.int a1, .ref 136]) rfl rfl (fun _ => rfl) ?_
    refine pt_callv (N := pm_X10_because) (as := [.ref 136, .int a1]) (rest := []) (f := 2047) (l := 83979) (c1 := 0) (k1 := 0) (c2 := 599836) (k2 := 7274189) (v := some (.int 0)) (h1 := ph_15) rfl rfl (fun ex => px_inv_hs ex rfl rfl rfl pg_20 rfl rfl rfl rfl) ?_ (Nat.le_of_ble_eq_true rfl) (Nat.le_of_ble_eq_true rfl) ?_
    · refine px_C_of rfl ?_
      refine pr_s (pc1 := 1) (st1 := [.ref 136]) rfl (fun _ => rfl) ?_
      refine pr_s (pc1 := 2) (st1 := [.int a1, .ref 136]) rfl (fun _ => rfl) ?_
      refine pr_callv (N := pm_X10_isFact) (as := [.ref 136, .int a1]) (rest := []) (f := 2046) (l := 83958) (c1 := 0) (k1 := 0) (c2 := 0) (k2 := 0) (v := some (.int 0)) (h1 := ph_15) rfl (fun ex => px_inv_hs ex rfl rfl rfl pg_20 rfl rfl rfl rfl) ?_ (Nat.le_of_ble_eq_true rfl) (Nat.le_of_ble_eq_true rfl) ?_
      · refine px_C_of rfl ?_
        refine pr_s (pc1 := 1) (st1 := [.ref 136]) rfl (fun _ => rfl) ?_
        refine pr_s (pc1 := 2) (st1 := [.ref 136, .ref 136]) rfl (fun _ => rfl) ?_
        refine pr_getf (pc1 := 5) (v := .ref 138) rfl rfl pg_20 rfl rfl ?_
        refine pr_s (pc1 := 6) (st1 := [.int a1, .ref 138, .ref 136]) rfl (fun _ => rfl) ?_
        refine pr_callv (N := pm_X9_place) (as := [.ref 138, .int a1]) (rest := [.ref 136]) (f := 2045) (l := 83936) (c1 := 0) (k1 := 0) (c2 := 0) (k2 := 0) (v := some (.int (-1))) (h1 := ph_14) rfl (fun ex => px_inv_hs ex rfl rfl rfl pg_506 rfl rfl rfl rfl) ?_ (Nat.le_of_ble_eq_true rfl) (Nat.le_of_ble_eq_true rfl) ?_
        · refine px_C_of rfl ?_
          refine pr_s (pc1 := 1) (st1 := [.ref 138]) rfl (fun _ => rfl) ?_
          refine pr_getf (pc1 := 4) (v := .ref 141) rfl rfl pg_506 rfl rfl ?_
          refine pr_getf (pc1 := 7) (v := .int 0) rfl rfl pg_507 rfl rfl ?_
          refine pr_s (pc1 := 8) (st1 := [.int 1, .int 0]) rfl (fun _ => rfl) ?_
          refine pr_s (pc1 := 9) (st1 := [.int (-1)]) rfl (fun _ => rfl) ?_
          refine pr_s (pc1 := 10) (lv1 := [(2, .int (-1)), (0, .ref 138), (1, .int a1)]) (st1 := []) rfl (fun _ => rfl) ?_
          refine pr_s (pc1 := 11) (st1 := [.int (-1)]) rfl (fun _ => rfl) ?_
          refine pr_bt (t := 33) (off := 22) (bb := decide (((-1) : Int32) < 0)) (st1 := []) rfl rfl rfl rfl (by decide) ?_
          refine pr_s (pc1 := 34) (st1 := [.int (-1)]) rfl (fun _ => rfl) ?_
          exact pr_e rfl (fun _ => rfl) ⟨rfl, rfl⟩
        show px_R _ _ _ _ (9, [(0, .ref 136), (1, .int a1)], [.int (-1), .ref 136], _) _ _ _
        refine pr_s (pc1 := 10) (st1 := [.int (-1), .int (-1), .ref 136]) rfl (fun _ => rfl) ?_
        refine pr_bt (t := 17) (off := 7) (bb := decide (((-1) : Int32) = (-1))) (st1 := [.ref 136]) rfl rfl rfl rfl (by decide) ?_
        refine pr_s (pc1 := 18) (st1 := [.int 1, .ref 136]) rfl (fun _ => rfl) ?_
        refine pr_putf (pc1 := 21) (h1 := ph_15) rfl rfl pg_20 rfl rfl rfl rfl rfl rfl rfl ?_
        refine pr_s (pc1 := 22) (st1 := [.ref 136]) rfl (fun _ => rfl) ?_
        refine pr_getf (pc1 := 25) (v := .int 1) rfl rfl pg_21 rfl rfl ?_
        refine pr_bt (t := 32) (off := 7) (bb := !decide ((1 : Int32) = 0)) (st1 := []) rfl rfl rfl rfl (px_not_t (by decide)) ?_
        refine pr_s (pc1 := 33) (st1 := [.int 0]) rfl (fun _ => rfl) ?_
        exact pr_e rfl (fun _ => rfl) ⟨rfl, rfl⟩
      show px_R _ _ _ _ (5, [(0, .ref 136), (1, .int a1)], [.int 0], _) _ _ _
      refine pr_bt (t := 16) (off := 11) (bb := decide ((0 : Int32) = 0)) (st1 := []) rfl rfl rfl rfl (by decide) ?_
      refine pr_s (pc1 := 17) (st1 := [.int 0]) rfl (fun _ => rfl) ?_
      exact pr_e rfl (fun _ => rfl) ⟨rfl, rfl⟩
    show px_T _ _ _ _ (1937, [(5, .int 1), (4, .int 0), (3, .ref 164), (2, .ref 136), (1, .ref 0), (0, .retAddr 0)], [.int 0], _) _ _ _
    refine pt_s (pc1 := 1939) (lv1 := [(6, .int 0), (5, .int 1), (4, .int 0), (3, .ref 164), (2, .ref 136), (1, .ref 0), (0, .retAddr 0)]) (st1 := []) rfl rfl (fun _ => rfl) ?_
    refine pt_s (pc1 := 1940) (st1 := [.ref 136]) rfl rfl (fun _ => rfl) ?_
    refine pt_callv (N := pm_X10_thrown) (as := [.ref 136]) (rest := []) (f := 2047) (l := 83980) (c1 := 0) (k1 := 0) (c2 := 599836) (k2 := 7274189) (v := some (.int 1)) (h1 := ph_15) rfl rfl (fun ex => px_inv_hs ex rfl rfl rfl pg_21 rfl rfl rfl rfl) ?_ (Nat.le_of_ble_eq_true rfl) (Nat.le_of_ble_eq_true rfl) ?_
    · refine px_C_of rfl ?_
      refine pr_s (pc1 := 1) (st1 := [.ref 136]) rfl (fun _ => rfl) ?_
      refine pr_getf (pc1 := 4) (v := .int 1) rfl rfl pg_21 rfl rfl ?_
      exact pr_e rfl (fun _ => rfl) ⟨rfl, rfl⟩
    show px_T _ _ _ _ (1943, [(6, .int 0), (5, .int 1), (4, .int 0), (3, .ref 164), (2, .ref 136), (1, .ref 0), (0, .retAddr 0)], [.int 1], _) _ _ _
    refine pt_s (pc1 := 1945) (st1 := [.int 1, .int 1]) rfl rfl (fun _ => rfl) ?_
    refine pt_bt (t := 1950) (off := 5) (bb := decide ((1 : Int32) = 1)) (st1 := []) rfl rfl rfl rfl rfl (by decide) ?_
    refine pt_s (pc1 := 1952) (st1 := [.int 1]) rfl rfl (fun _ => rfl) ?_
    refine pt_bt (t := 1967) (off := 15) (bb := !decide ((1 : Int32) = 0)) (st1 := []) rfl rfl rfl rfl rfl (px_not_t (by decide)) ?_
    refine pt_s (pc1 := 2771) (st1 := []) rfl rfl (fun _ => rfl) ?_
    refine pt_s (pc1 := 2774) (lv1 := [(4, .int 6), (6, .int 0), (5, .int 1), (3, .ref 164), (2, .ref 136), (1, .ref 0), (0, .retAddr 0)]) (st1 := []) rfl rfl (fun _ => rfl) ?_
    refine pt_s (pc1 := 23) (st1 := []) rfl rfl (fun _ => rfl) ?_
    refine pt_s (pc1 := 25) (st1 := [.int 6]) rfl rfl (fun _ => rfl) ?_
    refine pt_s (pc1 := 26) (st1 := [.retAddr 0, .int 6]) rfl rfl (fun _ => rfl) ?_
    refine pt_s (pc1 := 27) (st1 := [.int 6, .int 6]) rfl rfl (fun _ => rfl) ?_
    refine pt_s (pc1 := 29) (st1 := [.int 6, .int 6, .int 6]) rfl rfl (fun _ => rfl) ?_
    refine pt_s (pc1 := 30) (st1 := [.int 0, .int 6]) rfl rfl (fun _ => rfl) ?_
    refine pt_bt (t := 2777) (off := 2747) (bb := decide ((0 : Int32) < (6 : Int32))) (st1 := []) rfl rfl rfl rfl rfl (by decide) ?_
    refine pt_s (pc1 := 2778) (st1 := [.int 1]) rfl rfl (fun _ => rfl) ?_
    exact pt_e rfl ⟨rfl, (rfl : px_ins pm_law 2778 = some (.ireturn, 1))⟩
