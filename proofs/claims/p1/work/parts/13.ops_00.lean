/-! THE LAW'S CALLS, ONE BY ONE, ON A NEW OBJECT (wip/gen/p1gen.py) -/
set_option maxRecDepth 100000 in
set_option maxHeartbeats 40000000 in
theorem px_op_12 (a0 a1 a2 a3 a4 a5 : Int32) : px_T (some [a0, a1, a2, a3, a4, a5]) pm_law 2048 84000 (40, [(4, .int 0), (3, .ref 164), (2, .ref 136), (1, .ref 0), (0, .retAddr 0)], [.int 12], px_hs) 599837 7274195 (fun s1 => s1.2.2.1 = [.int 1] ∧ px_ins pm_law s1.1 = some (.ireturn, 1)) := by
  refine pt_s (pc1 := 1128) (st1 := []) rfl rfl (fun _ => rfl) ?_
  refine pt_s (pc1 := 1129) (st1 := [.ref 0]) rfl rfl (fun _ => rfl) ?_
  refine pt_callv (N := pm_X6_rules) (as := [.ref 0]) (rest := []) (f := 2047) (l := 83980) (c1 := 0) (k1 := 0) (c2 := 599837) (k2 := 7274195) (v := some (.int 0)) (h1 := px_hs) rfl rfl (fun _ => rfl) ?_ (Nat.le_of_ble_eq_true rfl) (Nat.le_of_ble_eq_true rfl) ?_
  · refine px_C_of rfl ?_
    refine pr_s (pc1 := 1) (st1 := [.ref 0]) rfl (fun _ => rfl) ?_
    refine pr_s (pc1 := 4) (st1 := [.int 0]) rfl (fun _ => rfl) ?_
    exact pr_e rfl (fun _ => rfl) ⟨rfl, rfl⟩
  show px_T _ _ _ _ (1132, [(4, .int 0), (3, .ref 164), (2, .ref 136), (1, .ref 0), (0, .retAddr 0)], [.int 0], _) _ _ _
  refine pt_s (pc1 := 1133) (st1 := [.ref 136, .int 0]) rfl rfl (fun _ => rfl) ?_
  refine pt_callv (N := pm_X10_rules) (as := [.ref 136]) (rest := [.int 0]) (f := 2047) (l := 83980) (c1 := 0) (k1 := 0) (c2 := 599837) (k2 := 7274195) (v := some (.int 0)) (h1 := px_hs.set 136 (.inr (10, [.ref 137, .int 0, .int 0, .ref 138, .ref 151, .long 0]))) rfl rfl (fun _ => rfl) ?_ (Nat.le_of_ble_eq_true rfl) (Nat.le_of_ble_eq_true rfl) ?_
  · refine px_C_of rfl ?_
    refine pr_s (pc1 := 1) (st1 := [.ref 136]) rfl (fun _ => rfl) ?_
    refine pr_s (pc1 := 2) (st1 := [.int 0, .ref 136]) rfl (fun _ => rfl) ?_
    refine pr_s (pc1 := 5) (st1 := []) (h1 := px_hs.set 136 (.inr (10, [.ref 137, .int 0, .int 0, .ref 138, .ref 151, .long 0]))) rfl (fun _ => rfl) ?_
    refine pr_s (pc1 := 6) (st1 := [.ref 136]) rfl (fun _ => rfl) ?_
    refine pr_s (pc1 := 9) (st1 := [.int 0]) rfl (fun _ => rfl) ?_
    exact pr_e rfl (fun _ => rfl) ⟨rfl, rfl⟩
  show px_T _ _ _ _ (1136, [(4, .int 0), (3, .ref 164), (2, .ref 136), (1, .ref 0), (0, .retAddr 0)], [.int 0, .int 0], _) _ _ _
  refine pt_bt (t := 2771) (off := 1635) (bb := decide ((0 : Int32) = 0)) (st1 := []) rfl rfl rfl rfl rfl (by decide) ?_
  refine pt_s (pc1 := 2774) (lv1 := [(4, .int 6), (3, .ref 164), (2, .ref 136), (1, .ref 0), (0, .retAddr 0)]) (st1 := []) rfl rfl (fun _ => rfl) ?_
  refine pt_s (pc1 := 23) (st1 := []) rfl rfl (fun _ => rfl) ?_
  refine pt_s (pc1 := 25) (st1 := [.int 6]) rfl rfl (fun _ => rfl) ?_
  refine pt_s (pc1 := 26) (st1 := [.retAddr 0, .int 6]) rfl rfl (fun _ => rfl) ?_
  refine pt_s (pc1 := 27) (st1 := [.int 6, .int 6]) rfl rfl (fun _ => rfl) ?_
  refine pt_s (pc1 := 29) (st1 := [.int 6, .int 6, .int 6]) rfl rfl (fun _ => rfl) ?_
  refine pt_s (pc1 := 30) (st1 := [.int 0, .int 6]) rfl rfl (fun _ => rfl) ?_
  refine pt_bt (t := 2777) (off := 2747) (bb := decide ((0 : Int32) < (6 : Int32))) (st1 := []) rfl rfl rfl rfl rfl (by decide) ?_
  refine pt_s (pc1 := 2778) (st1 := [.int 1]) rfl rfl (fun _ => rfl) ?_
  exact pt_e rfl ⟨rfl, rfl⟩
set_option maxRecDepth 100000 in
set_option maxHeartbeats 40000000 in
theorem px_op_15 (a0 a1 a2 a3 a4 a5 : Int32) : px_T (some [a0, a1, a2, a3, a4, a5]) pm_law 2048 84000 (40, [(4, .int 0), (3, .ref 164), (2, .ref 136), (1, .ref 0), (0, .retAddr 0)], [.int 15], px_hs) 599837 7274195 (fun s1 => s1.2.2.1 = [.int 1] ∧ px_ins pm_law s1.1 = some (.ireturn, 1)) := by
  have ha1 : (-2147483648) ≤ a1.toInt ∧ a1.toInt ≤ 2147483647 := ⟨Int32.le_toInt a1, Int32.toInt_le a1⟩
  by_cases hs : a1.toInt < 0
  · have ha1 : (-2147483648) ≤ a1.toInt ∧ a1.toInt ≤ (-1) := ⟨ha1.1, by omega⟩
    refine pt_s (pc1 := 1267) (st1 := []) rfl rfl (fun _ => rfl) ?_
    refine pt_s (pc1 := 1268) (st1 := [.ref 0]) rfl rfl (fun _ => rfl) ?_
    refine pt_s (pc1 := 1269) (st1 := [.retAddr 0, .ref 0]) rfl rfl (fun _ => rfl) ?_
    refine pt_s (pc1 := 1271) (st1 := [.int 0, .retAddr 0, .ref 0]) rfl rfl (fun _ => rfl) ?_
    refine pt_s (pc1 := 1272) (st1 := [.int 1, .int 0, .retAddr 0, .ref 0]) rfl rfl (fun _ => rfl) ?_
    refine pt_s (pc1 := 1273) (st1 := [.int 1, .retAddr 0, .ref 0]) rfl rfl (fun _ => rfl) ?_
    refine pt_s (pc1 := 1274) (st1 := [.int a1, .ref 0]) rfl rfl (fun _ => rfl) ?_
    refine pt_s (pc1 := 1275) (st1 := [.ref 164, .int a1, .ref 0]) rfl rfl (fun _ => rfl) ?_
    refine pt_callv (N := pm_L_urgency) (as := [.ref 0, .int a1, .ref 164]) (rest := []) (f := 2047) (l := 83977) (c1 := 1) (k1 := 6) (c2 := 599836) (k2 := 7274189) (v := some (.int 1)) (h1 := px_hs ++ ([.inr (11, [])] : List px_E)) rfl rfl (fun _ => rfl) ?_ (Nat.le_of_ble_eq_true rfl) (Nat.le_of_ble_eq_true rfl) ?_
    · refine px_C_of rfl ?_
      refine pr_s (pc1 := 1) (st1 := [.ref 164]) rfl (fun _ => rfl) ?_
      refine pr_s (pc1 := 2) (st1 := [.int 0, .ref 164]) rfl (fun _ => rfl) ?_
      refine pr_s (pc1 := 3) (st1 := [.ref 0, .int 0, .ref 164]) rfl (fun _ => rfl) ?_
      refine pr_s (pc1 := 4) (st1 := [.int a1, .ref 0, .int 0, .ref 164]) rfl (fun _ => rfl) ?_
      refine pr_callx (N := pm_X6_urgency) (as := [.ref 0, .int a1]) (rest := [.int 0, .ref 164]) (f := 2046) (l := 83956) (c1 := 1) (k1 := 6) (c2 := 0) (k2 := 0) (E := 11) (h1 := px_hs ++ ([.inr (11, [])] : List px_E)) (a := 12) (y1 := 3) (y2 := 1) rfl (fun _ => rfl) ?_ (Nat.le_of_ble_eq_true rfl) (Nat.le_of_ble_eq_true rfl) rfl rfl rfl rfl ?_
      · refine px_C_of rfl ?_
        refine pr_s (pc1 := 1) (st1 := [.ref 0]) rfl (fun _ => rfl) ?_
        refine pr_s (pc1 := 2) (st1 := [.int a1, .ref 0]) rfl (fun _ => rfl) ?_
        refine pr_callo (N := pm_X6_needRule) (as := [.ref 0, .int a1]) (rest := []) (f := 2045) (l := 83935) (E := 11) (h1 := px_hs ++ ([.inr (11, [])] : List px_E)) rfl (fun _ => rfl) ?_ rfl ⟨rfl, rfl⟩
        · refine px_C_of rfl ?_
          refine pr_s (pc1 := 1) (st1 := [.int a1]) rfl (fun _ => rfl) ?_
          refine pr_bt (t := 12) (off := 11) (bb := decide (a1 < 0)) (st1 := []) rfl rfl rfl rfl (pb_ltT ha1.2 (show 0 ≤ (0 : Int32).toInt by decide) (by decide)) ?_
          refine pr_m (z1 := 1) (z2 := 6) (c1 := 0) (k1 := 0) (pc1 := 22) (st1 := [.ref 165]) (h1 := px_hs ++ ([.inr (11, [])] : List px_E)) rfl (fun _ => rfl) (Nat.le_of_ble_eq_true rfl) (Nat.le_of_ble_eq_true rfl) ?_
          exact pr_e rfl (fun _ => rfl) ⟨rfl, rfl⟩
      show px_R _ _ _ _ (13, [(0, .ref 0), (1, .int a1), (2, .ref 164)], [], _) _ _ _
      refine pr_s (pc1 := 14) (st1 := [.int 1]) rfl (fun _ => rfl) ?_
      exact pr_e rfl (fun _ => rfl) ⟨rfl, rfl⟩
    show px_T _ _ _ _ (1278, [(4, .int 0), (3, .ref 164), (2, .ref 136), (1, .ref 0), (0, .retAddr 0)], [.int 1], _) _ _ _
    refine pt_s (pc1 := 1280) (lv1 := [(5, .int 1), (4, .int 0), (3, .ref 164), (2, .ref 136), (1, .ref 0), (0, .retAddr 0)]) (st1 := []) rfl rfl (fun _ => rfl) ?_
    refine pt_s (pc1 := 1281) (st1 := [.ref 136]) rfl rfl (fun _ => rfl) ?_
    refine pt_s (pc1 := 1282) (st1 := [.retAddr 0, .ref 136]) rfl rfl (fun _ => rfl) ?_
    refine pt_s (pc1 := 1284) (st1 := [.int 0, .retAddr 0, .ref 136]) rfl rfl (fun _ => rfl) ?_
    refine pt_s (pc1 := 1285) (st1 := [.int 1, .int 0, .retAddr 0, .ref 136]) rfl rfl (fun _ => rfl) ?_
    refine pt_s (pc1 := 1286) (st1 := [.int 1, .retAddr 0, .ref 136]) rfl rfl (fun _ => rfl) ?_
    refine pt_s (pc1 := 1287) (st1 := [.int a1, .ref 136]) rfl rfl (fun _ => rfl) ?_
    refine pt_callv (N := pm_X10_urgency) (as := [.ref 136, .int a1]) (rest := []) (f := 2047) (l := 83979) (c1 := 0) (k1 := 0) (c2 := 599836) (k2 := 7274189) (v := some (.int 0)) (h1 := (px_hs ++ ([.inr (11, [])] : List px_E)).set 136 (.inr (10, [.ref 137, .int 0, .int 1, .ref 138, .ref 151, .long 0]))) rfl rfl (fun _ => rfl) ?_ (Nat.le_of_ble_eq_true rfl) (Nat.le_of_ble_eq_true rfl) ?_
    · refine px_C_of rfl ?_
      refine pr_s (pc1 := 1) (st1 := [.ref 136]) rfl (fun _ => rfl) ?_
      refine pr_s (pc1 := 2) (st1 := [.int a1, .ref 136]) rfl (fun _ => rfl) ?_
      refine pr_callv (N := pm_X10_has) (as := [.ref 136, .int a1]) (rest := []) (f := 2046) (l := 83958) (c1 := 0) (k1 := 0) (c2 := 0) (k2 := 0) (v := some (.int 0)) (h1 := (px_hs ++ ([.inr (11, [])] : List px_E)).set 136 (.inr (10, [.ref 137, .int 0, .int 1, .ref 138, .ref 151, .long 0]))) rfl (fun _ => rfl) ?_ (Nat.le_of_ble_eq_true rfl) (Nat.le_of_ble_eq_true rfl) ?_
      · refine px_C_of rfl ?_
        refine pr_s (pc1 := 1) (st1 := [.ref 136]) rfl (fun _ => rfl) ?_
        refine pr_s (pc1 := 2) (st1 := [.ref 136, .ref 136]) rfl (fun _ => rfl) ?_
        refine pr_s (pc1 := 3) (st1 := [.int a1, .ref 136, .ref 136]) rfl (fun _ => rfl) ?_
        refine pr_callv (N := pm_X10_isRule) (as := [.ref 136, .int a1]) (rest := [.ref 136]) (f := 2045) (l := 83937) (c1 := 0) (k1 := 0) (c2 := 0) (k2 := 0) (v := some (.int 0)) (h1 := px_hs ++ ([.inr (11, [])] : List px_E)) rfl (fun _ => rfl) ?_ (Nat.le_of_ble_eq_true rfl) (Nat.le_of_ble_eq_true rfl) ?_
        · refine px_C_of rfl ?_
          refine pr_s (pc1 := 1) (st1 := [.int a1]) rfl (fun _ => rfl) ?_
          refine pr_s (pc1 := 2) (st1 := [.int 0, .int a1]) rfl (fun _ => rfl) ?_
          refine pr_s (pc1 := 3) (st1 := [.ref 136, .int 0, .int a1]) rfl (fun _ => rfl) ?_
          refine pr_s (pc1 := 6) (st1 := [.int 0, .int 0, .int a1]) rfl (fun _ => rfl) ?_
          refine pr_s (pc1 := 7) (st1 := [.int 1, .int 0, .int 0, .int a1]) rfl (fun _ => rfl) ?_
          refine pr_s (pc1 := 8) (st1 := [.int (-1), .int 0, .int a1]) rfl (fun _ => rfl) ?_
          refine pr_callv (N := pm_X10_is) (as := [.int a1, .int 0, .int (-1)]) (rest := []) (f := 2044) (l := 83915) (c1 := 0) (k1 := 0) (c2 := 0) (k2 := 0) (v := some (.int 0)) (h1 := px_hs ++ ([.inr (11, [])] : List px_E)) rfl (fun _ => rfl) ?_ (Nat.le_of_ble_eq_true rfl) (Nat.le_of_ble_eq_true rfl) ?_
          · refine px_C_of rfl ?_
            refine pr_s (pc1 := 1) (st1 := [.int a1]) rfl (fun _ => rfl) ?_
            refine pr_s (pc1 := 2) (st1 := [.int 0, .int a1]) rfl (fun _ => rfl) ?_
            refine pr_bt (t := 14) (off := 12) (bb := decide (a1 < 0)) (st1 := []) rfl rfl rfl rfl (pb_ltT ha1.2 (show 0 ≤ (0 : Int32).toInt by decide) (by decide)) ?_
            refine pr_s (pc1 := 15) (st1 := [.int 0]) rfl (fun _ => rfl) ?_
            exact pr_e rfl (fun _ => rfl) ⟨rfl, rfl⟩
          show px_R _ _ _ _ (11, [(0, .ref 136), (1, .int a1)], [.int 0], _) _ _ _
          exact pr_e rfl (fun _ => rfl) ⟨rfl, rfl⟩
        show px_R _ _ _ _ (6, [(0, .ref 136), (1, .int a1)], [.int 0, .ref 136], _) _ _ _
        refine pr_bt (t := 13) (off := 7) (bb := decide ((0 : Int32) = 0)) (st1 := [.ref 136]) rfl rfl rfl rfl (by decide) ?_
        refine pr_s (pc1 := 14) (st1 := [.int 1, .ref 136]) rfl (fun _ => rfl) ?_
        refine pr_s (pc1 := 17) (st1 := []) (h1 := (px_hs ++ ([.inr (11, [])] : List px_E)).set 136 (.inr (10, [.ref 137, .int 0, .int 1, .ref 138, .ref 151, .long 0]))) rfl (fun _ => rfl) ?_
        refine pr_s (pc1 := 18) (st1 := [.ref 136]) rfl (fun _ => rfl) ?_
        refine pr_s (pc1 := 21) (st1 := [.int 1]) rfl (fun _ => rfl) ?_
        refine pr_bt (t := 28) (off := 7) (bb := !decide ((1 : Int32) = 0)) (st1 := []) rfl rfl rfl rfl (px_not_t (by decide)) ?_
        refine pr_s (pc1 := 29) (st1 := [.int 0]) rfl (fun _ => rfl) ?_
        exact pr_e rfl (fun _ => rfl) ⟨rfl, rfl⟩
      show px_R _ _ _ _ (5, [(0, .ref 136), (1, .int a1)], [.int 0], _) _ _ _
      refine pr_bt (t := 20) (off := 15) (bb := decide ((0 : Int32) = 0)) (st1 := []) rfl rfl rfl rfl (by decide) ?_
      refine pr_s (pc1 := 21) (st1 := [.int 0]) rfl (fun _ => rfl) ?_
      exact pr_e rfl (fun _ => rfl) ⟨rfl, rfl⟩
    show px_T _ _ _ _ (1290, [(5, .int 1), (4, .int 0), (3, .ref 164), (2, .ref 136), (1, .ref 0), (0, .retAddr 0)], [.int 0], _) _ _ _
    refine pt_s (pc1 := 1292) (lv1 := [(6, .int 0), (5, .int 1), (4, .int 0), (3, .ref 164), (2, .ref 136), (1, .ref 0), (0, .retAddr 0)]) (st1 := []) rfl rfl (fun _ => rfl) ?_
    refine pt_s (pc1 := 1293) (st1 := [.ref 136]) rfl rfl (fun _ => rfl) ?_
    refine pt_callv (N := pm_X10_thrown) (as := [.ref 136]) (rest := []) (f := 2047) (l := 83980) (c1 := 0) (k1 := 0) (c2 := 599836) (k2 := 7274189) (v := some (.int 1)) (h1 := (px_hs ++ ([.inr (11, [])] : List px_E)).set 136 (.inr (10, [.ref 137, .int 0, .int 1, .ref 138, .ref 151, .long 0]))) rfl rfl (fun _ => rfl) ?_ (Nat.le_of_ble_eq_true rfl) (Nat.le_of_ble_eq_true rfl) ?_
    · refine px_C_of rfl ?_
      refine pr_s (pc1 := 1) (st1 := [.ref 136]) rfl (fun _ => rfl) ?_
      refine pr_s (pc1 := 4) (st1 := [.int 1]) rfl (fun _ => rfl) ?_
      exact pr_e rfl (fun _ => rfl) ⟨rfl, rfl⟩
    show px_T _ _ _ _ (1296, [(6, .int 0), (5, .int 1), (4, .int 0), (3, .ref 164), (2, .ref 136), (1, .ref 0), (0, .retAddr 0)], [.int 1], _) _ _ _
    refine pt_s (pc1 := 1298) (st1 := [.int 1, .int 1]) rfl rfl (fun _ => rfl) ?_
    refine pt_bt (t := 1303) (off := 5) (bb := decide ((1 : Int32) = 1)) (st1 := []) rfl rfl rfl rfl rfl (by decide) ?_
    refine pt_s (pc1 := 1305) (st1 := [.int 1]) rfl rfl (fun _ => rfl) ?_
    refine pt_bt (t := 1320) (off := 15) (bb := !decide ((1 : Int32) = 0)) (st1 := []) rfl rfl rfl rfl rfl (px_not_t (by decide)) ?_
    refine pt_s (pc1 := 2771) (st1 := []) rfl rfl (fun _ => rfl) ?_
    refine pt_s (pc1 := 2774) (lv1 := [(4, .int 6), (6, .int 0), (5, .int 1), (3, .ref 164), (2, .ref 136), (1, .ref 0), (0, .retAddr 0)]) (st1 := []) rfl rfl (fun _ => rfl) ?_
    refine pt_s (pc1 := 23) (st1 := []) rfl rfl (fun _ => rfl) ?_
    refine pt_s (pc1 := 25) (st1 := [.int 6]) rfl rfl (fun _ => rfl) ?_
    refine pt_s (pc1 := 26) (st1 := [.retAddr 0, .int 6]) rfl rfl (fun _ => rfl) ?_
    refine pt_s (pc1 := 27) (st1 := [.int 6, .int 6]) rfl rfl (fun _ => rfl) ?_
    refine pt_s (pc1 := 29) (st1 := [.int 6, .int 6, .int 6]) rfl rfl (fun _ => rfl) ?_
    refine pt_s (pc1 := 30) (st1 := [.int 0, .int 6]) rfl rfl (fun _ => rfl) ?_
    refine pt_bt (t := 2777) (off := 2747) (bb := decide ((0 : Int32) < (6 : Int32))) (st1 := []) rfl rfl rfl rfl rfl (by decide) ?_
    refine pt_s (pc1 := 2778) (st1 := [.int 1]) rfl rfl (fun _ => rfl) ?_
    exact pt_e rfl ⟨rfl, rfl⟩
  · have ha1 : 0 ≤ a1.toInt ∧ a1.toInt ≤ 2147483647 := ⟨by omega, ha1.2⟩
    refine pt_s (pc1 := 1267) (st1 := []) rfl rfl (fun _ => rfl) ?_
    refine pt_s (pc1 := 1268) (st1 := [.ref 0]) rfl rfl (fun _ => rfl) ?_
    refine pt_s (pc1 := 1269) (st1 := [.retAddr 0, .ref 0]) rfl rfl (fun _ => rfl) ?_
    refine pt_s (pc1 := 1271) (st1 := [.int 0, .retAddr 0, .ref 0]) rfl rfl (fun _ => rfl) ?_
    refine pt_s (pc1 := 1272) (st1 := [.int 1, .int 0, .retAddr 0, .ref 0]) rfl rfl (fun _ => rfl) ?_
    refine pt_s (pc1 := 1273) (st1 := [.int 1, .retAddr 0, .ref 0]) rfl rfl (fun _ => rfl) ?_
    refine pt_s (pc1 := 1274) (st1 := [.int a1, .ref 0]) rfl rfl (fun _ => rfl) ?_
    refine pt_s (pc1 := 1275) (st1 := [.ref 164, .int a1, .ref 0]) rfl rfl (fun _ => rfl) ?_
    refine pt_callv (N := pm_L_urgency) (as := [.ref 0, .int a1, .ref 164]) (rest := []) (f := 2047) (l := 83977) (c1 := 1) (k1 := 6) (c2 := 599836) (k2 := 7274189) (v := some (.int 1)) (h1 := px_hs ++ ([.inr (11, [])] : List px_E)) rfl rfl (fun _ => rfl) ?_ (Nat.le_of_ble_eq_true rfl) (Nat.le_of_ble_eq_true rfl) ?_
    · refine px_C_of rfl ?_
      refine pr_s (pc1 := 1) (st1 := [.ref 164]) rfl (fun _ => rfl) ?_
      refine pr_s (pc1 := 2) (st1 := [.int 0, .ref 164]) rfl (fun _ => rfl) ?_
      refine pr_s (pc1 := 3) (st1 := [.ref 0, .int 0, .ref 164]) rfl (fun _ => rfl) ?_
      refine pr_s (pc1 := 4) (st1 := [.int a1, .ref 0, .int 0, .ref 164]) rfl (fun _ => rfl) ?_
      refine pr_callx (N := pm_X6_urgency) (as := [.ref 0, .int a1]) (rest := [.int 0, .ref 164]) (f := 2046) (l := 83956) (c1 := 1) (k1 := 6) (c2 := 0) (k2 := 0) (E := 11) (h1 := px_hs ++ ([.inr (11, [])] : List px_E)) (a := 12) (y1 := 3) (y2 := 1) rfl (fun _ => rfl) ?_ (Nat.le_of_ble_eq_true rfl) (Nat.le_of_ble_eq_true rfl) rfl rfl rfl rfl ?_
      · refine px_C_of rfl ?_
        refine pr_s (pc1 := 1) (st1 := [.ref 0]) rfl (fun _ => rfl) ?_
        refine pr_s (pc1 := 2) (st1 := [.int a1, .ref 0]) rfl (fun _ => rfl) ?_
        refine pr_callo (N := pm_X6_needRule) (as := [.ref 0, .int a1]) (rest := []) (f := 2045) (l := 83935) (E := 11) (h1 := px_hs ++ ([.inr (11, [])] : List px_E)) rfl (fun _ => rfl) ?_ rfl ⟨rfl, rfl⟩
        · refine px_C_of rfl ?_
          refine pr_s (pc1 := 1) (st1 := [.int a1]) rfl (fun _ => rfl) ?_
          refine pr_bf (t := 12) (off := 11) (bb := decide (a1 < 0)) (st1 := []) rfl rfl rfl rfl (pb_ltF ha1.1 (show (0 : Int32).toInt ≤ 0 by decide) (by decide)) ?_
          refine pr_s (pc1 := 5) (st1 := [.int a1]) rfl (fun _ => rfl) ?_
          refine pr_s (pc1 := 6) (st1 := [.ref 0, .int a1]) rfl (fun _ => rfl) ?_
          refine pr_s (pc1 := 9) (st1 := [.int 0, .int a1]) rfl (fun _ => rfl) ?_
          refine pr_bf (t := 23) (off := 14) (bb := decide (a1 < 0)) (st1 := []) rfl rfl rfl rfl (pb_ltF ha1.1 (show (0 : Int32).toInt ≤ 0 by decide) (by decide)) ?_
          refine pr_m (z1 := 1) (z2 := 6) (c1 := 0) (k1 := 0) (pc1 := 22) (st1 := [.ref 165]) (h1 := px_hs ++ ([.inr (11, [])] : List px_E)) rfl (fun _ => rfl) (Nat.le_of_ble_eq_true rfl) (Nat.le_of_ble_eq_true rfl) ?_
          exact pr_e rfl (fun _ => rfl) ⟨rfl, rfl⟩
      show px_R _ _ _ _ (13, [(0, .ref 0), (1, .int a1), (2, .ref 164)], [], _) _ _ _
      refine pr_s (pc1 := 14) (st1 := [.int 1]) rfl (fun _ => rfl) ?_
      exact pr_e rfl (fun _ => rfl) ⟨rfl, rfl⟩
    show px_T _ _ _ _ (1278, [(4, .int 0), (3, .ref 164), (2, .ref 136), (1, .ref 0), (0, .retAddr 0)], [.int 1], _) _ _ _
    refine pt_s (pc1 := 1280) (lv1 := [(5, .int 1), (4, .int 0), (3, .ref 164), (2, .ref 136), (1, .ref 0), (0, .retAddr 0)]) (st1 := []) rfl rfl (fun _ => rfl) ?_
    refine pt_s (pc1 := 1281) (st1 := [.ref 136]) rfl rfl (fun _ => rfl) ?_
    refine pt_s (pc1 := 1282) (st1 := [.retAddr 0, .ref 136]) rfl rfl (fun _ => rfl) ?_
    refine pt_s (pc1 := 1284) (st1 := [.int 0, .retAddr 0, .ref 136]) rfl rfl (fun _ => rfl) ?_
    refine pt_s (pc1 := 1285) (st1 := [.int 1, .int 0, .retAddr 0, .ref 136]) rfl rfl (fun _ => rfl) ?_
    refine pt_s (pc1 := 1286) (st1 := [.int 1, .retAddr 0, .ref 136]) rfl rfl (fun _ => rfl) ?_
    refine pt_s (pc1 := 1287) (st1 := [.int a1, .ref 136]) rfl rfl (fun _ => rfl) ?_
    refine pt_callv (N := pm_X10_urgency) (as := [.ref 136, .int a1]) (rest := []) (f := 2047) (l := 83979) (c1 := 0) (k1 := 0) (c2 := 599836) (k2 := 7274189) (v := some (.int 0)) (h1 := (px_hs ++ ([.inr (11, [])] : List px_E)).set 136 (.inr (10, [.ref 137, .int 0, .int 1, .ref 138, .ref 151, .long 0]))) rfl rfl (fun _ => rfl) ?_ (Nat.le_of_ble_eq_true rfl) (Nat.le_of_ble_eq_true rfl) ?_
    · refine px_C_of rfl ?_
      refine pr_s (pc1 := 1) (st1 := [.ref 136]) rfl (fun _ => rfl) ?_
      refine pr_s (pc1 := 2) (st1 := [.int a1, .ref 136]) rfl (fun _ => rfl) ?_
      refine pr_callv (N := pm_X10_has) (as := [.ref 136, .int a1]) (rest := []) (f := 2046) (l := 83958) (c1 := 0) (k1 := 0) (c2 := 0) (k2 := 0) (v := some (.int 0)) (h1 := (px_hs ++ ([.inr (11, [])] : List px_E)).set 136 (.inr (10, [.ref 137, .int 0, .int 1, .ref 138, .ref 151, .long 0]))) rfl (fun _ => rfl) ?_ (Nat.le_of_ble_eq_true rfl) (Nat.le_of_ble_eq_true rfl) ?_
      · refine px_C_of rfl ?_
        refine pr_s (pc1 := 1) (st1 := [.ref 136]) rfl (fun _ => rfl) ?_
        refine pr_s (pc1 := 2) (st1 := [.ref 136, .ref 136]) rfl (fun _ => rfl) ?_
        refine pr_s (pc1 := 3) (st1 := [.int a1, .ref 136, .ref 136]) rfl (fun _ => rfl) ?_
        refine pr_callv (N := pm_X10_isRule) (as := [.ref 136, .int a1]) (rest := [.ref 136]) (f := 2045) (l := 83937) (c1 := 0) (k1 := 0) (c2 := 0) (k2 := 0) (v := some (.int 0)) (h1 := px_hs ++ ([.inr (11, [])] : List px_E)) rfl (fun _ => rfl) ?_ (Nat.le_of_ble_eq_true rfl) (Nat.le_of_ble_eq_true rfl) ?_
        · refine px_C_of rfl ?_
          refine pr_s (pc1 := 1) (st1 := [.int a1]) rfl (fun _ => rfl) ?_
          refine pr_s (pc1 := 2) (st1 := [.int 0, .int a1]) rfl (fun _ => rfl) ?_
          refine pr_s (pc1 := 3) (st1 := [.ref 136, .int 0, .int a1]) rfl (fun _ => rfl) ?_
          refine pr_s (pc1 := 6) (st1 := [.int 0, .int 0, .int a1]) rfl (fun _ => rfl) ?_
          refine pr_s (pc1 := 7) (st1 := [.int 1, .int 0, .int 0, .int a1]) rfl (fun _ => rfl) ?_
          refine pr_s (pc1 := 8) (st1 := [.int (-1), .int 0, .int a1]) rfl (fun _ => rfl) ?_
          refine pr_callv (N := pm_X10_is) (as := [.int a1, .int 0, .int (-1)]) (rest := []) (f := 2044) (l := 83915) (c1 := 0) (k1 := 0) (c2 := 0) (k2 := 0) (v := some (.int 0)) (h1 := px_hs ++ ([.inr (11, [])] : List px_E)) rfl (fun _ => rfl) ?_ (Nat.le_of_ble_eq_true rfl) (Nat.le_of_ble_eq_true rfl) ?_
          · refine px_C_of rfl ?_
            refine pr_s (pc1 := 1) (st1 := [.int a1]) rfl (fun _ => rfl) ?_
            refine pr_s (pc1 := 2) (st1 := [.int 0, .int a1]) rfl (fun _ => rfl) ?_
            refine pr_bf (t := 14) (off := 12) (bb := decide (a1 < 0)) (st1 := []) rfl rfl rfl rfl (pb_ltF ha1.1 (show (0 : Int32).toInt ≤ 0 by decide) (by decide)) ?_
            refine pr_s (pc1 := 6) (st1 := [.int a1]) rfl (fun _ => rfl) ?_
            refine pr_s (pc1 := 7) (st1 := [.int (-1), .int a1]) rfl (fun _ => rfl) ?_
            refine pr_bt (t := 14) (off := 7) (bb := decide (((-1) : Int32) < a1)) (st1 := []) rfl rfl rfl rfl (pb_ltT (show ((-1) : Int32).toInt ≤ (-1) by decide) ha1.1 (by decide)) ?_
            refine pr_s (pc1 := 15) (st1 := [.int 0]) rfl (fun _ => rfl) ?_
            exact pr_e rfl (fun _ => rfl) ⟨rfl, rfl⟩
          show px_R _ _ _ _ (11, [(0, .ref 136), (1, .int a1)], [.int 0], _) _ _ _
          exact pr_e rfl (fun _ => rfl) ⟨rfl, rfl⟩
        show px_R _ _ _ _ (6, [(0, .ref 136), (1, .int a1)], [.int 0, .ref 136], _) _ _ _
        refine pr_bt (t := 13) (off := 7) (bb := decide ((0 : Int32) = 0)) (st1 := [.ref 136]) rfl rfl rfl rfl (by decide) ?_
        refine pr_s (pc1 := 14) (st1 := [.int 1, .ref 136]) rfl (fun _ => rfl) ?_
        refine pr_s (pc1 := 17) (st1 := []) (h1 := (px_hs ++ ([.inr (11, [])] : List px_E)).set 136 (.inr (10, [.ref 137, .int 0, .int 1, .ref 138, .ref 151, .long 0]))) rfl (fun _ => rfl) ?_
        refine pr_s (pc1 := 18) (st1 := [.ref 136]) rfl (fun _ => rfl) ?_
        refine pr_s (pc1 := 21) (st1 := [.int 1]) rfl (fun _ => rfl) ?_
        refine pr_bt (t := 28) (off := 7) (bb := !decide ((1 : Int32) = 0)) (st1 := []) rfl rfl rfl rfl (px_not_t (by decide)) ?_
        refine pr_s (pc1 := 29) (st1 := [.int 0]) rfl (fun _ => rfl) ?_
        exact pr_e rfl (fun _ => rfl) ⟨rfl, rfl⟩
      show px_R _ _ _ _ (5, [(0, .ref 136), (1, .int a1)], [.int 0], _) _ _ _
      refine pr_bt (t := 20) (off := 15) (bb := decide ((0 : Int32) = 0)) (st1 := []) rfl rfl rfl rfl (by decide) ?_
      refine pr_s (pc1 := 21) (st1 := [.int 0]) rfl (fun _ => rfl) ?_
      exact pr_e rfl (fun _ => rfl) ⟨rfl, rfl⟩
    show px_T _ _ _ _ (1290, [(5, .int 1), (4, .int 0), (3, .ref 164), (2, .ref 136), (1, .ref 0), (0, .retAddr 0)], [.int 0], _) _ _ _
    refine pt_s (pc1 := 1292) (lv1 := [(6, .int 0), (5, .int 1), (4, .int 0), (3, .ref 164), (2, .ref 136), (1, .ref 0), (0, .retAddr 0)]) (st1 := []) rfl rfl (fun _ => rfl) ?_
    refine pt_s (pc1 := 1293) (st1 := [.ref 136]) rfl rfl (fun _ => rfl) ?_
    refine pt_callv (N := pm_X10_thrown) (as := [.ref 136]) (rest := []) (f := 2047) (l := 83980) (c1 := 0) (k1 := 0) (c2 := 599836) (k2 := 7274189) (v := some (.int 1)) (h1 := (px_hs ++ ([.inr (11, [])] : List px_E)).set 136 (.inr (10, [.ref 137, .int 0, .int 1, .ref 138, .ref 151, .long 0]))) rfl rfl (fun _ => rfl) ?_ (Nat.le_of_ble_eq_true rfl) (Nat.le_of_ble_eq_true rfl) ?_
    · refine px_C_of rfl ?_
      refine pr_s (pc1 := 1) (st1 := [.ref 136]) rfl (fun _ => rfl) ?_
      refine pr_s (pc1 := 4) (st1 := [.int 1]) rfl (fun _ => rfl) ?_
      exact pr_e rfl (fun _ => rfl) ⟨rfl, rfl⟩
    show px_T _ _ _ _ (1296, [(6, .int 0), (5, .int 1), (4, .int 0), (3, .ref 164), (2, .ref 136), (1, .ref 0), (0, .retAddr 0)], [.int 1], _) _ _ _
    refine pt_s (pc1 := 1298) (st1 := [.int 1, .int 1]) rfl rfl (fun _ => rfl) ?_
    refine pt_bt (t := 1303) (off := 5) (bb := decide ((1 : Int32) = 1)) (st1 := []) rfl rfl rfl rfl rfl (by decide) ?_
    refine pt_s (pc1 := 1305) (st1 := [.int 1]) rfl rfl (fun _ => rfl) ?_
    refine pt_bt (t := 1320) (off := 15) (bb := !decide ((1 : Int32) = 0)) (st1 := []) rfl rfl rfl rfl rfl (px_not_t (by decide)) ?_
    refine pt_s (pc1 := 2771) (st1 := []) rfl rfl (fun _ => rfl) ?_
    refine pt_s (pc1 := 2774) (lv1 := [(4, .int 6), (6, .int 0), (5, .int 1), (3, .ref 164), (2, .ref 136), (1, .ref 0), (0, .retAddr 0)]) (st1 := []) rfl rfl (fun _ => rfl) ?_
    refine pt_s (pc1 := 23) (st1 := []) rfl rfl (fun _ => rfl) ?_
    refine pt_s (pc1 := 25) (st1 := [.int 6]) rfl rfl (fun _ => rfl) ?_
    refine pt_s (pc1 := 26) (st1 := [.retAddr 0, .int 6]) rfl rfl (fun _ => rfl) ?_
    refine pt_s (pc1 := 27) (st1 := [.int 6, .int 6]) rfl rfl (fun _ => rfl) ?_
    refine pt_s (pc1 := 29) (st1 := [.int 6, .int 6, .int 6]) rfl rfl (fun _ => rfl) ?_
    refine pt_s (pc1 := 30) (st1 := [.int 0, .int 6]) rfl rfl (fun _ => rfl) ?_
    refine pt_bt (t := 2777) (off := 2747) (bb := decide ((0 : Int32) < (6 : Int32))) (st1 := []) rfl rfl rfl rfl rfl (by decide) ?_
    refine pt_s (pc1 := 2778) (st1 := [.int 1]) rfl rfl (fun _ => rfl) ?_
    exact pt_e rfl ⟨rfl, rfl⟩
