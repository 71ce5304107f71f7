/-! THE LAW'S CALLS, ONE BY ONE, ON A NEW OBJECT (wip/gen/p1gen.py) -/
set_option maxRecDepth 100000 in
set_option maxHeartbeats 40000000 in
theorem px_op_29 (a0 a1 a2 a3 a4 a5 : Int32) : px_T (some [a0, a1, a2, a3, a4, a5]) pm_law 2048 84000 (40, [(4, .int 0), (3, .ref 164), (2, .ref 136), (1, .ref 0), (0, .retAddr 0)], [.int 29], px_hs) 599837 7274195 (fun s1 => s1.2.2.1 = [.int 1] ∧ px_ins pm_law s1.1 = some (.ireturn, 1)) := by
  have ha1 : (-2147483648) ≤ a1.toInt ∧ a1.toInt ≤ 2147483647 := ⟨Int32.le_toInt a1, Int32.toInt_le a1⟩
  by_cases hs : a1.toInt < 0
  · have ha1 : (-2147483648) ≤ a1.toInt ∧ a1.toInt ≤ (-1) := ⟨ha1.1, by omega⟩
    refine pt_s (pc1 := 1970) (st1 := []) rfl rfl (fun _ => rfl) ?_
    refine pt_s (pc1 := 1971) (st1 := [.ref 0]) rfl rfl (fun _ => rfl) ?_
    refine pt_s (pc1 := 1972) (st1 := [.retAddr 0, .ref 0]) rfl rfl (fun _ => rfl) ?_
    refine pt_s (pc1 := 1974) (st1 := [.int 0, .retAddr 0, .ref 0]) rfl rfl (fun _ => rfl) ?_
    refine pt_s (pc1 := 1975) (st1 := [.int 1, .int 0, .retAddr 0, .ref 0]) rfl rfl (fun _ => rfl) ?_
    refine pt_s (pc1 := 1976) (st1 := [.int 1, .retAddr 0, .ref 0]) rfl rfl (fun _ => rfl) ?_
    refine pt_s (pc1 := 1977) (st1 := [.int a1, .ref 0]) rfl rfl (fun _ => rfl) ?_
    refine pt_s (pc1 := 1978) (st1 := [.ref 164, .int a1, .ref 0]) rfl rfl (fun _ => rfl) ?_
    refine pt_callv (N := pm_L_distance) (as := [.ref 0, .int a1, .ref 164]) (rest := []) (f := 2047) (l := 83977) (c1 := 1) (k1 := 6) (c2 := 599836) (k2 := 7274189) (v := some (.int 1)) (h1 := ph_14) rfl rfl (fun _ => rfl) ?_ (Nat.le_of_ble_eq_true rfl) (Nat.le_of_ble_eq_true rfl) ?_
    · refine px_C_of rfl ?_
      refine pr_s (pc1 := 1) (st1 := [.ref 164]) rfl (fun _ => rfl) ?_
      refine pr_s (pc1 := 2) (st1 := [.int 0, .ref 164]) rfl (fun _ => rfl) ?_
      refine pr_s (pc1 := 3) (st1 := [.ref 0, .int 0, .ref 164]) rfl (fun _ => rfl) ?_
      refine pr_s (pc1 := 4) (st1 := [.int a1, .ref 0, .int 0, .ref 164]) rfl (fun _ => rfl) ?_
      refine pr_callx (N := pm_X6_distance) (as := [.ref 0, .int a1]) (rest := [.int 0, .ref 164]) (f := 2046) (l := 83955) (c1 := 1) (k1 := 6) (c2 := 0) (k2 := 0) (E := 11) (h1 := ph_14) (a := 12) (y1 := 3) (y2 := 1) rfl (fun ex => px_inv_hs ex rfl rfl rfl pg_0 rfl rfl rfl rfl) ?_ (Nat.le_of_ble_eq_true rfl) (Nat.le_of_ble_eq_true rfl) rfl rfl rfl rfl ?_
      · refine px_C_of rfl ?_
        refine pr_s (pc1 := 1) (st1 := [.ref 0]) rfl (fun _ => rfl) ?_
        refine pr_s (pc1 := 2) (st1 := [.int a1, .ref 0]) rfl (fun _ => rfl) ?_
        refine pr_callo (N := pm_X6_needFact) (as := [.ref 0, .int a1]) (rest := []) (f := 2045) (l := 83933) (E := 11) (h1 := ph_14) rfl (fun ex => px_inv_hs ex rfl rfl rfl pg_0 rfl rfl rfl rfl) ?_ rfl ⟨rfl, rfl⟩
        · refine px_C_of rfl ?_
          refine pr_s (pc1 := 1) (st1 := [.ref 0]) rfl (fun _ => rfl) ?_
          refine pr_getf (pc1 := 4) (v := .ref 92) rfl rfl pg_0 rfl rfl ?_
          refine pr_getf (pc1 := 7) (v := .ref 93) rfl rfl pg_22 rfl rfl ?_
          refine pr_s (pc1 := 8) (st1 := [.int a1, .ref 93]) rfl (fun _ => rfl) ?_
          refine pr_callv (N := pm_X2_placeOf) (as := [.ref 93, .int a1]) (rest := []) (f := 2044) (l := 83911) (c1 := 0) (k1 := 0) (c2 := 1) (k2 := 6) (v := some (.int (-1))) (h1 := px_hs) rfl (fun ex => px_inv_hs ex rfl rfl rfl pg_23 rfl rfl rfl rfl) ?_ (Nat.le_of_ble_eq_true rfl) (Nat.le_of_ble_eq_true rfl) ?_
          · refine px_C_of rfl ?_
            refine pr_s (pc1 := 1) (st1 := [.int a1]) rfl (fun _ => rfl) ?_
            refine pr_bt (t := 12) (off := 11) (bb := decide (a1 < 0)) (st1 := []) rfl rfl rfl rfl (pb_ltT ha1.2 (show 0 ≤ (0 : Int32).toInt by decide) (by decide)) ?_
            refine pr_s (pc1 := 13) (st1 := [.int (-1)]) rfl (fun _ => rfl) ?_
            exact pr_e rfl (fun _ => rfl) ⟨rfl, rfl⟩
          show px_R _ _ _ _ (11, [(0, .ref 0), (1, .int a1)], [.int (-1)], _) _ _ _
          refine pr_s (pc1 := 12) (lv1 := [(2, .int (-1)), (0, .ref 0), (1, .int a1)]) (st1 := []) rfl (fun _ => rfl) ?_
          refine pr_s (pc1 := 13) (st1 := [.int (-1)]) rfl (fun _ => rfl) ?_
          refine pr_bf (t := 27) (off := 14) (bb := decide ((0 : Int32) ≤ ((-1) : Int32))) (st1 := []) rfl rfl rfl rfl (by decide) ?_
          refine pr_mh (z1 := 1) (z2 := 6) (c1 := 0) (k1 := 0) (pc1 := 26) (n := 165) (r := []) (h1 := ph_14) (es := fun n => [.inr (11, [])]) rfl (fun _ => rfl) pl_0 rfl (Nat.le_of_ble_eq_true rfl) (Nat.le_of_ble_eq_true rfl) ?_
          exact pr_e rfl (fun _ => rfl) ⟨rfl, rfl⟩
      show px_R _ _ _ _ (13, [(0, .ref 0), (1, .int a1), (2, .ref 164)], [], _) _ _ _
      refine pr_s (pc1 := 14) (st1 := [.int 1]) rfl (fun _ => rfl) ?_
      exact pr_e rfl (fun _ => rfl) ⟨rfl, rfl⟩
    show px_T _ _ _ _ (1981, [(4, .int 0), (3, .ref 164), (2, .ref 136), (1, .ref 0), (0, .retAddr 0)], [.int 1], _) _ _ _
    refine pt_s (pc1 := 1983) (lv1 := [(5, .int 1), (4, .int 0), (3, .ref 164), (2, .ref 136), (1, .ref 0), (0, .retAddr 0)]) (st1 := []) rfl rfl (fun _ => rfl) ?_
    refine pt_s (pc1 := 1984) (st1 := [.ref 136]) rfl rfl (fun _ => rfl) ?_
    refine pt_s (pc1 := 1985) (st1 := [.retAddr 0, .ref 136]) rfl rfl (fun _ => rfl) ?_
    refine pt_s (pc1 := 1987) (st1 := [.int 0, .retAddr 0, .ref 136]) rfl rfl (fun _ => rfl) ?_
    refine pt_s (pc1 := 1988) (st1 := [.int 1, .int 0, .retAddr 0, .ref 136]) rfl rfl (fun _ => rfl) ?_
    refine pt_s (pc1 := 1989) (st1 := [.int 1, .retAddr 0, .ref 136]) rfl rfl (fun _ => rfl) ?_
    refine pt_s (pc1 := 1990) (st1 := [.int a1, .ref 136]) rfl rfl (fun _ => rfl) ?_
    refine pt_callv (N := pm_X10_distance) (as := [.ref 136, .int a1]) (rest := []) (f := 2047) (l := 83979) (c1 := 0) (k1 := 0) (c2 := 599836) (k2 := 7274189) (v := some (.int 0)) (h1 := ph_15) rfl rfl (fun ex => px_inv_hs ex rfl rfl rfl pg_20 rfl rfl rfl rfl) ?_ (Nat.le_of_ble_eq_true rfl) (Nat.le_of_ble_eq_true rfl) ?_
    · refine px_C_of rfl ?_
      refine pr_s (pc1 := 1) (st1 := [.ref 136]) rfl (fun _ => rfl) ?_
      refine pr_s (pc1 := 2) (st1 := [.int a1, .ref 136]) rfl (fun _ => rfl) ?_
      refine pr_callv (N := pm_X10_isFact) (as := [.ref 136, .int a1]) (rest := []) (f := 2046) (l := 83958) (c1 := 0) (k1 := 0) (c2 := 0) (k2 := 0) (v := some (.int 0)) (h1 := ph_15) rfl (fun ex => px_inv_hs ex rfl rfl rfl pg_20 rfl rfl rfl rfl) ?_ (Nat.le_of_ble_eq_true rfl) (Nat.le_of_ble_eq_true rfl) ?_
      · refine px_C_of rfl ?_
        refine pr_s (pc1 := 1) (st1 := [.ref 136]) rfl (fun _ => rfl) ?_
        refine pr_s (pc1 := 2) (st1 := [.ref 136, .ref 136]) rfl (fun _ => rfl) ?_
        refine pr_getf (pc1 := 5) (v := .ref 138) rfl rfl pg_20 rfl rfl ?_
        refine pr_s (pc1 := 6) (st1 := [.int a1, .ref 138, .ref 136]) rfl (fun _ => rfl) ?_
        refine pr_callv (N := pm_X9_place) (as := [.ref 138, .int a1]) (rest := [.ref 136]) (f := 2045) (l := 83936) (c1 := 0) (k1 := 0) (c2 := 0) (k2 := 0) (v := some (.int (-1))) (h1 := ph_14) rfl (fun ex => px_inv_hs ex rfl rfl rfl pg_506 rfl rfl rfl rfl) ?_ (Nat.le_of_ble_eq_true rfl) (Nat.le_of_ble_eq_true rfl) ?_
        · refine px_C_of rfl ?_
          refine pr_s (pc1 := 1) (st1 := [.ref 138]) rfl (fun _ => rfl) ?_
          refine pr_getf (pc1 := 4) (v := .ref 141) rfl rfl pg_506 rfl rfl ?_
          refine pr_getf (pc1 := 7) (v := .int 0) rfl rfl pg_507 rfl rfl ?_
          refine pr_s (pc1 := 8) (st1 := [.int 1, .int 0]) rfl (fun _ => rfl) ?_
          refine pr_s (pc1 := 9) (st1 := [.int (-1)]) rfl (fun _ => rfl) ?_
          refine pr_s (pc1 := 10) (lv1 := [(2, .int (-1)), (0, .ref 138), (1, .int a1)]) (st1 := []) rfl (fun _ => rfl) ?_
          refine pr_s (pc1 := 11) (st1 := [.int (-1)]) rfl (fun _ => rfl) ?_
          refine pr_bt (t := 33) (off := 22) (bb := decide (((-1) : Int32) < 0)) (st1 := []) rfl rfl rfl rfl (by decide) ?_
          refine pr_s (pc1 := 34) (st1 := [.int (-1)]) rfl (fun _ => rfl) ?_
          exact pr_e rfl (fun _ => rfl) ⟨rfl, rfl⟩
        show px_R _ _ _ _ (9, [(0, .ref 136), (1, .int a1)], [.int (-1), .ref 136], _) _ _ _
        refine pr_s (pc1 := 10) (st1 := [.int (-1), .int (-1), .ref 136]) rfl (fun _ => rfl) ?_
        refine pr_bt (t := 17) (off := 7) (bb := decide (((-1) : Int32) = (-1))) (st1 := [.ref 136]) rfl rfl rfl rfl (by decide) ?_
        refine pr_s (pc1 := 18) (st1 := [.int 1, .ref 136]) rfl (fun _ => rfl) ?_
        refine pr_putf (pc1 := 21) (h1 := ph_15) rfl rfl pg_20 rfl rfl rfl rfl rfl rfl rfl ?_
        refine pr_s (pc1 := 22) (st1 := [.ref 136]) rfl (fun _ => rfl) ?_
        refine pr_getf (pc1 := 25) (v := .int 1) rfl rfl pg_21 rfl rfl ?_
        refine pr_bt (t := 32) (off := 7) (bb := !decide ((1 : Int32) = 0)) (st1 := []) rfl rfl rfl rfl (px_not_t (by decide)) ?_
        refine pr_s (pc1 := 33) (st1 := [.int 0]) rfl (fun _ => rfl) ?_
        exact pr_e rfl (fun _ => rfl) ⟨rfl, rfl⟩
      show px_R _ _ _ _ (5, [(0, .ref 136), (1, .int a1)], [.int 0], _) _ _ _
      refine pr_bt (t := 27) (off := 22) (bb := decide ((0 : Int32) = 0)) (st1 := []) rfl rfl rfl rfl (by decide) ?_
      refine pr_s (pc1 := 28) (st1 := [.int 0]) rfl (fun _ => rfl) ?_
      exact pr_e rfl (fun _ => rfl) ⟨rfl, rfl⟩
    show px_T _ _ _ _ (1993, [(5, .int 1), (4, .int 0), (3, .ref 164), (2, .ref 136), (1, .ref 0), (0, .retAddr 0)], [.int 0], _) _ _ _
    refine pt_s (pc1 := 1995) (lv1 := [(6, .int 0), (5, .int 1), (4, .int 0), (3, .ref 164), (2, .ref 136), (1, .ref 0), (0, .retAddr 0)]) (st1 := []) rfl rfl (fun _ => rfl) ?_
    refine pt_s (pc1 := 1996) (st1 := [.ref 136]) rfl rfl (fun _ => rfl) ?_
    refine pt_callv (N := pm_X10_thrown) (as := [.ref 136]) (rest := []) (f := 2047) (l := 83980) (c1 := 0) (k1 := 0) (c2 := 599836) (k2 := 7274189) (v := some (.int 1)) (h1 := ph_15) rfl rfl (fun ex => px_inv_hs ex rfl rfl rfl pg_21 rfl rfl rfl rfl) ?_ (Nat.le_of_ble_eq_true rfl) (Nat.le_of_ble_eq_true rfl) ?_
    · refine px_C_of rfl ?_
      refine pr_s (pc1 := 1) (st1 := [.ref 136]) rfl (fun _ => rfl) ?_
      refine pr_getf (pc1 := 4) (v := .int 1) rfl rfl pg_21 rfl rfl ?_
      exact pr_e rfl (fun _ => rfl) ⟨rfl, rfl⟩
    show px_T _ _ _ _ (1999, [(6, .int 0), (5, .int 1), (4, .int 0), (3, .ref 164), (2, .ref 136), (1, .ref 0), (0, .retAddr 0)], [.int 1], _) _ _ _
    refine pt_s (pc1 := 2001) (st1 := [.int 1, .int 1]) rfl rfl (fun _ => rfl) ?_
    refine pt_bt (t := 2006) (off := 5) (bb := decide ((1 : Int32) = 1)) (st1 := []) rfl rfl rfl rfl rfl (by decide) ?_
    refine pt_s (pc1 := 2008) (st1 := [.int 1]) rfl rfl (fun _ => rfl) ?_
    refine pt_bt (t := 2023) (off := 15) (bb := !decide ((1 : Int32) = 0)) (st1 := []) rfl rfl rfl rfl rfl (px_not_t (by decide)) ?_
    refine pt_s (pc1 := 2771) (st1 := []) rfl rfl (fun _ => rfl) ?_
    refine pt_s (pc1 := 2774) (lv1 := [(4, .int 6), (6, .int 0), (5, .int 1), (3, .ref 164), (2, .ref 136), (1, .ref 0), (0, .retAddr 0)]) (st1 := []) rfl rfl (fun _ => rfl) ?_
    refine pt_s (pc1 := 23) (st1 := []) rfl rfl (fun _ => rfl) ?_
    refine pt_s (pc1 := 25) (st1 := [.int 6]) rfl rfl (fun _ => rfl) ?_
    refine pt_s (pc1 := 26) (st1 := [.retAddr 0, .int 6]) rfl rfl (fun _ => rfl) ?_
    refine pt_s (pc1 := 27) (st1 := [.int 6, .int 6]) rfl rfl (fun _ => rfl) ?_
    refine pt_s (pc1 := 29) (st1 := [.int 6, .int 6, .int 6]) rfl rfl (fun _ => rfl) ?_
    refine pt_s (pc1 := 30) (st1 := [.int 0, .int 6]) rfl rfl (fun _ => rfl) ?_
    refine pt_bt (t := 2777) (off := 2747) (bb := decide ((0 : Int32) < (6 : Int32))) (st1 := []) rfl rfl rfl rfl rfl (by decide) ?_
    refine pt_s (pc1 := 2778) (st1 := [.int 1]) rfl rfl (fun _ => rfl) ?_
    exact pt_e rfl ⟨rfl, (rfl : px_ins pm_law 2778 = some (.ireturn, 1))⟩
  · have ha1 : 0 ≤ a1.toInt ∧ a1.toInt ≤ 2147483647 := ⟨by omega, ha1.2⟩
    refine pt_s (pc1 := 1970) (st1 := []) rfl rfl (fun _ => rfl) ?_
    refine pt_s (pc1 := 1971) (st1 := [.ref 0]) rfl rfl (fun _ => rfl) ?_
    refine pt_s (pc1 := 1972) (st1 := [.retAddr 0, .ref 0]) rfl rfl (fun _ => rfl) ?_
    refine pt_s (pc1 := 1974) (st1 := [.int 0, .retAddr 0, .ref 0]) rfl rfl (fun _ => rfl) ?_
    refine pt_s (pc1 := 1975) (st1 := [.int 1, .int 0, .retAddr 0, .ref 0]) rfl rfl (fun _ => rfl) ?_
    refine pt_s (pc1 := 1976) (st1 := [.int 1, .retAddr 0, .ref 0]) rfl rfl (fun _ => rfl) ?_
    refine pt_s (pc1 := 1977) (st1 := [.int a1, .ref 0]) rfl rfl (fun _ => rfl) ?_
    refine pt_s (pc1 := 1978) (st1 := [.ref 164, .int a1, .ref 0]) rfl rfl (fun _ => rfl) ?_
    refine pt_callv (N := pm_L_distance) (as := [.ref 0, .int a1, .ref 164]) (rest := []) (f := 2047) (l := 83977) (c1 := 1) (k1 := 6) (c2 := 599836) (k2 := 7274189) (v := some (.int 1)) (h1 := ph_14) rfl rfl (fun _ => rfl) ?_ (Nat.le_of_ble_eq_true rfl) (Nat.le_of_ble_eq_true rfl) ?_
    · refine px_C_of rfl ?_
      refine pr_s (pc1 := 1) (st1 := [.ref 164]) rfl (fun _ => rfl) ?_
      refine pr_s (pc1 := 2) (st1 := [.int 0, .ref 164]) rfl (fun _ => rfl) ?_
      refine pr_s (pc1 := 3) (st1 := [.ref 0, .int 0, .ref 164]) rfl (fun _ => rfl) ?_
      refine pr_s (pc1 := 4) (st1 := [.int a1, .ref 0, .int 0, .ref 164]) rfl (fun _ => rfl) ?_
      refine pr_callx (N := pm_X6_distance) (as := [.ref 0, .int a1]) (rest := [.int 0, .ref 164]) (f := 2046) (l := 83955) (c1 := 1) (k1 := 6) (c2 := 0) (k2 := 0) (E := 11) (h1 := ph_14) (a := 12) (y1 := 3) (y2 := 1) rfl (fun ex => px_inv_hs ex rfl rfl rfl pg_0 rfl rfl rfl rfl) ?_ (Nat.le_of_ble_eq_true rfl) (Nat.le_of_ble_eq_true rfl) rfl rfl rfl rfl ?_
      · refine px_C_of rfl ?_
        refine pr_s (pc1 := 1) (st1 := [.ref 0]) rfl (fun _ => rfl) ?_
        refine pr_s (pc1 := 2) (st1 := [.int a1, .ref 0]) rfl (fun _ => rfl) ?_
        refine pr_callo (N := pm_X6_needFact) (as := [.ref 0, .int a1]) (rest := []) (f := 2045) (l := 83933) (E := 11) (h1 := ph_14) rfl (fun ex => px_inv_hs ex rfl rfl rfl pg_0 rfl rfl rfl rfl) ?_ rfl ⟨rfl, rfl⟩
        · refine px_C_of rfl ?_
          refine pr_s (pc1 := 1) (st1 := [.ref 0]) rfl (fun _ => rfl) ?_
          refine pr_getf (pc1 := 4) (v := .ref 92) rfl rfl pg_0 rfl rfl ?_
          refine pr_getf (pc1 := 7) (v := .ref 93) rfl rfl pg_22 rfl rfl ?_
          refine pr_s (pc1 := 8) (st1 := [.int a1, .ref 93]) rfl (fun _ => rfl) ?_
          refine pr_callv (N := pm_X2_placeOf) (as := [.ref 93, .int a1]) (rest := []) (f := 2044) (l := 83911) (c1 := 0) (k1 := 0) (c2 := 1) (k2 := 6) (v := some (.int (-1))) (h1 := px_hs) rfl (fun ex => px_inv_hs ex rfl rfl rfl pg_23 rfl rfl rfl rfl) ?_ (Nat.le_of_ble_eq_true rfl) (Nat.le_of_ble_eq_true rfl) ?_
          · refine px_C_of rfl ?_
            refine pr_s (pc1 := 1) (st1 := [.int a1]) rfl (fun _ => rfl) ?_
            refine pr_bf (t := 12) (off := 11) (bb := decide (a1 < 0)) (st1 := []) rfl rfl rfl rfl (pb_ltF ha1.1 (show (0 : Int32).toInt ≤ 0 by decide) (by decide)) ?_
            refine pr_s (pc1 := 5) (st1 := [.int a1]) rfl (fun _ => rfl) ?_
            refine pr_s (pc1 := 6) (st1 := [.ref 93, .int a1]) rfl (fun _ => rfl) ?_
            refine pr_getf (pc1 := 9) (v := .int 0) rfl rfl pg_23 rfl rfl ?_
            refine pr_bf (t := 14) (off := 5) (bb := decide (a1 < 0)) (st1 := []) rfl rfl rfl rfl (pb_ltF ha1.1 (show (0 : Int32).toInt ≤ 0 by decide) (by decide)) ?_
            refine pr_s (pc1 := 13) (st1 := [.int (-1)]) rfl (fun _ => rfl) ?_
            exact pr_e rfl (fun _ => rfl) ⟨rfl, rfl⟩
          show px_R _ _ _ _ (11, [(0, .ref 0), (1, .int a1)], [.int (-1)], _) _ _ _
          refine pr_s (pc1 := 12) (lv1 := [(2, .int (-1)), (0, .ref 0), (1, .int a1)]) (st1 := []) rfl (fun _ => rfl) ?_
          refine pr_s (pc1 := 13) (st1 := [.int (-1)]) rfl (fun _ => rfl) ?_
          refine pr_bf (t := 27) (off := 14) (bb := decide ((0 : Int32) ≤ ((-1) : Int32))) (st1 := []) rfl rfl rfl rfl (by decide) ?_
          refine pr_mh (z1 := 1) (z2 := 6) (c1 := 0) (k1 := 0) (pc1 := 26) (n := 165) (r := []) (h1 := ph_14) (es := fun n => [.inr (11, [])]) rfl (fun _ => rfl) pl_0 rfl (Nat.le_of_ble_eq_true rfl) (Nat.le_of_ble_eq_true rfl) ?_
          exact pr_e rfl (fun _ => rfl) ⟨rfl, rfl⟩
      show px_R _ _ _ _ (13, [(0, .ref 0), (1, .int a1), (2, .ref 164)], [], _) _ _ _
      refine pr_s (pc1 := 14) (st1 := [.int 1]) rfl (fun _ => rfl) ?_
      exact pr_e rfl (fun _ => rfl) ⟨rfl, rfl⟩
    show px_T _ _ _ _ (1981, [(4, .int 0), (3, .ref 164), (2, .ref 136), (1, .ref 0), (0, .retAddr 0)], [.int 1], _) _ _ _
    refine pt_s (pc1 := 1983) (lv1 := [(5, .int 1), (4, .int 0), (3, .ref 164), (2, .ref 136), (1, .ref 0), (0, .retAddr 0)]) (st1 := []) rfl rfl (fun _ => rfl) ?_
    refine pt_s (pc1 := 1984) (st1 := [.ref 136]) rfl rfl (fun _ => rfl) ?_
    refine pt_s (pc1 := 1985) (st1 := [.retAddr 0, .ref 136]) rfl rfl (fun _ => rfl) ?_
    refine pt_s (pc1 := 1987) (st1 := [.int 0, .retAddr 0, .ref 136]) rfl rfl (fun _ => rfl) ?_
    refine pt_s (pc1 := 1988) (st1 := [.int 1, .int 0, .retAddr 0, .ref 136]) rfl rfl (fun _ => rfl) ?_
    refine pt_s (pc1 := 1989) (st1 := [.int 1, .retAddr 0, .ref 136]) rfl rfl (fun _ => rfl) ?_
    refine pt_s (pc1 := 1990) (st1 := [.int a1, .ref 136]) rfl rfl (fun _ => rfl) ?_
    refine pt_callv (N := pm_X10_distance) (as := [.ref 136, .int a1]) (rest := []) (f := 2047) (l := 83979) (c1 := 0) (k1 := 0) (c2 := 599836) (k2 := 7274189) (v := some (.int 0)) (h1 := ph_15) rfl rfl (fun ex => px_inv_hs ex rfl rfl rfl pg_20 rfl rfl rfl rfl) ?_ (Nat.le_of_ble_eq_true rfl) (Nat.le_of_ble_eq_true rfl) ?_
    · refine px_C_of rfl ?_
      refine pr_s (pc1 := 1) (st1 := [.ref 136]) rfl (fun _ => rfl) ?_
      refine pr_s (pc1 := 2) (st1 := [.int a1, .ref 136]) rfl (fun _ => rfl) ?_
      refine pr_callv (N := pm_X10_isFact) (as := [.ref 136, .int a1]) (rest := []) (f := 2046) (l := 83958) (c1 := 0) (k1 := 0) (c2 := 0) (k2 := 0) (v := some (.int 0)) (h1 := ph_15) rfl (fun ex => px_inv_hs ex rfl rfl rfl pg_20 rfl rfl rfl rfl) ?_ (Nat.le_of_ble_eq_true rfl) (Nat.le_of_ble_eq_true rfl) ?_
      · refine px_C_of rfl ?_
        refine pr_s (pc1 := 1) (st1 := [.ref 136]) rfl (fun _ => rfl) ?_
        refine pr_s (pc1 := 2) (st1 := [.ref 136, .ref 136]) rfl (fun _ => rfl) ?_
        refine pr_getf (pc1 := 5) (v := .ref 138) rfl rfl pg_20 rfl rfl ?_
        refine pr_s (pc1 := 6) (st1 := [.int a1, .ref 138, .ref 136]) rfl (fun _ => rfl) ?_
        refine pr_callv (N := pm_X9_place) (as := [.ref 138, .int a1]) (rest := [.ref 136]) (f := 2045) (l := 83936) (c1 := 0) (k1 := 0) (c2 := 0) (k2 := 0) (v := some (.int (-1))) (h1 := ph_14) rfl (fun ex => px_inv_hs ex rfl rfl rfl pg_506 rfl rfl rfl rfl) ?_ (Nat.le_of_ble_eq_true rfl) (Nat.le_of_ble_eq_true rfl) ?_
        · refine px_C_of rfl ?_
          refine pr_s (pc1 := 1) (st1 := [.ref 138]) rfl (fun _ => rfl) ?_
          refine pr_getf (pc1 := 4) (v := .ref 141) rfl rfl pg_506 rfl rfl ?_
          refine pr_getf (pc1 := 7) (v := .int 0) rfl rfl pg_507 rfl rfl ?_
          refine pr_s (pc1 := 8) (st1 := [.int 1, .int 0]) rfl (fun _ => rfl) ?_
          refine pr_s (pc1 := 9) (st1 := [.int (-1)]) rfl (fun _ => rfl) ?_
          refine pr_s (pc1 := 10) (lv1 := [(2, .int (-1)), (0, .ref 138), (1, .int a1)]) (st1 := []) rfl (fun _ => rfl) ?_
          refine pr_s (pc1 := 11) (st1 := [.int (-1)]) rfl (fun _ => rfl) ?_
          refine pr_bt (t := 33) (off := 22) (bb := decide (((-1) : Int32) < 0)) (st1 := []) rfl rfl rfl rfl (by decide) ?_
          refine pr_s (pc1 := 34) (st1 := [.int (-1)]) rfl (fun _ => rfl) ?_
          exact pr_e rfl (fun _ => rfl) ⟨rfl, rfl⟩
        show px_R _ _ _ _ (9, [(0, .ref 136), (1, .int a1)], [.int (-1), .ref 136], _) _ _ _
        refine pr_s (pc1 := 10) (st1 := [.int (-1), .int (-1), .ref 136]) rfl (fun _ => rfl) ?_
        refine pr_bt (t := 17) (off := 7) (bb := decide (((-1) : Int32) = (-1))) (st1 := [.ref 136]) rfl rfl rfl rfl (by decide) ?_
        refine pr_s (pc1 := 18) (st1 := [.int 1, .ref 136]) rfl (fun _ => rfl) ?_
        refine pr_putf (pc1 := 21) (h1 := ph_15) rfl rfl pg_20 rfl rfl rfl rfl rfl rfl rfl ?_
        refine pr_s (pc1 := 22) (st1 := [.ref 136]) rfl (fun _ => rfl) ?_
        refine pr_getf (pc1 := 25) (v := .int 1) rfl rfl pg_21 rfl rfl ?_
        refine pr_bt (t := 32) (off := 7) (bb := !decide ((1 : Int32) = 0)) (st1 := []) rfl rfl rfl rfl (px_not_t (by decide)) ?_
        refine pr_s (pc1 := 33) (st1 := [.int 0]) rfl (fun _ => rfl) ?_
        exact pr_e rfl (fun _ => rfl) ⟨rfl, rfl⟩
      show px_R _ _ _ _ (5, [(0, .ref 136), (1, .int a1)], [.int 0], _) _ _ _
      refine pr_bt (t := 27) (off := 22) (bb := decide ((0 : Int32) = 0)) (st1 := []) rfl rfl rfl rfl (by decide) ?_
      refine pr_s (pc1 := 28) (st1 := [.int 0]) rfl (fun _ => rfl) ?_
      exact pr_e rfl (fun _ => rfl) ⟨rfl, rfl⟩
    show px_T _ _ _ _ (1993, [(5, .int 1), (4, .int 0), (3, .ref 164), (2, .ref 136), (1, .ref 0), (0, .retAddr 0)], [.int 0], _) _ _ _
    refine pt_s (pc1 := 1995) (lv1 := [(6, .int 0), (5, .int 1), (4, .int 0), (3, .ref 164), (2, .ref 136), (1, .ref 0), (0, .retAddr 0)]) (st1 := []) rfl rfl (fun _ => rfl) ?_
    refine pt_s (pc1 := 1996) (st1 := [.ref 136]) rfl rfl (fun _ => rfl) ?_
    refine pt_callv (N := pm_X10_thrown) (as := [.ref 136]) (rest := []) (f := 2047) (l := 83980) (c1 := 0) (k1 := 0) (c2 := 599836) (k2 := 7274189) (v := some (.int 1)) (h1 := ph_15) rfl rfl (fun ex => px_inv_hs ex rfl rfl rfl pg_21 rfl rfl rfl rfl) ?_ (Nat.le_of_ble_eq_true rfl) (Nat.le_of_ble_eq_true rfl) ?_
    · refine px_C_of rfl ?_
      refine pr_s (pc1 := 1) (st1 := [.ref 136]) rfl (fun _ => rfl) ?_
      refine pr_getf (pc1 := 4) (v := .int 1) rfl rfl pg_21 rfl rfl ?_
      exact pr_e rfl (fun _ => rfl) ⟨rfl, rfl⟩
    show px_T _ _ _ _ (1999, [(6, .int 0), (5, .int 1), (4, .int 0), (3, .ref 164), (2, .ref 136), (1, .ref 0), (0, .retAddr 0)], [.int 1], _) _ _ _
    refine pt_s (pc1 := 2001) (st1 := [.int 1, .int 1]) rfl rfl (fun _ => rfl) ?_
    refine pt_bt (t := 2006) (off := 5) (bb := decide ((1 : Int32) = 1)) (st1 := []) rfl rfl rfl rfl rfl (by decide) ?_
    refine pt_s (pc1 := 2008) (st1 := [.int 1]) rfl rfl (fun _ => rfl) ?_
    refine pt_bt (t := 2023) (off := 15) (bb := !decide ((1 : Int32) = 0)) (st1 := []) rfl rfl rfl rfl rfl (px_not_t (by decide)) ?_
    refine pt_s (pc1 := 2771) (st1 := []) rfl rfl (fun _ => rfl) ?_
    refine pt_s (pc1 := 2774) (lv1 := [(4, .int 6), (6, .int 0), (5, .int 1), (3, .ref 164), (2, .ref 136), (1, .ref 0), (0, .retAddr 0)]) (st1 := []) rfl rfl (fun _ => rfl) ?_
    refine pt_s (pc1 := 23) (st1 := []) rfl rfl (fun _ => rfl) ?_
    refine pt_s (pc1 := 25) (st1 := [.int 6]) rfl rfl (fun _ => rfl) ?_
    refine pt_s (pc1 := 26) (st1 := [.retAddr 0, .int 6]) rfl rfl (fun _ => rfl) ?_
    refine pt_s (pc1 := 27) (st1 := [.int 6, .int 6]) rfl rfl (fun _ => rfl) ?_
    refine pt_s (pc1 := 29) (st1 := [.int 6, .int 6, .int 6]) rfl rfl (fun _ => rfl) ?_
    refine pt_s (pc1 := 30) (st1 := [.int 0, .int 6]) rfl rfl (fun _ => rfl) ?_
    refine pt_bt (t := 2777) (off := 2747) (bb := decide ((0 : Int32) < (6 : Int32))) (st1 := []) rfl rfl rfl rfl rfl (by decide) ?_
    refine pt_s (pc1 := 2778) (st1 := [.int 1]) rfl rfl (fun _ => rfl) ?_
    exact pt_e rfl ⟨rfl, (rfl : px_ins pm_law 2778 = some (.ireturn, 1))⟩
set_option maxRecDepth 100000 in
set_option maxHeartbeats 40000000 in
theorem px_op_30 (a0 a1 a2 a3 a4 a5 : Int32) : px_T (some [a0, a1, a2, a3, a4, a5]) pm_law 2048 84000 (40, [(4, .int 0), (3, .ref 164), (2, .ref 136), (1, .ref 0), (0, .retAddr 0)], [.int 30], px_hs) 599837 7274195 (fun s1 => s1.2.2.1 = [.int 1] ∧ px_ins pm_law s1.1 = some (.ireturn, 1)) := by
  have ha1 : (-2147483648) ≤ a1.toInt ∧ a1.toInt ≤ 2147483647 := ⟨Int32.le_toInt a1, Int32.toInt_le a1⟩
  by_cases hs : a1.toInt < 0
  · have ha1 : (-2147483648) ≤ a1.toInt ∧ a1.toInt ≤ (-1) := ⟨ha1.1, by omega⟩
    refine pt_s (pc1 := 2026) (st1 := []) rfl rfl (fun _ => rfl) ?_
    refine pt_s (pc1 := 2027) (st1 := [.ref 0]) rfl rfl (fun _ => rfl) ?_
    refine pt_s (pc1 := 2028) (st1 := [.retAddr 0, .ref 0]) rfl rfl (fun _ => rfl) ?_
    refine pt_s (pc1 := 2030) (st1 := [.int 0, .retAddr 0, .ref 0]) rfl rfl (fun _ => rfl) ?_
    refine pt_s (pc1 := 2031) (st1 := [.int 1, .int 0, .retAddr 0, .ref 0]) rfl rfl (fun _ => rfl) ?_
    refine pt_s (pc1 := 2032) (st1 := [.int 1, .retAddr 0, .ref 0]) rfl rfl (fun _ => rfl) ?_
    refine pt_s (pc1 := 2033) (st1 := [.int a1, .ref 0]) rfl rfl (fun _ => rfl) ?_
    refine pt_s (pc1 := 2034) (st1 := [.ref 164, .int a1, .ref 0]) rfl rfl (fun _ => rfl) ?_
    refine pt_callv (N := pm_L_uses) (as := [.ref 0, .int a1, .ref 164]) (rest := []) (f := 2047) (l := 83977) (c1 := 1) (k1 := 6) (c2 := 599836) (k2 := 7274189) (v := some (.int 1)) (h1 := ph_14) rfl rfl (fun _ => rfl) ?_ (Nat.le_of_ble_eq_true rfl) (Nat.le_of_ble_eq_true rfl) ?_
    · refine px_C_of rfl ?_
      refine pr_s (pc1 := 1) (st1 := [.ref 164]) rfl (fun _ => rfl) ?_
      refine pr_s (pc1 := 2) (st1 := [.int 0, .ref 164]) rfl (fun _ => rfl) ?_
      refine pr_s (pc1 := 3) (st1 := [.ref 0, .int 0, .ref 164]) rfl (fun _ => rfl) ?_
      refine pr_s (pc1 := 4) (st1 := [.int a1, .ref 0, .int 0, .ref 164]) rfl (fun _ => rfl) ?_
      refine pr_callx (N := pm_X6_uses) (as := [.ref 0, .int a1]) (rest := [.int 0, .ref 164]) (f := 2046) (l := 83956) (c1 := 1) (k1 := 6) (c2 := 0) (k2 := 0) (E := 11) (h1 := ph_14) (a := 12) (y1 := 3) (y2 := 1) rfl (fun ex => px_inv_hs ex rfl rfl rfl pg_0 rfl rfl rfl rfl) ?_ (Nat.le_of_ble_eq_true rfl) (Nat.le_of_ble_eq_true rfl) rfl rfl rfl rfl ?_
      · refine px_C_of rfl ?_
        refine pr_s (pc1 := 1) (st1 := [.ref 0]) rfl (fun _ => rfl) ?_
        refine pr_getf (pc1 := 4) (v := .ref 92) rfl rfl pg_0 rfl rfl ?_
        refine pr_s (pc1 := 5) (st1 := [.ref 0, .ref 92]) rfl (fun _ => rfl) ?_
        refine pr_s (pc1 := 6) (st1 := [.int a1, .ref 0, .ref 92]) rfl (fun _ => rfl) ?_
        refine pr_callo (N := pm_X6_needFact) (as := [.ref 0, .int a1]) (rest := [.ref 92]) (f := 2045) (l := 83934) (E := 11) (h1 := ph_14) rfl (fun ex => px_inv_hs ex rfl rfl rfl pg_0 rfl rfl rfl rfl) ?_ rfl ⟨rfl, rfl⟩
        · refine px_C_of rfl ?_
          refine pr_s (pc1 := 1) (st1 := [.ref 0]) rfl (fun _ => rfl) ?_
          refine pr_getf (pc1 := 4) (v := .ref 92) rfl rfl pg_0 rfl rfl ?_
          refine pr_getf (pc1 := 7) (v := .ref 93) rfl rfl pg_22 rfl rfl ?_
          refine pr_s (pc1 := 8) (st1 := [.int a1, .ref 93]) rfl (fun _ => rfl) ?_
          refine pr_callv (N := pm_X2_placeOf) (as := [.ref 93, .int a1]) (rest := []) (f := 2044) (l := 83912) (c1 := 0) (k1 := 0) (c2 := 1) (k2 := 6) (v := some (.int (-1))) (h1 := px_hs) rfl (fun ex => px_inv_hs ex rfl rfl rfl pg_23 rfl rfl rfl rfl) ?_ (Nat.le_of_ble_eq_true rfl) (Nat.le_of_ble_eq_true rfl) ?_
          · refine px_C_of rfl ?_
            refine pr_s (pc1 := 1) (st1 := [.int a1]) rfl (fun _ => rfl) ?_
            refine pr_bt (t := 12) (off := 11) (bb := decide (a1 < 0)) (st1 := []) rfl rfl rfl rfl (pb_ltT ha1.2 (show 0 ≤ (0 : Int32).toInt by decide) (by decide)) ?_
            refine pr_s (pc1 := 13) (st1 := [.int (-1)]) rfl (fun _ => rfl) ?_
            exact pr_e rfl (fun _ => rfl) ⟨rfl, rfl⟩
          show px_R _ _ _ _ (11, [(0, .ref 0), (1, .int a1)], [.int (-1)], _) _ _ _
          refine pr_s (pc1 := 12) (lv1 := [(2, .int (-1)), (0, .ref 0), (1, .int a1)]) (st1 := []) rfl (fun _ => rfl) ?_
          refine pr_s (pc1 := 13) (st1 := [.int (-1)]) rfl (fun _ => rfl) ?_
          refine pr_bf (t := 27) (off := 14) (bb := decide ((0 : Int32) ≤ ((-1) : Int32))) (st1 := []) rfl rfl rfl rfl (by decide) ?_
          refine pr_mh (z1 := 1) (z2 := 6) (c1 := 0) (k1 := 0) (pc1 := 26) (n := 165) (r := []) (h1 := ph_14) (es := fun n => [.inr (11, [])]) rfl (fun _ => rfl) pl_0 rfl (Nat.le_of_ble_eq_true rfl) (Nat.le_of_ble_eq_true rfl) ?_
          exact pr_e rfl (fun _ => rfl) ⟨rfl, rfl⟩
      show px_R _ _ _ _ (13, [(0, .ref 0), (1, .int a1), (2, .ref 164)], [], _) _ _ _
      refine pr_s (pc1 := 14) (st1 := [.int 1]) rfl (fun _ => rfl) ?_
      exact pr_e rfl (fun _ => rfl) ⟨rfl, rfl⟩
    show px_T _ _ _ _ (2037, [(4, .int 0), (3, .ref 164), (2, .ref 136), (1, .ref 0), (0, .retAddr 0)], [.int 1], _) _ _ _
    refine pt_s (pc1 := 2039) (lv1 := [(5, .int 1), (4, .int 0), (3, .ref 164), (2, .ref 136), (1, .ref 0), (0, .retAddr 0)]) (st1 := []) rfl rfl (fun _ => rfl) ?_
    refine pt_s (pc1 := 2040) (st1 := [.ref 136]) rfl rfl (fun _ => rfl) ?_
    refine pt_s (pc1 := 2041) (st1 := [.retAddr 0, .ref 136]) rfl rfl (fun _ => rfl) ?_
    refine pt_s (pc1 := 2043) (st1 := [.int 0, .retAddr 0, .ref 136]) rfl rfl (fun _ => rfl) ?_
    refine pt_s (pc1 := 2044) (st1 := [.int 1, .int 0, .retAddr 0, .ref 136]) rfl rfl (fun _ => rfl) ?_
    refine pt_s (pc1 := 2045) (st1 := [.int 1, .retAddr 0, .ref 136]) rfl rfl (fun _ => rfl) ?_
    refine pt_s (pc1 := 2046) (st1 := [.int a1, .ref 136]) rfl rfl (fun _ => rfl) ?_
    refine pt_callv (N := pm_X10_uses) (as := [.ref 136, .int a1]) (rest := []) (f := 2047) (l := 83979) (c1 := 0) (k1 := 0) (c2 := 599836) (k2 := 7274189) (v := some (.int 0)) (h1 := ph_15) rfl rfl (fun ex => px_inv_hs ex rfl rfl rfl pg_20 rfl rfl rfl rfl) ?_ (Nat.le_of_ble_eq_true rfl) (Nat.le_of_ble_eq_true rfl) ?_
    · refine px_C_of rfl ?_
      refine pr_s (pc1 := 1) (st1 := [.ref 136]) rfl (fun _ => rfl) ?_
      refine pr_s (pc1 := 2) (st1 := [.int a1, .ref 136]) rfl (fun _ => rfl) ?_
      refine pr_callv (N := pm_X10_isFact) (as := [.ref 136, .int a1]) (rest := []) (f := 2046) (l := 83958) (c1 := 0) (k1 := 0) (c2 := 0) (k2 := 0) (v := some (.int 0)) (h1 := ph_15) rfl (fun ex => px_inv_hs ex rfl rfl rfl pg_20 rfl rfl rfl rfl) ?_ (Nat.le_of_ble_eq_true rfl) (Nat.le_of_ble_eq_true rfl) ?_
      · refine px_C_of rfl ?_
        refine pr_s (pc1 := 1) (st1 := [.ref 136]) rfl (fun _ => rfl) ?_
        refine pr_s (pc1 := 2) (st1 := [.ref 136, .ref 136]) rfl (fun _ => rfl) ?_
        refine pr_getf (pc1 := 5) (v := .ref 138) rfl rfl pg_20 rfl rfl ?_
        refine pr_s (pc1 := 6) (st1 := [.int a1, .ref 138, .ref 136]) rfl (fun _ => rfl) ?_
        refine pr_callv (N := pm_X9_place) (as := [.ref 138, .int a1]) (rest := [.ref 136]) (f := 2045) (l := 83936) (c1 := 0) (k1 := 0) (c2 := 0) (k2 := 0) (v := some (.int (-1))) (h1 := ph_14) rfl (fun ex => px_inv_hs ex rfl rfl rfl pg_506 rfl rfl rfl rfl) ?_ (Nat.le_of_ble_eq_true rfl) (Nat.le_of_ble_eq_true rfl) ?_
        · refine px_C_of rfl ?_
          refine pr_s (pc1 := 1) (st1 := [.ref 138]) rfl (fun _ => rfl) ?_
          refine pr_getf (pc1 := 4) (v := .ref 141) rfl rfl pg_506 rfl rfl ?_
          refine pr_getf (pc1 := 7) (v := .int 0) rfl rfl pg_507 rfl rfl ?_
          refine pr_s (pc1 := 8) (st1 := [.int 1, .int 0]) rfl (fun _ => rfl) ?_
          refine pr_s (pc1 := 9) (st1 := [.int (-1)]) rfl (fun _ => rfl) ?_
          refine pr_s (pc1 := 10) (lv1 := [(2, .int (-1)), (0, .ref 138), (1, .int a1)]) (st1 := []) rfl (fun _ => rfl) ?_
          refine pr_s (pc1 := 11) (st1 := [.int (-1)]) rfl (fun _ => rfl) ?_
          refine pr_bt (t := 33) (off := 22) (bb := decide (((-1) : Int32) < 0)) (st1 := []) rfl rfl rfl rfl (by decide) ?_
          refine pr_s (pc1 := 34) (st1 := [.int (-1)]) rfl (fun _ => rfl) ?_
          exact pr_e rfl (fun _ => rfl) ⟨rfl, rfl⟩
        show px_R _ _ _ _ (9, [(0, .ref 136), (1, .int a1)], [.int (-1), .ref 136], _) _ _ _
        refine pr_s (pc1 := 10) (st1 := [.int (-1), .int (-1), .ref 136]) rfl (fun _ => rfl) ?_
        refine pr_bt (t := 17) (off := 7) (bb := decide (((-1) : Int32) = (-1))) (st1 := [.ref 136]) rfl rfl rfl rfl (by decide) ?_
        refine pr_s (pc1 := 18) (st1 := [.int 1, .ref 136]) rfl (fun _ => rfl) ?_
        refine pr_putf (pc1 := 21) (h1 := ph_15) rfl rfl pg_20 rfl rfl rfl rfl rfl rfl rfl ?_
        refine pr_s (pc1 := 22) (st1 := [.ref 136]) rfl (fun _ => rfl) ?_
        refine pr_getf (pc1 := 25) (v := .int 1) rfl rfl pg_21 rfl rfl ?_
        refine pr_bt (t := 32) (off := 7) (bb := !decide ((1 : Int32) = 0)) (st1 := []) rfl rfl rfl rfl (px_not_t (by decide)) ?_
        refine pr_s (pc1 := 33) (st1 := [.int 0]) rfl (fun _ => rfl) ?_
        exact pr_e rfl (fun _ => rfl) ⟨rfl, rfl⟩
      show px_R _ _ _ _ (5, [(0, .ref 136), (1, .int a1)], [.int 0], _) _ _ _
      refine pr_bt (t := 16) (off := 11) (bb := decide ((0 : Int32) = 0)) (st1 := []) rfl rfl rfl rfl (by decide) ?_
      refine pr_s (pc1 := 17) (st1 := [.int 0]) rfl (fun _ => rfl) ?_
      exact pr_e rfl (fun _ => rfl) ⟨rfl, rfl⟩
    show px_T _ _ _ _ (2049, [(5, .int 1), (4, .int 0), (3, .ref 164), (2, .ref 136), (1, .ref 0), (0, .retAddr 0)], [.int 0], _) _ _ _
    refine pt_s (pc1 := 2051) (lv1 := [(6, .int 0), (5, .int 1), (4, .int 0), (3, .ref 164), (2, .ref 136), (1, .ref 0), (0, .retAddr 0)]) (st1 := []) rfl rfl (fun _ => rfl) ?_
    refine pt_s (pc1 := 2052) (st1 := [.ref 136]) rfl rfl (fun _ => rfl) ?_
    refine pt_callv (N := pm_X10_thrown) (as := [.ref 136]) (rest := []) (f := 2047) (l := 83980) (c1 := 0) (k1 := 0) (c2 := 599836) (k2 := 7274189) (v := some (.int 1)) (h1 := ph_15) rfl rfl (fun ex => px_inv_hs ex rfl rfl rfl pg_21 rfl rfl rfl rfl) ?_ (Nat.le_of_ble_eq_true rfl) (Nat.le_of_ble_eq_true rfl) ?_
    · refine px_C_of rfl ?_
      refine pr_s (pc1 := 1) (st1 := [.ref 136]) rfl (fun _ => rfl) ?_
      refine pr_getf (pc1 := 4) (v := .int 1) rfl rfl pg_21 rfl rfl ?_
      exact pr_e rfl (fun _ => rfl) ⟨rfl, rfl⟩
    show px_T _ _ _ _ (2055, [(6, .int 0), (5, .int 1), (4, .int 0), (3, .ref 164), (2, .ref 136), (1, .ref 0), (0, .retAddr 0)], [.int 1], _) _ _ _
    refine pt_s (pc1 := 2057) (st1 := [.int 1, .int 1]) rfl rfl (fun _ => rfl) ?_
    refine pt_bt (t := 2062) (off := 5) (bb := decide ((1 : Int32) = 1)) (st1 := []) rfl rfl rfl rfl rfl (by decide) ?_
    refine pt_s (pc1 := 2064) (st1 := [.int 1]) rfl rfl (fun _ => rfl) ?_
    refine pt_bt (t := 2079) (off := 15) (bb := !decide ((1 : Int32) = 0)) (st1 := []) rfl rfl rfl rfl rfl (px_not_t (by decide)) ?_
    refine pt_s (pc1 := 2771) (st1 := []) rfl rfl (fun _ => rfl) ?_
    refine pt_s (pc1 := 2774) (lv1 := [(4, .int 6), (6, .int 0), (5, .int 1), (3, .ref 164), (2, .ref 136), (1, .ref 0), (0, .retAddr 0)]) (st1 := []) rfl rfl (fun _ => rfl) ?_
    refine pt_s (pc1 := 23) (st1 := []) rfl rfl (fun _ => rfl) ?_
    refine pt_s (pc1 := 25) (st1 := [.int 6]) rfl rfl (fun _ => rfl) ?_
    refine pt_s (pc1 := 26) (st1 := [.retAddr 0, .int 6]) rfl rfl (fun _ => rfl) ?_
    refine pt_s (pc1 := 27) (st1 := [.int 6, .int 6]) rfl rfl (fun _ => rfl) ?_
    refine pt_s (pc1 := 29) (st1 := [.int 6, .int 6, .int 6]) rfl rfl (fun _ => rfl) ?_
    refine pt_s (pc1 := 30) (st1 := [.int 0, .int 6]) rfl rfl (fun _ => rfl) ?_
    refine pt_bt (t := 2777) (off := 2747) (bb := decide ((0 : Int32) < (6 : Int32))) (st1 := []) rfl rfl rfl rfl rfl (by decide) ?_
    refine pt_s (pc1 := 2778) (st1 := [.int 1]) rfl rfl (fun _ => rfl) ?_
    exact pt_e rfl ⟨rfl, (rfl : px_ins pm_law 2778 = some (.ireturn, 1))⟩
  · have ha1 : 0 ≤ a1.toInt ∧ a1.toInt ≤ 2147483647 := ⟨by omega, ha1.2⟩
    refine pt_s (pc1 := 2026) (st1 := []) rfl rfl (fun _ => rfl) ?_
    refine pt_s (pc1 := 2027) (st1 := [.ref 0]) rfl rfl (fun _ => rfl) ?_
    refine pt_s (pc1 := 2028) (st1 := [.retAddr 0, .ref 0]) rfl rfl (fun _ => rfl) ?_
    refine pt_s (pc1 := 2030) (st1 := [.int 0, .retAddr 0, .ref 0]) rfl rfl (fun _ => rfl) ?_
    refine pt_s (pc1 := 2031) (st1 := [.int 1, .int 0, .retAddr 0, .ref 0]) rfl rfl (fun _ => rfl) ?_
    refine pt_s (pc1 := 2032) (st1 := [.int 1, .retAddr 0, .ref 0]) rfl rfl (fun _ => rfl) ?_
    refine pt_s (pc1 := 2033) (st1 := [.int a1, .ref 0]) rfl rfl (fun _ => rfl) ?_
    refine pt_s (pc1 := 2034) (st1 := [.ref 164, .int a1, .ref 0]) rfl rfl (fun _ => rfl) ?_
    refine pt_callv (N := pm_L_uses) (as := [.ref 0, .int a1, .ref 164]) (rest := []) (f := 2047) (l := 83977) (c1 := 1) (k1 := 6) (c2 := 599836) (k2 := 7274189) (v := some (.int 1)) (h1 := ph_14) rfl rfl (fun _ => rfl) ?_ (Nat.le_of_ble_eq_true rfl) (Nat.le_of_ble_eq_true rfl) ?_
    · refine px_C_of rfl ?_
      refine pr_s (pc1 := 1) (st1 := [.ref 164]) rfl (fun _ => rfl) ?_
      refine pr_s (pc1 := 2) (st1 := [.int 0, .ref 164]) rfl (fun _ => rfl) ?_
      refine pr_s (pc1 := 3) (st1 := [.ref 0, .int 0, .ref 164]) rfl (fun _ => rfl) ?_
      refine pr_s (pc1 := 4) (st1 := [.int a1, .ref 0, .int 0, .ref 164]) rfl (fun _ => rfl) ?_
      refine pr_callx (N := pm_X6_uses) (as := [.ref 0, .int a1]) (rest := [.int 0, .ref 164]) (f := 2046) (l := 83956) (c1 := 1) (k1 := 6) (c2 := 0) (k2 := 0) (E := 11) (h1 := ph_14) (a := 12) (y1 := 3) (y2 := 1) rfl (fun ex => px_inv_hs ex rfl rfl rfl pg_0 rfl rfl rfl rfl) ?_ (Nat.le_of_ble_eq_true rfl) (Nat.le_of_ble_eq_true rfl) rfl rfl rfl rfl ?_
      · refine px_C_of rfl ?_
        refine pr_s (pc1 := 1) (st1 := [.ref 0]) rfl (fun _ => rfl) ?_
        refine pr_getf (pc1 := 4) (v := .ref 92) rfl rfl pg_0 rfl rfl ?_
        refine pr_s (pc1 := 5) (st1 := [.ref 0, .ref 92]) rfl (fun _ => rfl) ?_
        refine pr_s (pc1 := 6) (st1 := [.int a1, .ref 0, .ref 92]) rfl (fun _ => rfl) ?_
        refine pr_callo (N := pm_X6_needFact) (as := [.ref 0, .int a1]) (rest := [.ref 92]) (f := 2045) (l := 83934) (E := 11) (h1 := ph_14) rfl (fun ex => px_inv_hs ex rfl rfl rfl pg_0 rfl rfl rfl rfl) ?_ rfl ⟨rfl, rfl⟩
        · refine px_C_of rfl ?_
          refine pr_s (pc1 := 1) (st1 := [.ref 0]) rfl (fun _ => rfl) ?_
          refine pr_getf (pc1 := 4) (v := .ref 92) rfl rfl pg_0 rfl rfl ?_
          refine pr_getf (pc1 := 7) (v := .ref 93) rfl rfl pg_22 rfl rfl ?_
          refine pr_s (pc1 := 8) (st1 := [.int a1, .ref 93]) rfl (fun _ => rfl) ?_
          refine pr_callv (N := pm_X2_placeOf) (as := [.ref 93, .int a1]) (rest := []) (f := 2044) (l := 83912) (c1 := 0) (k1 := 0) (c2 := 1) (k2 := 6) (v := some (.int (-1))) (h1 := px_hs) rfl (fun ex => px_inv_hs ex rfl rfl rfl pg_23 rfl rfl rfl rfl) ?_ (Nat.le_of_ble_eq_true rfl) (Nat.le_of_ble_eq_true rfl) ?_
          · refine px_C_of rfl ?_
            refine pr_s (pc1 := 1) (st1 := [.int a1]) rfl (fun _ => rfl) ?_
            refine pr_bf (t := 12) (off := 11) (bb := decide (a1 < 0)) (st1 := []) rfl rfl rfl rfl (pb_ltF ha1.1 (show (0 : Int32).toInt ≤ 0 by decide) (by decide)) ?_
            refine pr_s (pc1 := 5) (st1 := [.int a1]) rfl (fun _ => rfl) ?_
            refine pr_s (pc1 := 6) (st1 := [.ref 93, .int a1]) rfl (fun _ => rfl) ?_
            refine pr_getf (pc1 := 9) (v := .int 0) rfl rfl pg_23 rfl rfl ?_
            refine pr_bf (t := 14) (off := 5) (bb := decide (a1 < 0)) (st1 := []) rfl rfl rfl rfl (pb_ltF ha1.1 (show (0 : Int32).toInt ≤ 0 by decide) (by decide)) ?_
            refine pr_s (pc1 := 13) (st1 := [.int (-1)]) rfl (fun _ => rfl) ?_
            exact pr_e rfl (fun _ => rfl) ⟨rfl, rfl⟩
          show px_R _ _ _ _ (11, [(0, .ref 0), (1, .int a1)], [.int (-1)], _) _ _ _
          refine pr_s (pc1 := 12) (lv1 := [(2, .int (-1)), (0, .ref 0), (1, .int a1)]) (st1 := []) rfl (fun _ => rfl) ?_
          refine pr_s (pc1 := 13) (st1 := [.int (-1)]) rfl (fun _ => rfl) ?_
          refine pr_bf (t := 27) (off := 14) (bb := decide ((0 : Int32) ≤ ((-1) : Int32))) (st1 := []) rfl rfl rfl rfl (by decide) ?_
          refine pr_mh (z1 := 1) (z2 := 6) (c1 := 0) (k1 := 0) (pc1 := 26) (n := 165) (r := []) (h1 := ph_14) (es := fun n => [.inr (11, [])]) rfl (fun _ => rfl) pl_0 rfl (Nat.le_of_ble_eq_true rfl) (Nat.le_of_ble_eq_true rfl) ?_
          exact pr_e rfl (fun _ => rfl) ⟨rfl, rfl⟩
      show px_R _ _ _ _ (13, [(0, .ref 0), (1, .int a1), (2, .ref 164)], [], _) _ _ _
      refine pr_s (pc1 := 14) (st1 := [.int 1]) rfl (fun _ => rfl) ?_
      exact pr_e rfl (fun _ => rfl) ⟨rfl, rfl⟩
    show px_T _ _ _ _ (2037, [(4, .int 0), (3, .ref 164), (2, .ref 136), (1, .ref 0), (0, .retAddr 0)], [.int 1], _) _ _ _
    refine pt_s (pc1 := 2039) (lv1 := [(5, .int 1), (4, .int 0), (3, .ref 164), (2, .ref 136), (1, .ref 0), (0, .retAddr 0)]) (st1 := []) rfl rfl (fun _ => rfl) ?_
    refine pt_s (pc1 := 2040) (st1 := [.ref 136]) rfl rfl (fun _ => rfl) ?_
    refine pt_s (pc1 := 2041) (st1 := [.retAddr 0, .ref 136]) rfl rfl (fun _ => rfl) ?_
    refine pt_s (pc1 := 2043) (st1 := [.int 0, .retAddr 0, .ref 136]) rfl rfl (fun _ => rfl) ?_
    refine pt_s (pc1 := 2044) (st1 := [.int 1, .int 0, .retAddr 0, .ref 136]) rfl rfl (fun _ => rfl) ?_
    refine pt_s (pc1 := 2045) (st1 := [.int 1, .retAddr 0, .ref 136]) rfl rfl (fun _ => rfl) ?_
    refine pt_s (pc1 := 2046) (st1 := [.int a1, .ref 136]) rfl rfl (fun _ => rfl) ?_
    refine pt_callv (N := pm_X10_uses) (as := [.ref 136, .int a1]) (rest := []) (f := 2047) (l := 83979) (c1 := 0) (k1 := 0) (c2 := 599836) (k2 := 7274189) (v := some (.int 0)) (h1 := ph_15) rfl rfl (fun ex => px_inv_hs ex rfl rfl rfl pg_20 rfl rfl rfl rfl) ?_ (Nat.le_of_ble_eq_true rfl) (Nat.le_of_ble_eq_true rfl) ?_
    · refine px_C_of rfl ?_
      refine pr_s (pc1 := 1) (st1 := [.ref 136]) rfl (fun _ => rfl) ?_
      refine pr_s (pc1 := 2) (st1 := [.int a1, .ref 136]) rfl (fun _ => rfl) ?_
      refine pr_callv (N := pm_X10_isFact) (as := [.ref 136, .int a1]) (rest := []) (f := 2046) (l := 83958) (c1 := 0) (k1 := 0) (c2 := 0) (k2 := 0) (v := some (.int 0)) (h1 := ph_15) rfl (fun ex => px_inv_hs ex rfl rfl rfl pg_20 rfl rfl rfl rfl) ?_ (Nat.le_of_ble_eq_true rfl) (Nat.le_of_ble_eq_true rfl) ?_
      · refine px_C_of rfl ?_
        refine pr_s (pc1 := 1) (st1 := [.ref 136]) rfl (fun _ => rfl) ?_
        refine pr_s (pc1 := 2) (st1 := [.ref 136, .ref 136]) rfl (fun _ => rfl) ?_
        refine pr_getf (pc1 := 5) (v := .ref 138) rfl rfl pg_20 rfl rfl ?_
        refine pr_s (pc1 := 6) (st1 := [.int a1, .ref 138, .ref 136]) rfl (fun _ => rfl) ?_
        refine pr_callv (N := pm_X9_place) (as := [.ref 138, .int a1]) (rest := [.ref 136]) (f := 2045) (l := 83936) (c1 := 0) (k1 := 0) (c2 := 0) (k2 := 0) (v := some (.int (-1))) (h1 := ph_14) rfl (fun ex => px_inv_hs ex rfl rfl rfl pg_506 rfl rfl rfl rfl) ?_ (Nat.le_of_ble_eq_true rfl) (Nat.le_of_ble_eq_true rfl) ?_
        · refine px_C_of rfl ?_
          refine pr_s (pc1 := 1) (st1 := [.ref 138]) rfl (fun _ => rfl) ?_
          refine pr_getf (pc1 := 4) (v := .ref 141) rfl rfl pg_506 rfl rfl ?_
          refine pr_getf (pc1 := 7) (v := .int 0) rfl rfl pg_507 rfl rfl ?_
          refine pr_s (pc1 := 8) (st1 := [.int 1, .int 0]) rfl (fun _ => rfl) ?_
          refine pr_s (pc1 := 9) (st1 := [.int (-1)]) rfl (fun _ => rfl) ?_
          refine pr_s (pc1 := 10) (lv1 := [(2, .int (-1)), (0, .ref 138), (1, .int a1)]) (st1 := []) rfl (fun _ => rfl) ?_
          refine pr_s (pc1 := 11) (st1 := [.int (-1)]) rfl (fun _ => rfl) ?_
          refine pr_bt (t := 33) (off := 22) (bb := decide (((-1) : Int32) < 0)) (st1 := []) rfl rfl rfl rfl (by decide) ?_
          refine pr_s (pc1 := 34) (st1 := [.int (-1)]) rfl (fun _ => rfl) ?_
          exact pr_e rfl (fun _ => rfl) ⟨rfl, rfl⟩
        show px_R _ _ _ _ (9, [(0, .ref 136), (1, .int a1)], [.int (-1), .ref 136], _) _ _ _
        refine pr_s (pc1 := 10) (st1 := [.int (-1), .int (-1), .ref 136]) rfl (fun _ => rfl) ?_
        refine pr_bt (t := 17) (off := 7) (bb := decide (((-1) : Int32) = (-1))) (st1 := [.ref 136]) rfl rfl rfl rfl (by decide) ?_
        refine pr_s (pc1 := 18) (st1 := [.int 1, .ref 136]) rfl (fun _ => rfl) ?_
        refine pr_putf (pc1 := 21) (h1 := ph_15) rfl rfl pg_20 rfl rfl rfl rfl rfl rfl rfl ?_
        refine pr_s (pc1 := 22) (st1 := [.ref 136]) rfl (fun _ => rfl) ?_
        refine pr_getf (pc1 := 25) (v := .int 1) rfl rfl pg_21 rfl rfl ?_
        refine pr_bt (t := 32) (off := 7) (bb := !decide ((1 : Int32) = 0)) (st1 := []) rfl rfl rfl rfl (px_not_t (by decide)) ?_
        refine pr_s (pc1 := 33) (st1 := [.int 0]) rfl (fun _ => rfl) ?_
        exact pr_e rfl (fun _ => rfl) ⟨rfl, rfl⟩
      show px_R _ _ _ _ (5, [(0, .ref 136), (1, .int a1)], [.int 0], _) _ _ _
      refine pr_bt (t := 16) (off := 11) (bb := decide ((0 : Int32) = 0)) (st1 := []) rfl rfl rfl rfl (by decide) ?_
      refine pr_s (pc1 := 17) (st1 := [.int 0]) rfl (fun _ => rfl) ?_
      exact pr_e rfl (fun _ => rfl) ⟨rfl, rfl⟩
    show px_T _ _ _ _ (2049, [(5, .int 1), (4, .int 0), (3, .ref 164), (2, .ref 136), (1, .ref 0), (0, .retAddr 0)], [.int 0], _) _ _ _
    refine pt_s (pc1 := 2051) (lv1 := [(6, .int 0), (5, .int 1), (4, .int 0), (3, .ref 164), (2, .ref 136), (1, .ref 0), (0, .retAddr 0)]) (st1 := []) rfl rfl (fun _ => rfl) ?_
    refine pt_s (pc1 := 2052) (st1 := [.ref 136]) rfl rfl (fun _ => rfl) ?_
    refine pt_callv (N := pm_X10_thrown) (as := [.ref 136]) (rest := []) (f := 2047) (l := 83980) (c1 := 0) (k1 := 0) (c2 := 599836) (k2 := 7274189) (v := some (.int 1)) (h1 := ph_15) rfl rfl (fun ex => px_inv_hs ex rfl rfl rfl pg_21 rfl rfl rfl rfl) ?_ (Nat.le_of_ble_eq_true rfl) (Nat.le_of_ble_eq_true rfl) ?_
    · refine px_C_of rfl ?_
      refine pr_s (pc1 := 1) (st1 := [.ref 136]) rfl (fun _ => rfl) ?_
      refine pr_getf (pc1 := 4) (v := .int 1) rfl rfl pg_21 rfl rfl ?_
      exact pr_e rfl (fun _ => rfl) ⟨rfl, rfl⟩
    show px_T _ _ _ _ (2055, [(6, .int 0), (5, .int 1), (4, .int 0), (3, .ref 164), (2, .ref 136), (1, .ref 0), (0, .retAddr 0)], [.int 1], _) _ _ _
    refine pt_s (pc1 := 2057) (st1 := [.int 1, .int 1]) rfl rfl (fun _ => rfl) ?_
    refine pt_bt (t := 2062) (off := 5) (bb := decide ((1 : Int32) = 1)) (st1 := []) rfl rfl rfl rfl rfl (by decide) ?_
    refine pt_s (pc1 := 2064) (st1 := [.int 1]) rfl rfl (fun _ => rfl) ?_
    refine pt_bt (t := 2079) (off := 15) (bb := !decide ((1 : Int32) = 0)) (st1 := []) rfl rfl rfl rfl rfl (px_not_t (by decide)) ?_
    refine pt_s (pc1 := 2771) (st1 := []) rfl rfl (fun _ => rfl) ?_
    refine pt_s (pc1 := 2774) (lv1 := [(4, .int 6), (6, .int 0), (5, .int 1), (3, .ref 164), (2, .ref 136), (1, .ref 0), (0, .retAddr 0)]) (st1 := []) rfl rfl (fun _ => rfl) ?_
    refine pt_s (pc1 := 23) (st1 := []) rfl rfl (fun _ => rfl) ?_
    refine pt_s (pc1 := 25) (st1 := [.int 6]) rfl rfl (fun _ => rfl) ?_
    refine pt_s (pc1 := 26) (st1 := [.retAddr 0, .int 6]) rfl rfl (fun _ => rfl) ?_
    refine pt_s (pc1 := 27) (st1 := [.int 6, .int 6]) rfl rfl (fun _ => rfl) ?_
    refine pt_s (pc1 := 29) (st1 := [.int 6, .int 6, .int 6]) rfl rfl (fun _ => rfl) ?_
    refine pt_s (pc1 := 30) (st1 := [.int 0, .int 6]) rfl rfl (fun _ => rfl) ?_
    refine pt_bt (t := 2777) (off := 2747) (bb := decide ((0 : Int32) < (6 : Int32))) (st1 := []) rfl rfl rfl rfl rfl (by decide) ?_
    refine pt_s (pc1 := 2778) (st1 := [.int 1]) rfl rfl (fun _ => rfl) ?_
    exact pt_e rfl ⟨rfl, (rfl : px_ins pm_law 2778 = some (.ireturn, 1))⟩
set_option maxRecDepth 100000 in
set_option maxHeartbeats 40000000 in
theorem px_op_31 (a0 a1 a2 a3 a4 a5 : Int32) : px_T (some [a0, a1, a2, a3, a4, a5]) pm_law 2048 84000 (40, [(4, .int 0), (3, .ref 164), (2, .ref 136), (1, .ref 0), (0, .retAddr 0)], [.int 31], px_hs) 599837 7274195 (fun s1 => s1.2.2.1 = [.int 1] ∧ px_ins pm_law s1.1 = some (.ireturn, 1)) := by
  have ha1 : (-2147483648) ≤ a1.toInt ∧ a1.toInt ≤ 2147483647 := ⟨Int32.le_toInt a1, Int32.toInt_le a1⟩
  by_cases hs : a1.toInt < 0
  · have ha1 : (-2147483648) ≤ a1.toInt ∧ a1.toInt ≤ (-1) := ⟨ha1.1, by omega⟩
    refine pt_s (pc1 := 2082) (st1 := []) rfl rfl (fun _ => rfl) ?_
    refine pt_s (pc1 := 2083) (st1 := [.ref 0]) rfl rfl (fun _ => rfl) ?_
    refine pt_s (pc1 := 2084) (st1 := [.retAddr 0, .ref 0]) rfl rfl (fun _ => rfl) ?_
    refine pt_s (pc1 := 2086) (st1 := [.int 0, .retAddr 0, .ref 0]) rfl rfl (fun _ => rfl) ?_
    refine pt_s (pc1 := 2087) (st1 := [.int 1, .int 0, .retAddr 0, .ref 0]) rfl rfl (fun _ => rfl) ?_
    refine pt_s (pc1 := 2088) (st1 := [.int 1, .retAddr 0, .ref 0]) rfl rfl (fun _ => rfl) ?_
    refine pt_s (pc1 := 2089) (st1 := [.int a1, .ref 0]) rfl rfl (fun _ => rfl) ?_
    refine pt_s (pc1 := 2090) (st1 := [.ref 164, .int a1, .ref 0]) rfl rfl (fun _ => rfl) ?_
    refine pt_callv (N := pm_L_matches) (as := [.ref 0, .int a1, .ref 164]) (rest := []) (f := 2047) (l := 83977) (c1 := 1) (k1 := 6) (c2 := 599836) (k2 := 7274189) (v := some (.int 1)) (h1 := ph_14) rfl rfl (fun _ => rfl) ?_ (Nat.le_of_ble_eq_true rfl) (Nat.le_of_ble_eq_true rfl) ?_
    · refine px_C_of rfl ?_
      refine pr_s (pc1 := 1) (st1 := [.ref 164]) rfl (fun _ => rfl) ?_
      refine pr_s (pc1 := 2) (st1 := [.int 0, .ref 164]) rfl (fun _ => rfl) ?_
      refine pr_s (pc1 := 3) (st1 := [.ref 0, .int 0, .ref 164]) rfl (fun _ => rfl) ?_
      refine pr_s (pc1 := 4) (st1 := [.int a1, .ref 0, .int 0, .ref 164]) rfl (fun _ => rfl) ?_
      refine pr_callx (N := pm_X6_matches) (as := [.ref 0, .int a1]) (rest := [.int 0, .ref 164]) (f := 2046) (l := 83956) (c1 := 1) (k1 := 6) (c2 := 0) (k2 := 0) (E := 11) (h1 := ph_14) (a := 12) (y1 := 3) (y2 := 1) rfl (fun ex => px_inv_hs ex rfl rfl rfl pg_0 rfl rfl rfl rfl) ?_ (Nat.le_of_ble_eq_true rfl) (Nat.le_of_ble_eq_true rfl) rfl rfl rfl rfl ?_
      · refine px_C_of rfl ?_
        refine pr_s (pc1 := 1) (st1 := [.ref 0]) rfl (fun _ => rfl) ?_
        refine pr_s (pc1 := 2) (st1 := [.int a1, .ref 0]) rfl (fun _ => rfl) ?_
        refine pr_callo (N := pm_X6_needRule) (as := [.ref 0, .int a1]) (rest := []) (f := 2045) (l := 83935) (E := 11) (h1 := ph_14) rfl (fun ex => px_inv_hs ex rfl rfl rfl pg_0 rfl rfl rfl rfl) ?_ rfl ⟨rfl, rfl⟩
        · refine px_C_of rfl ?_
          refine pr_s (pc1 := 1) (st1 := [.int a1]) rfl (fun _ => rfl) ?_
          refine pr_bt (t := 12) (off := 11) (bb := decide (a1 < 0)) (st1 := []) rfl rfl rfl rfl (pb_ltT ha1.2 (show 0 ≤ (0 : Int32).toInt by decide) (by decide)) ?_
          refine pr_mh (z1 := 1) (z2 := 6) (c1 := 0) (k1 := 0) (pc1 := 22) (n := 165) (r := []) (h1 := ph_14) (es := fun n => [.inr (11, [])]) rfl (fun _ => rfl) pl_0 rfl (Nat.le_of_ble_eq_true rfl) (Nat.le_of_ble_eq_true rfl) ?_
          exact pr_e rfl (fun _ => rfl) ⟨rfl, rfl⟩
      show px_R _ _ _ _ (13, [(0, .ref 0), (1, .int a1), (2, .ref 164)], [], _) _ _ _
      refine pr_s (pc1 := 14) (st1 := [.int 1]) rfl (fun _ => rfl) ?_
      exact pr_e rfl (fun _ => rfl) ⟨rfl, rfl⟩
    show px_T _ _ _ _ (2093, [(4, .int 0), (3, .ref 164), (2, .ref 136), (1, .ref 0), (0, .retAddr 0)], [.int 1], _) _ _ _
    refine pt_s (pc1 := 2095) (lv1 := [(5, .int 1), (4, .int 0), (3, .ref 164), (2, .ref 136), (1, .ref 0), (0, .retAddr 0)]) (st1 := []) rfl rfl (fun _ => rfl) ?_
    refine pt_s (pc1 := 2096) (st1 := [.ref 136]) rfl rfl (fun _ => rfl) ?_
    refine pt_s (pc1 := 2097) (st1 := [.retAddr 0, .ref 136]) rfl rfl (fun _ => rfl) ?_
    refine pt_s (pc1 := 2099) (st1 := [.int 0, .retAddr 0, .ref 136]) rfl rfl (fun _ => rfl) ?_
    refine pt_s (pc1 := 2100) (st1 := [.int 1, .int 0, .retAddr 0, .ref 136]) rfl rfl (fun _ => rfl) ?_
    refine pt_s (pc1 := 2101) (st1 := [.int 1, .retAddr 0, .ref 136]) rfl rfl (fun _ => rfl) ?_
    refine pt_s (pc1 := 2102) (st1 := [.int a1, .ref 136]) rfl rfl (fun _ => rfl) ?_
    refine pt_callv (N := pm_X10_matches) (as := [.ref 136, .int a1]) (rest := []) (f := 2047) (l := 83979) (c1 := 0) (k1 := 0) (c2 := 599836) (k2 := 7274189) (v := some (.int 0)) (h1 := ph_15) rfl rfl (fun ex => px_inv_hs ex rfl rfl rfl pg_20 rfl rfl rfl rfl) ?_ (Nat.le_of_ble_eq_true rfl) (Nat.le_of_ble_eq_true rfl) ?_
    · refine px_C_of rfl ?_
      refine pr_s (pc1 := 1) (st1 := [.ref 136]) rfl (fun _ => rfl) ?_
      refine pr_s (pc1 := 2) (st1 := [.int a1, .ref 136]) rfl (fun _ => rfl) ?_
      refine pr_callv (N := pm_X10_has) (as := [.ref 136, .int a1]) (rest := []) (f := 2046) (l := 83958) (c1 := 0) (k1 := 0) (c2 := 0) (k2 := 0) (v := some (.int 0)) (h1 := ph_15) rfl (fun ex => px_inv_hs ex rfl rfl rfl pg_20 rfl rfl rfl rfl) ?_ (Nat.le_of_ble_eq_true rfl) (Nat.le_of_ble_eq_true rfl) ?_
      · refine px_C_of rfl ?_
        refine pr_s (pc1 := 1) (st1 := [.ref 136]) rfl (fun _ => rfl) ?_
        refine pr_s (pc1 := 2) (st1 := [.ref 136, .ref 136]) rfl (fun _ => rfl) ?_
        refine pr_s (pc1 := 3) (st1 := [.int a1, .ref 136, .ref 136]) rfl (fun _ => rfl) ?_
        refine pr_callv (N := pm_X10_isRule) (as := [.ref 136, .int a1]) (rest := [.ref 136]) (f := 2045) (l := 83937) (c1 := 0) (k1 := 0) (c2 := 0) (k2 := 0) (v := some (.int 0)) (h1 := ph_14) rfl (fun ex => px_inv_hs ex rfl rfl rfl pg_20 rfl rfl rfl rfl) ?_ (Nat.le_of_ble_eq_true rfl) (Nat.le_of_ble_eq_true rfl) ?_
        · refine px_C_of rfl ?_
          refine pr_s (pc1 := 1) (st1 := [.int a1]) rfl (fun _ => rfl) ?_
          refine pr_s (pc1 := 2) (st1 := [.int 0, .int a1]) rfl (fun _ => rfl) ?_
          refine pr_s (pc1 := 3) (st1 := [.ref 136, .int 0, .int a1]) rfl (fun _ => rfl) ?_
          refine pr_getf (pc1 := 6) (v := .int 0) rfl rfl pg_20 rfl rfl ?_
          refine pr_s (pc1 := 7) (st1 := [.int 1, .int 0, .int 0, .int a1]) rfl (fun _ => rfl) ?_
          refine pr_s (pc1 := 8) (st1 := [.int (-1), .int 0, .int a1]) rfl (fun _ => rfl) ?_
          refine pr_callv (N := pm_X10_is) (as := [.int a1, .int 0, .int (-1)]) (rest := []) (f := 2044) (l := 83915) (c1 := 0) (k1 := 0) (c2 := 0) (k2 := 0) (v := some (.int 0)) (h1 := ph_14) rfl (fun _ => rfl) ?_ (Nat.le_of_ble_eq_true rfl) (Nat.le_of_ble_eq_true rfl) ?_
          · refine px_C_of rfl ?_
            refine pr_s (pc1 := 1) (st1 := [.int a1]) rfl (fun _ => rfl) ?_
            refine pr_s (pc1 := 2) (st1 := [.int 0, .int a1]) rfl (fun _ => rfl) ?_
            refine pr_bt (t := 14) (off := 12) (bb := decide (a1 < 0)) (st1 := []) rfl rfl rfl rfl (pb_ltT ha1.2 (show 0 ≤ (0 : Int32).toInt by decide) (by decide)) ?_
            refine pr_s (pc1 := 15) (st1 := [.int 0]) rfl (fun _ => rfl) ?_
            exact pr_e rfl (fun _ => rfl) ⟨rfl, rfl⟩
          show px_R _ _ _ _ (11, [(0, .ref 136), (1, .int a1)], [.int 0], _) _ _ _
          exact pr_e rfl (fun _ => rfl) ⟨rfl, rfl⟩
        show px_R _ _ _ _ (6, [(0, .ref 136), (1, .int a1)], [.int 0, .ref 136], _) _ _ _
        refine pr_bt (t := 13) (off := 7) (bb := decide ((0 : Int32) = 0)) (st1 := [.ref 136]) rfl rfl rfl rfl (by decide) ?_
        refine pr_s (pc1 := 14) (st1 := [.int 1, .ref 136]) rfl (fun _ => rfl) ?_
        refine pr_putf (pc1 := 17) (h1 := ph_15) rfl rfl pg_20 rfl rfl rfl rfl rfl rfl rfl ?_
        refine pr_s (pc1 := 18) (st1 := [.ref 136]) rfl (fun _ => rfl) ?_
        refine pr_getf (pc1 := 21) (v := .int 1) rfl rfl pg_21 rfl rfl ?_
        refine pr_bt (t := 28) (off := 7) (bb := !decide ((1 : Int32) = 0)) (st1 := []) rfl rfl rfl rfl (px_not_t (by decide)) ?_
        refine pr_s (pc1 := 29) (st1 := [.int 0]) rfl (fun _ => rfl) ?_
        exact pr_e rfl (fun _ => rfl) ⟨rfl, rfl⟩
      show px_R _ _ _ _ (5, [(0, .ref 136), (1, .int a1)], [.int 0], _) _ _ _
      refine pr_bt (t := 16) (off := 11) (bb := decide ((0 : Int32) = 0)) (st1 := []) rfl rfl rfl rfl (by decide) ?_
      refine pr_s (pc1 := 17) (st1 := [.int 0]) rfl (fun _ => rfl) ?_
      exact pr_e rfl (fun _ => rfl) ⟨rfl, rfl⟩
    show px_T _ _ _ _ (2105, [(5, .int 1), (4, .int 0), (3, .ref 164), (2, .ref 136), (1, .ref 0), (0, .retAddr 0)], [.int 0], _) _ _ _
    refine pt_s (pc1 := 2107) (lv1 := [(6, .int 0), (5, .int 1), (4, .int 0), (3, .ref 164), (2, .ref 136), (1, .ref 0), (0, .retAddr 0)]) (st1 := []) rfl rfl (fun _ => rfl) ?_
    refine pt_s (pc1 := 2108) (st1 := [.ref 136]) rfl rfl (fun _ => rfl) ?_
    refine pt_callv (N := pm_X10_thrown) (as := [.ref 136]) (rest := []) (f := 2047) (l := 83980) (c1 := 0) (k1 := 0) (c2 := 599836) (k2 := 7274189) (v := some (.int 1)) (h1 := ph_15) rfl rfl (fun ex => px_inv_hs ex rfl rfl rfl pg_21 rfl rfl rfl rfl) ?_ (Nat.le_of_ble_eq_true rfl) (Nat.le_of_ble_eq_true rfl) ?_
    · refine px_C_of rfl ?_
      refine pr_s (pc1 := 1) (st1 := [.ref 136]) rfl (fun _ => rfl) ?_
      refine pr_getf (pc1 := 4) (v := .int 1) rfl rfl pg_21 rfl rfl ?_
      exact pr_e rfl (fun _ => rfl) ⟨rfl, rfl⟩
    show px_T _ _ _ _ (2111, [(6, .int 0), (5, .int 1), (4, .int 0), (3, .ref 164), (2, .ref 136), (1, .ref 0), (0, .retAddr 0)], [.int 1], _) _ _ _
    refine pt_s (pc1 := 2113) (st1 := [.int 1, .int 1]) rfl rfl (fun _ => rfl) ?_
    refine pt_bt (t := 2118) (off := 5) (bb := decide ((1 : Int32) = 1)) (st1 := []) rfl rfl rfl rfl rfl (by decide) ?_
    refine pt_s (pc1 := 2120) (st1 := [.int 1]) rfl rfl (fun _ => rfl) ?_
    refine pt_bt (t := 2135) (off := 15) (bb := !decide ((1 : Int32) = 0)) (st1 := []) rfl rfl rfl rfl rfl (px_not_t (by decide)) ?_
    refine pt_s (pc1 := 2771) (st1 := []) rfl rfl (fun _ => rfl) ?_
    refine pt_s (pc1 := 2774) (lv1 := [(4, .int 6), (6, .int 0), (5, .int 1), (3, .ref 164), (2, .ref 136), (1, .ref 0), (0, .retAddr 0)]) (st1 := []) rfl rfl (fun _ => rfl) ?_
    refine pt_s (pc1 := 23) (st1 := []) rfl rfl (fun _ => rfl) ?_
    refine pt_s (pc1 := 25) (st1 := [.int 6]) rfl rfl (fun _ => rfl) ?_
    refine pt_s (pc1 := 26) (st1 := [.retAddr 0, .int 6]) rfl rfl (fun _ => rfl) ?_
    refine pt_s (pc1 := 27) (st1 := [.int 6, .int 6]) rfl rfl (fun _ => rfl) ?_
    refine pt_s (pc1 := 29) (st1 := [.int 6, .int 6, .int 6]) rfl rfl (fun _ => rfl) ?_
    refine pt_s (pc1 := 30) (st1 := [.int 0, .int 6]) rfl rfl (fun _ => rfl) ?_
    refine pt_bt (t := 2777) (off := 2747) (bb := decide ((0 : Int32) < (6 : Int32))) (st1 := []) rfl rfl rfl rfl rfl (by decide) ?_
    refine pt_s (pc1 := 2778) (st1 := [.int 1]) rfl rfl (fun _ => rfl) ?_
    exact pt_e rfl ⟨rfl, (rfl : px_ins pm_law 2778 = some (.ireturn, 1))⟩
  · have ha1 : 0 ≤ a1.toInt ∧ a1.toInt ≤ 2147483647 := ⟨by omega, ha1.2⟩
    refine pt_s (pc1 := 2082) (st1 := []) rfl rfl (fun _ => rfl) ?_
    refine pt_s (pc1 := 2083) (st1 := [.ref 0]) rfl rfl (fun _ => rfl) ?_
    refine pt_s (pc1 := 2084) (st1 := [.retAddr 0, .ref 0]) rfl rfl (fun _ => rfl) ?_
    refine pt_s (pc1 := 2086) (st1 := [.int 0, .retAddr 0, .ref 0]) rfl rfl (fun _ => rfl) ?_
    refine pt_s (pc1 := 2087) (st1 := [.int 1, .int 0, .retAddr 0, .ref 0]) rfl rfl (fun _ => rfl) ?_
    refine pt_s (pc1 := 2088) (st1 := [.int 1, .retAddr 0, .ref 0]) rfl rfl (fun _ => rfl) ?_
    refine pt_s (pc1 := 2089) (st1 := [.int a1, .ref 0]) rfl rfl (fun _ => rfl) ?_
    refine pt_s (pc1 := 2090) (st1 := [.ref 164, .int a1, .ref 0]) rfl rfl (fun _ => rfl) ?_
    refine pt_callv (N := pm_L_matches) (as := [.ref 0, .int a1, .ref 164]) (rest := []) (f := 2047) (l := 83977) (c1 := 1) (k1 := 6) (c2 := 599836) (k2 := 7274189) (v := some (.int 1)) (h1 := ph_14) rfl rfl (fun _ => rfl) ?_ (Nat.le_of_ble_eq_true rfl) (Nat.le_of_ble_eq_true rfl) ?_
    · refine px_C_of rfl ?_
      refine pr_s (pc1 := 1) (st1 := [.ref 164]) rfl (fun _ => rfl) ?_
      refine pr_s (pc1 := 2) (st1 := [.int 0, .ref 164]) rfl (fun _ => rfl) ?_
      refine pr_s (pc1 := 3) (st1 := [.ref 0, .int 0, .ref 164]) rfl (fun _ => rfl) ?_
      refine pr_s (pc1 := 4) (st1 := [.int a1, .ref 0, .int 0, .ref 164]) rfl (fun _ => rfl) ?_
      refine pr_callx (N := pm_X6_matches) (as := [.ref 0, .int a1]) (rest := [.int 0, .ref 164]) (f := 2046) (l := 83956) (c1 := 1) (k1 := 6) (c2 := 0) (k2 := 0) (E := 11) (h1 := ph_14) (a := 12) (y1 := 3) (y2 := 1) rfl (fun ex => px_inv_hs ex rfl rfl rfl pg_0 rfl rfl rfl rfl) ?_ (Nat.le_of_ble_eq_true rfl) (Nat.le_of_ble_eq_true rfl) rfl rfl rfl rfl ?_
      · refine px_C_of rfl ?_
        refine pr_s (pc1 := 1) (st1 := [.ref 0]) rfl (fun _ => rfl) ?_
        refine pr_s (pc1 := 2) (st1 := [.int a1, .ref 0]) rfl (fun _ => rfl) ?_
        refine pr_callo (N := pm_X6_needRule) (as := [.ref 0, .int a1]) (rest := []) (f := 2045) (l := 83935) (E := 11) (h1 := ph_14) rfl (fun ex => px_inv_hs ex rfl rfl rfl pg_0 rfl rfl rfl rfl) ?_ rfl ⟨rfl, rfl⟩
        · refine px_C_of rfl ?_
          refine pr_s (pc1 := 1) (st1 := [.int a1]) rfl (fun _ => rfl) ?_
          refine pr_bf (t := 12) (off := 11) (bb := decide (a1 < 0)) (st1 := []) rfl rfl rfl rfl (pb_ltF ha1.1 (show (0 : Int32).toInt ≤ 0 by decide) (by decide)) ?_
          refine pr_s (pc1 := 5) (st1 := [.int a1]) rfl (fun _ => rfl) ?_
          refine pr_s (pc1 := 6) (st1 := [.ref 0, .int a1]) rfl (fun _ => rfl) ?_
          refine pr_getf (pc1 := 9) (v := .int 0) rfl rfl pg_0 rfl rfl ?_
          refine pr_bf (t := 23) (off := 14) (bb := decide (a1 < 0)) (st1 := []) rfl rfl rfl rfl (pb_ltF ha1.1 (show (0 : Int32).toInt ≤ 0 by decide) (by decide)) ?_
          refine pr_mh (z1 := 1) (z2 := 6) (c1 := 0) (k1 := 0) (pc1 := 22) (n := 165) (r := []) (h1 := ph_14) (es := fun n => [.inr (11, [])]) rfl (fun _ => rfl) pl_0 rfl (Nat.le_of_ble_eq_true rfl) (Nat.le_of_ble_eq_true rfl) ?_
          exact pr_e rfl (fun _ => rfl) ⟨rfl, rfl⟩
      show px_R _ _ _ _ (13, [(0, .ref 0), (1, .int a1), (2, .ref 164)], [], _) _ _ _
      refine pr_s (pc1 := 14) (st1 := [.int 1]) rfl (fun _ => rfl) ?_
      exact pr_e rfl (fun _ => rfl) ⟨rfl, rfl⟩
    show px_T _ _ _ _ (2093, [(4, .int 0), (3, .ref 164), (2, .ref 136), (1, .ref 0), (0, .retAddr 0)], [.int 1], _) _ _ _
    refine pt_s (pc1 := 2095) (lv1 := [(5, .int 1), (4, .int 0), (3, .ref 164), (2, .ref 136), (1, .ref 0), (0, .retAddr 0)]) (st1 := []) rfl rfl (fun _ => rfl) ?_
    refine pt_s (pc1 := 2096) (st1 := [.ref 136]) rfl rfl (fun _ => rfl) ?_
    refine pt_s (pc1 := 2097) (st1 := [.retAddr 0, .ref 136]) rfl rfl (fun _ => rfl) ?_
    refine pt_s (pc1 := 2099) (st1 := [.int 0, .retAddr 0, .ref 136]) rfl rfl (fun _ => rfl) ?_
    refine pt_s (pc1 := 2100) (st1 := [.int 1, .int 0, .retAddr 0, .ref 136]) rfl rfl (fun _ => rfl) ?_
    refine pt_s (pc1 := 2101) (st1 := [.int 1, .retAddr 0, .ref 136]) rfl rfl (fun _ => rfl) ?_
    refine pt_s (pc1 := 2102) (st1 := [.int a1, .ref 136]) rfl rfl (fun _ => rfl) ?_
    refine pt_callv (N := pm_X10_matches) (as := [.ref 136, .int a1]) (rest := []) (f := 2047) (l := 83979) (c1 := 0) (k1 := 0) (c2 := 599836) (k2 := 7274189) (v := some (.int 0)) (h1 := ph_15) rfl rfl (fun ex => px_inv_hs ex rfl rfl rfl pg_20 rfl rfl rfl rfl) ?_ (Nat.le_of_ble_eq_true rfl) (Nat.le_of_ble_eq_true rfl) ?_
    · refine px_C_of rfl ?_
      refine pr_s (pc1 := 1) (st1 := [.ref 136]) rfl (fun _ => rfl) ?_
      refine pr_s (pc1 := 2) (st1 := [.int a1, .ref 136]) rfl (fun _ => rfl) ?_
      refine pr_callv (N := pm_X10_has) (as := [.ref 136, .int a1]) (rest := []) (f := 2046) (l := 83958) (c1 := 0) (k1 := 0) (c2 := 0) (k2 := 0) (v := some (.int 0)) (h1 := ph_15) rfl (fun ex => px_inv_hs ex rfl rfl rfl pg_20 rfl rfl rfl rfl) ?_ (Nat.le_of_ble_eq_true rfl) (Nat.le_of_ble_eq_true rfl) ?_
      · refine px_C_of rfl ?_
        refine pr_s (pc1 := 1) (st1 := [.ref 136]) rfl (fun _ => rfl) ?_
        refine pr_s (pc1 := 2) (st1 := [.ref 136, .ref 136]) rfl (fun _ => rfl) ?_
        refine pr_s (pc1 := 3) (st1 := [.int a1, .ref 136, .ref 136]) rfl (fun _ => rfl) ?_
        refine pr_callv (N := pm_X10_isRule) (as := [.ref 136, .int a1]) (rest := [.ref 136]) (f := 2045) (l := 83937) (c1 := 0) (k1 := 0) (c2 := 0) (k2 := 0) (v := some (.int 0)) (h1 := ph_14) rfl (fun ex => px_inv_hs ex rfl rfl rfl pg_20 rfl rfl rfl rfl) ?_ (Nat.le_of_ble_eq_true rfl) (Nat.le_of_ble_eq_true rfl) ?_
        · refine px_C_of rfl ?_
          refine pr_s (pc1 := 1) (st1 := [.int a1]) rfl (fun _ => rfl) ?_
          refine pr_s (pc1 := 2) (st1 := [.int 0, .int a1]) rfl (fun _ => rfl) ?_
          refine pr_s (pc1 := 3) (st1 := [.ref 136, .int 0, .int a1]) rfl (fun _ => rfl) ?_
          refine pr_getf (pc1 := 6) (v := .int 0) rfl rfl pg_20 rfl rfl ?_
          refine pr_s (pc1 := 7) (st1 := [.int 1, .int 0, .int 0, .int a1]) rfl (fun _ => rfl) ?_
          refine pr_s (pc1 := 8) (st1 := [.int (-1), .int 0, .int a1]) rfl (fun _ => rfl) ?_
          refine pr_callv (N := pm_X10_is) (as := [.int a1, .int 0, .int (-1)]) (rest := []) (f := 2044) (l := 83915) (c1 := 0) (k1 := 0) (c2 := 0) (k2 := 0) (v := some (.int 0)) (h1 := ph_14) rfl (fun _ => rfl) ?_ (Nat.le_of_ble_eq_true rfl) (Nat.le_of_ble_eq_true rfl) ?_
          · refine px_C_of rfl ?_
            refine pr_s (pc1 := 1) (st1 := [.int a1]) rfl (fun _ => rfl) ?_
            refine pr_s (pc1 := 2) (st1 := [.int 0, .int a1]) rfl (fun _ => rfl) ?_
            refine pr_bf (t := 14) (off := 12) (bb := decide (a1 < 0)) (st1 := []) rfl rfl rfl rfl (pb_ltF ha1.1 (show (0 : Int32).toInt ≤ 0 by decide) (by decide)) ?_
            refine pr_s (pc1 := 6) (st1 := [.int a1]) rfl (fun _ => rfl) ?_
            refine pr_s (pc1 := 7) (st1 := [.int (-1), .int a1]) rfl (fun _ => rfl) ?_
            refine pr_bt (t := 14) (off := 7) (bb := decide (((-1) : Int32) < a1)) (st1 := []) rfl rfl rfl rfl (pb_ltT (show ((-1) : Int32).toInt ≤ (-1) by decide) ha1.1 (by decide)) ?_
            refine pr_s (pc1 := 15) (st1 := [.int 0]) rfl (fun _ => rfl) ?_
            exact pr_e rfl (fun _ => rfl) ⟨rfl, rfl⟩
          show px_R _ _ _ _ (11, [(0, .ref 136), (1, .int a1)], [.int 0], _) _ _ _
          exact pr_e rfl (fun _ => rfl) ⟨rfl, rfl⟩
        show px_R _ _ _ _ (6, [(0, .ref 136), (1, .int a1)], [.int 0, .ref 136], _) _ _ _
        refine pr_bt (t := 13) (off := 7) (bb := decide ((0 : Int32) = 0)) (st1 := [.ref 136]) rfl rfl rfl rfl (by decide) ?_
        refine pr_s (pc1 := 14) (st1 := [.int 1, .ref 136]) rfl (fun _ => rfl) ?_
        refine pr_putf (pc1 := 17) (h1 := ph_15) rfl rfl pg_20 rfl rfl rfl rfl rfl rfl rfl ?_
        refine pr_s (pc1 := 18) (st1 := [.ref 136]) rfl (fun _ => rfl) ?_
        refine pr_getf (pc1 := 21) (v := .int 1) rfl rfl pg_21 rfl rfl ?_
        refine pr_bt (t := 28) (off := 7) (bb := !decide ((1 : Int32) = 0)) (st1 := []) rfl rfl rfl rfl (px_not_t (by decide)) ?_
        refine pr_s (pc1 := 29) (st1 := [.int 0]) rfl (fun _ => rfl) ?_
        exact pr_e rfl (fun _ => rfl) ⟨rfl, rfl⟩
      show px_R _ _ _ _ (5, [(0, .ref 136), (1, .int a1)], [.int 0], _) _ _ _
      refine pr_bt (t := 16) (off := 11) (bb := decide ((0 : Int32) = 0)) (st1 := []) rfl rfl rfl rfl (by decide) ?_
      refine pr_s (pc1 := 17) (st1 := [.int 0]) rfl (fun _ => rfl) ?_
      exact pr_e rfl (fun _ => rfl) ⟨rfl, rfl⟩
    show px_T _ _ _ _ (2105, [(5, .int 1), (4, .int 0), (3, .ref 164), (2, .ref 136), (1, .ref 0), (0, .retAddr 0)], [.int 0], _) _ _ _
    refine pt_s (pc1 := 2107) (lv1 := [(6, .int 0), (5, .int 1), (4, .int 0), (3, .ref 164), (2, .ref 136), (1, .ref 0), (0, .retAddr 0)]) (st1 := []) rfl rfl (fun _ => rfl) ?_
    refine pt_s (pc1 := 2108) (st1 := [.ref 136]) rfl rfl (fun _ => rfl) ?_
    refine pt_callv (N := pm_X10_thrown) (as := [.ref 136]) (rest := []) (f := 2047) (l := 83980) (c1 := 0) (k1 := 0) (c2 := 599836) (k2 := 7274189) (v := some (.int 1)) (h1 := ph_15) rfl rfl (fun ex => px_inv_hs ex rfl rfl rfl pg_21 rfl rfl rfl rfl) ?_ (Nat.le_of_ble_eq_true rfl) (Nat.le_of_ble_eq_true rfl) ?_
    · refine px_C_of rfl ?_
      refine pr_s (pc1 := 1) (st1 := [.ref 136]) rfl (fun _ => rfl) ?_
      refine pr_getf (pc1 := 4) (v := .int 1) rfl rfl pg_21 rfl rfl ?_
      exact pr_e rfl (fun _ => rfl) ⟨rfl, rfl⟩
    show px_T _ _ _ _ (2111, [(6, .int 0), (5, .int 1), (4, .int 0), (3, .ref 164), (2, .ref 136), (1, .ref 0), (0, .retAddr 0)], [.int 1], _) _ _ _
    refine pt_s (pc1 := 2113) (st1 := [.int 1, .int 1]) rfl rfl (fun _ => rfl) ?_
    refine pt_bt (t := 2118) (off := 5) (bb := decide ((1 : Int32) = 1)) (st1 := []) rfl rfl rfl rfl rfl (by decide) ?_
    refine pt_s (pc1 := 2120) (st1 := [.int 1]) rfl rfl (fun _ => rfl) ?_
    refine pt_bt (t := 2135) (off := 15) (bb := !decide ((1 : Int32) = 0)) (st1 := []) rfl rfl rfl rfl rfl (px_not_t (by decide)) ?_
    refine pt_s (pc1 := 2771) (st1 := []) rfl rfl (fun _ => rfl) ?_
    refine pt_s (pc1 := 2774) (lv1 := [(4, .int 6), (6, .int 0), (5, .int 1), (3, .ref 164), (2, .ref 136), (1, .ref 0), (0, .retAddr 0)]) (st1 := []) rfl rfl (fun _ => rfl) ?_
    refine pt_s (pc1 := 23) (st1 := []) rfl rfl (fun _ => rfl) ?_
    refine pt_s (pc1 := 25) (st1 := [.int 6]) rfl rfl (fun _ => rfl) ?_
    refine pt_s (pc1 := 26) (st1 := [.retAddr 0, .int 6]) rfl rfl (fun _ => rfl) ?_
    refine pt_s (pc1 := 27) (st1 := [.int 6, .int 6]) rfl rfl (fun _ => rfl) ?_
    refine pt_s (pc1 := 29) (st1 := [.int 6, .int 6, .int 6]) rfl rfl (fun _ => rfl) ?_
    refine pt_s (pc1 := 30) (st1 := [.int 0, .int 6]) rfl rfl (fun _ => rfl) ?_
    refine pt_bt (t := 2777) (off := 2747) (bb := decide ((0 : Int32) < (6 : Int32))) (st1 := []) rfl rfl rfl rfl rfl (by decide) ?_
    refine pt_s (pc1 := 2778) (st1 := [.int 1]) rfl rfl (fun _ => rfl) ?_
    exact pt_e rfl ⟨rfl, (rfl : px_ins pm_law 2778 = some (.ireturn, 1))⟩
set_option maxRecDepth 100000 in
set_option maxHeartbeats 40000000 in
theorem px_op_32 (a0 a1 a2 a3 a4 a5 : Int32) : px_T (some [a0, a1, a2, a3, a4, a5]) pm_law 2048 84000 (40, [(4, .int 0), (3, .ref 164), (2, .ref 136), (1, .ref 0), (0, .retAddr 0)], [.int 32], px_hs) 599837 7274195 (fun s1 => s1.2.2.1 = [.int 1] ∧ px_ins pm_law s1.1 = some (.ireturn, 1)) := by
  have ha1 : (-2147483648) ≤ a1.toInt ∧ a1.toInt ≤ 2147483647 := ⟨Int32.le_toInt a1, Int32.toInt_le a1⟩
  by_cases hs : a1.toInt < 0
  · have ha1 : (-2147483648) ≤ a1.toInt ∧ a1.toInt ≤ (-1) := ⟨ha1.1, by omega⟩
    refine pt_s (pc1 := 2138) (st1 := []) rfl rfl (fun _ => rfl) ?_
    refine pt_s (pc1 := 2139) (st1 := [.ref 0]) rfl rfl (fun _ => rfl) ?_
    refine pt_s (pc1 := 2140) (st1 := [.retAddr 0, .ref 0]) rfl rfl (fun _ => rfl) ?_
    refine pt_s (pc1 := 2142) (st1 := [.int 0, .retAddr 0, .ref 0]) rfl rfl (fun _ => rfl) ?_
    refine pt_s (pc1 := 2143) (st1 := [.int 1, .int 0, .retAddr 0, .ref 0]) rfl rfl (fun _ => rfl) ?_
    refine pt_s (pc1 := 2144) (st1 := [.int 1, .retAddr 0, .ref 0]) rfl rfl (fun _ => rfl) ?_
    refine pt_s (pc1 := 2145) (st1 := [.int a1, .ref 0]) rfl rfl (fun _ => rfl) ?_
    refine pt_s (pc1 := 2146) (st1 := [.retAddr 0, .int a1, .ref 0]) rfl rfl (fun _ => rfl) ?_
    refine pt_s (pc1 := 2148) (st1 := [.int 0, .retAddr 0, .int a1, .ref 0]) rfl rfl (fun _ => rfl) ?_
    refine pt_s (pc1 := 2149) (st1 := [.int 2, .int 0, .retAddr 0, .int a1, .ref 0]) rfl rfl (fun _ => rfl) ?_
    refine pt_s (pc1 := 2150) (st1 := [.int 2, .retAddr 0, .int a1, .ref 0]) rfl rfl (fun _ => rfl) ?_
    refine pt_s (pc1 := 2151) (st1 := [.int a2, .int a1, .ref 0]) rfl rfl (fun _ => rfl) ?_
    refine pt_s (pc1 := 2152) (st1 := [.retAddr 0, .int a2, .int a1, .ref 0]) rfl rfl (fun _ => rfl) ?_
    refine pt_s (pc1 := 2154) (st1 := [.int 0, .retAddr 0, .int a2, .int a1, .ref 0]) rfl rfl (fun _ => rfl) ?_
    refine pt_s (pc1 := 2155) (st1 := [.int 3, .int 0, .retAddr 0, .int a2, .int a1, .ref 0]) rfl rfl (fun _ => rfl) ?_
    refine pt_s (pc1 := 2156) (st1 := [.int 3, .retAddr 0, .int a2, .int a1, .ref 0]) rfl rfl (fun _ => rfl) ?_
    refine pt_s (pc1 := 2157) (st1 := [.int a3, .int a2, .int a1, .ref 0]) rfl rfl (fun _ => rfl) ?_
    refine pt_s (pc1 := 2158) (st1 := [.ref 164, .int a3, .int a2, .int a1, .ref 0]) rfl rfl (fun _ => rfl) ?_
    refine pt_callv (N := pm_L_factOf) (as := [.ref 0, .int a1, .int a2, .int a3, .ref 164]) (rest := []) (f := 2047) (l := 83975) (c1 := 1) (k1 := 6) (c2 := 599836) (k2 := 7274189) (v := some (.int 1)) (h1 := ph_14) rfl rfl (fun _ => rfl) ?_ (Nat.le_of_ble_eq_true rfl) (Nat.le_of_ble_eq_true rfl) ?_
    · refine px_C_of rfl ?_
      refine pr_s (pc1 := 2) (st1 := [.ref 164]) rfl (fun _ => rfl) ?_
      refine pr_s (pc1 := 3) (st1 := [.int 0, .ref 164]) rfl (fun _ => rfl) ?_
      refine pr_s (pc1 := 4) (st1 := [.ref 0, .int 0, .ref 164]) rfl (fun _ => rfl) ?_
      refine pr_s (pc1 := 5) (st1 := [.int a1, .ref 0, .int 0, .ref 164]) rfl (fun _ => rfl) ?_
      refine pr_s (pc1 := 6) (st1 := [.int a2, .int a1, .ref 0, .int 0, .ref 164]) rfl (fun _ => rfl) ?_
      refine pr_s (pc1 := 7) (st1 := [.int a3, .int a2, .int a1, .ref 0, .int 0, .ref 164]) rfl (fun _ => rfl) ?_
      refine pr_callx (N := pm_X6_factOf) (as := [.ref 0, .int a1, .int a2, .int a3]) (rest := [.int 0, .ref 164]) (f := 2046) (l := 83951) (c1 := 1) (k1 := 6) (c2 := 0) (k2 := 0) (E := 11) (h1 := ph_14) (a := 15) (y1 := 5) (y2 := 2) rfl (fun ex => px_inv_hs ex rfl rfl rfl pg_0 rfl rfl rfl rfl) ?_ (Nat.le_of_ble_eq_true rfl) (Nat.le_of_ble_eq_true rfl) rfl rfl rfl rfl ?_
      · refine px_C_of rfl ?_
        refine pr_s (pc1 := 1) (st1 := [.ref 0]) rfl (fun _ => rfl) ?_
        refine pr_s (pc1 := 2) (st1 := [.int a1, .ref 0]) rfl (fun _ => rfl) ?_
        refine pr_s (pc1 := 3) (st1 := [.int a2, .int a1, .ref 0]) rfl (fun _ => rfl) ?_
        refine pr_callo (N := pm_X6_needMatch) (as := [.ref 0, .int a1, .int a2]) (rest := []) (f := 2045) (l := 83928) (E := 11) (h1 := ph_14) rfl (fun ex => px_inv_hs ex rfl rfl rfl pg_0 rfl rfl rfl rfl) ?_ rfl ⟨rfl, rfl⟩
        · refine px_C_of rfl ?_
          refine pr_s (pc1 := 1) (st1 := [.ref 0]) rfl (fun _ => rfl) ?_
          refine pr_s (pc1 := 2) (st1 := [.int a1, .ref 0]) rfl (fun _ => rfl) ?_
          refine pr_callo (N := pm_X6_needRule) (as := [.ref 0, .int a1]) (rest := []) (f := 2044) (l := 83907) (E := 11) (h1 := ph_14) rfl (fun ex => px_inv_hs ex rfl rfl rfl pg_0 rfl rfl rfl rfl) ?_ rfl ⟨rfl, rfl⟩
          · refine px_C_of rfl ?_
            refine pr_s (pc1 := 1) (st1 := [.int a1]) rfl (fun _ => rfl) ?_
            refine pr_bt (t := 12) (off := 11) (bb := decide (a1 < 0)) (st1 := []) rfl rfl rfl rfl (pb_ltT ha1.2 (show 0 ≤ (0 : Int32).toInt by decide) (by decide)) ?_
            refine pr_mh (z1 := 1) (z2 := 6) (c1 := 0) (k1 := 0) (pc1 := 22) (n := 165) (r := []) (h1 := ph_14) (es := fun n => [.inr (11, [])]) rfl (fun _ => rfl) pl_0 rfl (Nat.le_of_ble_eq_true rfl) (Nat.le_of_ble_eq_true rfl) ?_
            exact pr_e rfl (fun _ => rfl) ⟨rfl, rfl⟩
      show px_R _ _ _ _ (17, [(0, .ref 0), (1, .int a1), (2, .int a2), (3, .int a3), (4, .ref 164)], [], _) _ _ _
      refine pr_s (pc1 := 18) (st1 := [.int 1]) rfl (fun _ => rfl) ?_
      exact pr_e rfl (fun _ => rfl) ⟨rfl, rfl⟩
    show px_T _ _ _ _ (2161, [(4, .int 0), (3, .ref 164), (2, .ref 136), (1, .ref 0), (0, .retAddr 0)], [.int 1], _) _ _ _
    refine pt_s (pc1 := 2163) (lv1 := [(5, .int 1), (4, .int 0), (3, .ref 164), (2, .ref 136), (1, .ref 0), (0, .retAddr 0)]) (st1 := []) rfl rfl (fun _ => rfl) ?_
    refine pt_s (pc1 := 2164) (st1 := [.ref 136]) rfl rfl (fun _ => rfl) ?_
    refine pt_s (pc1 := 2165) (st1 := [.retAddr 0, .ref 136]) rfl rfl (fun _ => rfl) ?_
    refine pt_s (pc1 := 2167) (st1 := [.int 0, .retAddr 0, .ref 136]) rfl rfl (fun _ => rfl) ?_
    refine pt_s (pc1 := 2168) (st1 := [.int 1, .int 0, .retAddr 0, .ref 136]) rfl rfl (fun _ => rfl) ?_
    refine pt_s (pc1 := 2169) (st1 := [.int 1, .retAddr 0, .ref 136]) rfl rfl (fun _ => rfl) ?_
    refine pt_s (pc1 := 2170) (st1 := [.int a1, .ref 136]) rfl rfl (fun _ => rfl) ?_
    refine pt_s (pc1 := 2171) (st1 := [.retAddr 0, .int a1, .ref 136]) rfl rfl (fun _ => rfl) ?_
    refine pt_s (pc1 := 2173) (st1 := [.int 0, .retAddr 0, .int a1, .ref 136]) rfl rfl (fun _ => rfl) ?_
    refine pt_s (pc1 := 2174) (st1 := [.int 2, .int 0, .retAddr 0, .int a1, .ref 136]) rfl rfl (fun _ => rfl) ?_
    refine pt_s (pc1 := 2175) (st1 := [.int 2, .retAddr 0, .int a1, .ref 136]) rfl rfl (fun _ => rfl) ?_
    refine pt_s (pc1 := 2176) (st1 := [.int a2, .int a1, .ref 136]) rfl rfl (fun _ => rfl) ?_
    refine pt_s (pc1 := 2177) (st1 := [.retAddr 0, .int a2, .int a1, .ref 136]) rfl rfl (fun _ => rfl) ?_
    refine pt_s (pc1 := 2179) (st1 := [.int 0, .retAddr 0, .int a2, .int a1, .ref 136]) rfl rfl (fun _ => rfl) ?_
    refine pt_s (pc1 := 2180) (st1 := [.int 3, .int 0, .retAddr 0, .int a2, .int a1, .ref 136]) rfl rfl (fun _ => rfl) ?_
    refine pt_s (pc1 := 2181) (st1 := [.int 3, .retAddr 0, .int a2, .int a1, .ref 136]) rfl rfl (fun _ => rfl) ?_
    refine pt_s (pc1 := 2182) (st1 := [.int a3, .int a2, .int a1, .ref 136]) rfl rfl (fun _ => rfl) ?_
    refine pt_callv (N := pm_X10_factOf) (as := [.ref 136, .int a1, .int a2, .int a3]) (rest := []) (f := 2047) (l := 83976) (c1 := 0) (k1 := 0) (c2 := 599836) (k2 := 7274189) (v := some (.int 0)) (h1 := ph_15) rfl rfl (fun ex => px_inv_hs ex rfl rfl rfl pg_20 rfl rfl rfl rfl) ?_ (Nat.le_of_ble_eq_true rfl) (Nat.le_of_ble_eq_true rfl) ?_
    · refine px_C_of rfl ?_
      refine pr_s (pc1 := 1) (st1 := [.ref 136]) rfl (fun _ => rfl) ?_
      refine pr_s (pc1 := 2) (st1 := [.int a1, .ref 136]) rfl (fun _ => rfl) ?_
      refine pr_s (pc1 := 3) (st1 := [.int a2, .int a1, .ref 136]) rfl (fun _ => rfl) ?_
      refine pr_callv (N := pm_X10_matchOf) (as := [.ref 136, .int a1, .int a2]) (rest := []) (f := 2046) (l := 83953) (c1 := 0) (k1 := 0) (c2 := 0) (k2 := 0) (v := some (.int (0 + a2))) (h1 := ph_15) rfl (fun ex => px_inv_hs ex rfl rfl rfl pg_20 rfl rfl rfl rfl) ?_ (Nat.le_of_ble_eq_true rfl) (Nat.le_of_ble_eq_true rfl) ?_
      · refine px_C_of rfl ?_
        refine pr_s (pc1 := 1) (st1 := [.ref 136]) rfl (fun _ => rfl) ?_
        refine pr_s (pc1 := 2) (st1 := [.ref 136, .ref 136]) rfl (fun _ => rfl) ?_
        refine pr_s (pc1 := 3) (st1 := [.int a1, .ref 136, .ref 136]) rfl (fun _ => rfl) ?_
        refine pr_callv (N := pm_X10_isRule) (as := [.ref 136, .int a1]) (rest := [.ref 136]) (f := 2045) (l := 83932) (c1 := 0) (k1 := 0) (c2 := 0) (k2 := 0) (v := some (.int 0)) (h1 := ph_14) rfl (fun ex => px_inv_hs ex rfl rfl rfl pg_20 rfl rfl rfl rfl) ?_ (Nat.le_of_ble_eq_true rfl) (Nat.le_of_ble_eq_true rfl) ?_
        · refine px_C_of rfl ?_
          refine pr_s (pc1 := 1) (st1 := [.int a1]) rfl (fun _ => rfl) ?_
          refine pr_s (pc1 := 2) (st1 := [.int 0, .int a1]) rfl (fun _ => rfl) ?_
          refine pr_s (pc1 := 3) (st1 := [.ref 136, .int 0, .int a1]) rfl (fun _ => rfl) ?_
          refine pr_getf (pc1 := 6) (v := .int 0) rfl rfl pg_20 rfl rfl ?_
          refine pr_s (pc1 := 7) (st1 := [.int 1, .int 0, .int 0, .int a1]) rfl (fun _ => rfl) ?_
          refine pr_s (pc1 := 8) (st1 := [.int (-1), .int 0, .int a1]) rfl (fun _ => rfl) ?_
          refine pr_callv (N := pm_X10_is) (as := [.int a1, .int 0, .int (-1)]) (rest := []) (f := 2044) (l := 83910) (c1 := 0) (k1 := 0) (c2 := 0) (k2 := 0) (v := some (.int 0)) (h1 := ph_14) rfl (fun _ => rfl) ?_ (Nat.le_of_ble_eq_true rfl) (Nat.le_of_ble_eq_true rfl) ?_
          · refine px_C_of rfl ?_
            refine pr_s (pc1 := 1) (st1 := [.int a1]) rfl (fun _ => rfl) ?_
            refine pr_s (pc1 := 2) (st1 := [.int 0, .int a1]) rfl (fun _ => rfl) ?_
            refine pr_bt (t := 14) (off := 12) (bb := decide (a1 < 0)) (st1 := []) rfl rfl rfl rfl (pb_ltT ha1.2 (show 0 ≤ (0 : Int32).toInt by decide) (by decide)) ?_
            refine pr_s (pc1 := 15) (st1 := [.int 0]) rfl (fun _ => rfl) ?_
            exact pr_e rfl (fun _ => rfl) ⟨rfl, rfl⟩
          show px_R _ _ _ _ (11, [(0, .ref 136), (1, .int a1)], [.int 0], _) _ _ _
          exact pr_e rfl (fun _ => rfl) ⟨rfl, rfl⟩
        show px_R _ _ _ _ (6, [(0, .ref 136), (1, .int a1), (2, .int a2)], [.int 0, .ref 136], _) _ _ _
        refine pr_bt (t := 28) (off := 22) (bb := decide ((0 : Int32) = 0)) (st1 := [.ref 136]) rfl rfl rfl rfl (by decide) ?_
        refine pr_s (pc1 := 29) (st1 := [.int 1, .ref 136]) rfl (fun _ => rfl) ?_
        refine pr_putf (pc1 := 32) (h1 := ph_15) rfl rfl pg_20 rfl rfl rfl rfl rfl rfl rfl ?_
        refine pr_s (pc1 := 33) (st1 := [.int 0]) rfl (fun _ => rfl) ?_
        refine pr_s (pc1 := 34) (lv1 := [(3, .int 0), (0, .ref 136), (1, .int a1), (2, .int a2)]) (st1 := []) rfl (fun _ => rfl) ?_
        refine pr_s (pc1 := 35) (st1 := [.ref 136]) rfl (fun _ => rfl) ?_
        refine pr_getf (pc1 := 38) (v := .int 1) rfl rfl pg_21 rfl rfl ?_
        refine pr_bt (t := 63) (off := 25) (bb := !decide ((1 : Int32) = 0)) (st1 := []) rfl rfl rfl rfl (px_not_t (by decide)) ?_
        refine pr_s (pc1 := 64) (st1 := [.int 0]) rfl (fun _ => rfl) ?_
        refine pr_s (pc1 := 65) (st1 := [.int a2, .int 0]) rfl (fun _ => rfl) ?_
        refine pr_s (pc1 := 66) (st1 := [.int (0 + a2)]) rfl (fun _ => rfl) ?_
        exact pr_e rfl (fun _ => rfl) ⟨rfl, rfl⟩
      show px_R _ _ _ _ (6, [(0, .ref 136), (1, .int a1), (2, .int a2), (3, .int a3)], [.int (0 + a2)], _) _ _ _
      refine pr_s (pc1 := 8) (lv1 := [(4, .int (0 + a2)), (0, .ref 136), (1, .int a1), (2, .int a2), (3, .int a3)]) (st1 := []) rfl (fun _ => rfl) ?_
      refine pr_s (pc1 := 9) (st1 := [.ref 136]) rfl (fun _ => rfl) ?_
      refine pr_getf (pc1 := 12) (v := .int 1) rfl rfl pg_21 rfl rfl ?_
      refine pr_bf (t := 17) (off := 5) (bb := decide ((1 : Int32) ≤ 0)) (st1 := []) rfl rfl rfl rfl (by decide) ?_
      refine pr_s (pc1 := 16) (st1 := [.int 0]) rfl (fun _ => rfl) ?_
      exact pr_e rfl (fun _ => rfl) ⟨rfl, rfl⟩
    show px_T _ _ _ _ (2185, [(5, .int 1), (4, .int 0), (3, .ref 164), (2, .ref 136), (1, .ref 0), (0, .retAddr 0)], [.int 0], _) _ _ _
    refine pt_s (pc1 := 2187) (lv1 := [(6, .int 0), (5, .int 1), (4, .int 0), (3, .ref 164), (2, .ref 136), (1, .ref 0), (0, .retAddr 0)]) (st1 := []) rfl rfl (fun _ => rfl) ?_
    refine pt_s (pc1 := 2188) (st1 := [.ref 136]) rfl rfl (fun _ => rfl) ?_
    refine pt_callv (N := pm_X10_thrown) (as := [.ref 136]) (rest := []) (f := 2047) (l := 83980) (c1 := 0) (k1 := 0) (c2 := 599836) (k2 := 7274189) (v := some (.int 1)) (h1 := ph_15) rfl rfl (fun ex => px_inv_hs ex rfl rfl rfl pg_21 rfl rfl rfl rfl) ?_ (Nat.le_of_ble_eq_true rfl) (Nat.le_of_ble_eq_true rfl) ?_
    · refine px_C_of rfl ?_
      refine pr_s (pc1 := 1) (st1 := [.ref 136]) rfl (fun _ => rfl) ?_
      refine pr_getf (pc1 := 4) (v := .int 1) rfl rfl pg_21 rfl rfl ?_
      exact pr_e rfl (fun _ => rfl) ⟨rfl, rfl⟩
    show px_T _ _ _ _ (2191, [(6, .int 0), (5, .int 1), (4, .int 0), (3, .ref 164), (2, .ref 136), (1, .ref 0), (0, .retAddr 0)], [.int 1], _) _ _ _
    refine pt_s (pc1 := 2193) (st1 := [.int 1, .int 1]) rfl rfl (fun _ => rfl) ?_
    refine pt_bt (t := 2198) (off := 5) (bb := decide ((1 : Int32) = 1)) (st1 := []) rfl rfl rfl rfl rfl (by decide) ?_
    refine pt_s (pc1 := 2200) (st1 := [.int 1]) rfl rfl (fun _ => rfl) ?_
    refine pt_bt (t := 2215) (off := 15) (bb := !decide ((1 : Int32) = 0)) (st1 := []) rfl rfl rfl rfl rfl (px_not_t (by decide)) ?_
    refine pt_s (pc1 := 2771) (st1 := []) rfl rfl (fun _ => rfl) ?_
    refine pt_s (pc1 := 2774) (lv1 := [(4, .int 6), (6, .int 0), (5, .int 1), (3, .ref 164), (2, .ref 136), (1, .ref 0), (0, .retAddr 0)]) (st1 := []) rfl rfl (fun _ => rfl) ?_
    refine pt_s (pc1 := 23) (st1 := []) rfl rfl (fun _ => rfl) ?_
    refine pt_s (pc1 := 25) (st1 := [.int 6]) rfl rfl (fun _ => rfl) ?_
    refine pt_s (pc1 := 26) (st1 := [.retAddr 0, .int 6]) rfl rfl (fun _ => rfl) ?_
    refine pt_s (pc1 := 27) (st1 := [.int 6, .int 6]) rfl rfl (fun _ => rfl) ?_
    refine pt_s (pc1 := 29) (st1 := [.int 6, .int 6, .int 6]) rfl rfl (fun _ => rfl) ?_
    refine pt_s (pc1 := 30) (st1 := [.int 0, .int 6]) rfl rfl (fun _ => rfl) ?_
    refine pt_bt (t := 2777) (off := 2747) (bb := decide ((0 : Int32) < (6 : Int32))) (st1 := []) rfl rfl rfl rfl rfl (by decide) ?_
    refine pt_s (pc1 := 2778) (st1 := [.int 1]) rfl rfl (fun _ => rfl) ?_
    exact pt_e rfl ⟨rfl, (rfl : px_ins pm_law 2778 = some (.ireturn, 1))⟩
  · have ha1 : 0 ≤ a1.toInt ∧ a1.toInt ≤ 2147483647 := ⟨by omega, ha1.2⟩
    refine pt_s (pc1 := 2138) (st1 := []) rfl rfl (fun _ => rfl) ?_
    refine pt_s (pc1 := 2139) (st1 := [.ref 0]) rfl rfl (fun _ => rfl) ?_
    refine pt_s (pc1 := 2140) (st1 := [.retAddr 0, .ref 0]) rfl rfl (fun _ => rfl) ?_
    refine pt_s (pc1 := 2142) (st1 := [.int 0, .retAddr 0, .ref 0]) rfl rfl (fun _ => rfl) ?_
    refine pt_s (pc1 := 2143) (st1 := [.int 1, .int 0, .retAddr 0, .ref 0]) rfl rfl (fun _ => rfl) ?_
    refine pt_s (pc1 := 2144) (st1 := [.int 1, .retAddr 0, .ref 0]) rfl rfl (fun _ => rfl) ?_
    refine pt_s (pc1 := 2145) (st1 := [.int a1, .ref 0]) rfl rfl (fun _ => rfl) ?_
    refine pt_s (pc1 := 2146) (st1 := [.retAddr 0, .int a1, .ref 0]) rfl rfl (fun _ => rfl) ?_
    refine pt_s (pc1 := 2148) (st1 := [.int 0, .retAddr 0, .int a1, .ref 0]) rfl rfl (fun _ => rfl) ?_
    refine pt_s (pc1 := 2149) (st1 := [.int 2, .int 0, .retAddr 0, .int a1, .ref 0]) rfl rfl (fun _ => rfl) ?_
    refine pt_s (pc1 := 2150) (st1 := [.int 2, .retAddr 0, .int a1, .ref 0]) rfl rfl (fun _ => rfl) ?_
    refine pt_s (pc1 := 2151) (st1 := [.int a2, .int a1, .ref 0]) rfl rfl (fun _ => rfl) ?_
    refine pt_s (pc1 := 2152) (st1 := [.retAddr 0, .int a2, .int a1, .ref 0]) rfl rfl (fun _ => rfl) ?_
    refine pt_s (pc1 := 2154) (st1 := [.int 0, .retAddr 0, .int a2, .int a1, .ref 0]) rfl rfl (fun _ => rfl) ?_
    refine pt_s (pc1 := 2155) (st1 := [.int 3, .int 0, .retAddr 0, .int a2, .int a1, .ref 0]) rfl rfl (fun _ => rfl) ?_
    refine pt_s (pc1 := 2156) (st1 := [.int 3, .retAddr 0, .int a2, .int a1, .ref 0]) rfl rfl (fun _ => rfl) ?_
    refine pt_s (pc1 := 2157) (st1 := [.int a3, .int a2, .int a1, .ref 0]) rfl rfl (fun _ => rfl) ?_
    refine pt_s (pc1 := 2158) (st1 := [.ref 164, .int a3, .int a2, .int a1, .ref 0]) rfl rfl (fun _ => rfl) ?_
    refine pt_callv (N := pm_L_factOf) (as := [.ref 0, .int a1, .int a2, .int a3, .ref 164]) (rest := []) (f := 2047) (l := 83975) (c1 := 1) (k1 := 6) (c2 := 599836) (k2 := 7274189) (v := some (.int 1)) (h1 := ph_14) rfl rfl (fun _ => rfl) ?_ (Nat.le_of_ble_eq_true rfl) (Nat.le_of_ble_eq_true rfl) ?_
    · refine px_C_of rfl ?_
      refine pr_s (pc1 := 2) (st1 := [.ref 164]) rfl (fun _ => rfl) ?_
      refine pr_s (pc1 := 3) (st1 := [.int 0, .ref 164]) rfl (fun _ => rfl) ?_
      refine pr_s (pc1 := 4) (st1 := [.ref 0, .int 0, .ref 164]) rfl (fun _ => rfl) ?_
      refine pr_s (pc1 := 5) (st1 := [.int a1, .ref 0, .int 0, .ref 164]) rfl (fun _ => rfl) ?_
      refine pr_s (pc1 := 6) (st1 := [.int a2, .int a1, .ref 0, .int 0, .ref 164]) rfl (fun _ => rfl) ?_
      refine pr_s (pc1 := 7) (st1 := [.int a3, .int a2, .int a1, .ref 0, .int 0, .ref 164]) rfl (fun _ => rfl) ?_
      refine pr_callx (N := pm_X6_factOf) (as := [.ref 0, .int a1, .int a2, .int a3]) (rest := [.int 0, .ref 164]) (f := 2046) (l := 83951) (c1 := 1) (k1 := 6) (c2 := 0) (k2 := 0) (E := 11) (h1 := ph_14) (a := 15) (y1 := 5) (y2 := 2) rfl (fun ex => px_inv_hs ex rfl rfl rfl pg_0 rfl rfl rfl rfl) ?_ (Nat.le_of_ble_eq_true rfl) (Nat.le_of_ble_eq_true rfl) rfl rfl rfl rfl ?_
      · refine px_C_of rfl ?_
        refine pr_s (pc1 := 1) (st1 := [.ref 0]) rfl (fun _ => rfl) ?_
        refine pr_s (pc1 := 2) (st1 := [.int a1, .ref 0]) rfl (fun _ => rfl) ?_
        refine pr_s (pc1 := 3) (st1 := [.int a2, .int a1, .ref 0]) rfl (fun _ => rfl) ?_
        refine pr_callo (N := pm_X6_needMatch) (as := [.ref 0, .int a1, .int a2]) (rest := []) (f := 2045) (l := 83928) (E := 11) (h1 := ph_14) rfl (fun ex => px_inv_hs ex rfl rfl rfl pg_0 rfl rfl rfl rfl) ?_ rfl ⟨rfl, rfl⟩
        · refine px_C_of rfl ?_
          refine pr_s (pc1 := 1) (st1 := [.ref 0]) rfl (fun _ => rfl) ?_
          refine pr_s (pc1 := 2) (st1 := [.int a1, .ref 0]) rfl (fun _ => rfl) ?_
          refine pr_callo (N := pm_X6_needRule) (as := [.ref 0, .int a1]) (rest := []) (f := 2044) (l := 83907) (E := 11) (h1 := ph_14) rfl (fun ex => px_inv_hs ex rfl rfl rfl pg_0 rfl rfl rfl rfl) ?_ rfl ⟨rfl, rfl⟩
          · refine px_C_of rfl ?_
            refine pr_s (pc1 := 1) (st1 := [.int a1]) rfl (fun _ => rfl) ?_
            refine pr_bf (t := 12) (off := 11) (bb := decide (a1 < 0)) (st1 := []) rfl rfl rfl rfl (pb_ltF ha1.1 (show (0 : Int32).toInt ≤ 0 by decide) (by decide)) ?_
            refine pr_s (pc1 := 5) (st1 := [.int a1]) rfl (fun _ => rfl) ?_
            refine pr_s (pc1 := 6) (st1 := [.ref 0, .int a1]) rfl (fun _ => rfl) ?_
            refine pr_getf (pc1 := 9) (v := .int 0) rfl rfl pg_0 rfl rfl ?_
            refine pr_bf (t := 23) (off := 14) (bb := decide (a1 < 0)) (st1 := []) rfl rfl rfl rfl (pb_ltF ha1.1 (show (0 : Int32).toInt ≤ 0 by decide) (by decide)) ?_
            refine pr_mh (z1 := 1) (z2 := 6) (c1 := 0) (k1 := 0) (pc1 := 22) (n := 165) (r := []) (h1 := ph_14) (es := fun n => [.inr (11, [])]) rfl (fun _ => rfl) pl_0 rfl (Nat.le_of_ble_eq_true rfl) (Nat.le_of_ble_eq_true rfl) ?_
            exact pr_e rfl (fun _ => rfl) ⟨rfl, rfl⟩
      show px_R _ _ _ _ (17, [(0, .ref 0), (1, .int a1), (2, .int a2), (3, .int a3), (4, .ref 164)], [], _) _ _ _
      refine pr_s (pc1 := 18) (st1 := [.int 1]) rfl (fun _ => rfl) ?_
      exact pr_e rfl (fun _ => rfl) ⟨rfl, rfl⟩
    show px_T _ _ _ _ (2161, [(4, .int 0), (3, .ref 164), (2, .ref 136), (1, .ref 0), (0, .retAddr 0)], [.int 1], _) _ _ _
    refine pt_s (pc1 := 2163) (lv1 := [(5, .int 1), (4, .int 0), (3, .ref 164), (2, .ref 136), (1, .ref 0), (0, .retAddr 0)]) (st1 := []) rfl rfl (fun _ => rfl) ?_
    refine pt_s (pc1 := 2164) (st1 := [.ref 136]) rfl rfl (fun _ => rfl) ?_
    refine pt_s (pc1 := 2165) (st1 := [.retAddr 0, .ref 136]) rfl rfl (fun _ => rfl) ?_
    refine pt_s (pc1 := 2167) (st1 := [.int 0, .retAddr 0, .ref 136]) rfl rfl (fun _ => rfl) ?_
    refine pt_s (pc1 := 2168) (st1 := [.int 1, .int 0, .retAddr 0, .ref 136]) rfl rfl (fun _ => rfl) ?_
    refine pt_s (pc1 := 2169) (st1 := [.int 1, .retAddr 0, .ref 136]) rfl rfl (fun _ => rfl) ?_
    refine pt_s (pc1 := 2170) (st1 := [.int a1, .ref 136]) rfl rfl (fun _ => rfl) ?_
    refine pt_s (pc1 := 2171) (st1 := [.retAddr 0, .int a1, .ref 136]) rfl rfl (fun _ => rfl) ?_
    refine pt_s (pc1 := 2173) (st1 := [.int 0, .retAddr 0, .int a1, .ref 136]) rfl rfl (fun _ => rfl) ?_
    refine pt_s (pc1 := 2174) (st1 := [.int 2, .int 0, .retAddr 0, .int a1, .ref 136]) rfl rfl (fun _ => rfl) ?_
    refine pt_s (pc1 := 2175) (st1 := [.int 2, .retAddr 0, .int a1, .ref 136]) rfl rfl (fun _ => rfl) ?_
    refine pt_s (pc1 := 2176) (st1 := [.int a2, .int a1, .ref 136]) rfl rfl (fun _ => rfl) ?_
    refine pt_s (pc1 := 2177) (st1 := [.retAddr 0, .int a2, .int a1, .ref 136]) rfl rfl (fun _ => rfl) ?_
    refine pt_s (pc1 := 2179) (st1 := [.int 0, .retAddr 0, .int a2, .int a1, .ref 136]) rfl rfl (fun _ => rfl) ?_
    refine pt_s (pc1 := 2180) (st1 := [.int 3, .int 0, .retAddr 0, .int a2, .int a1, .ref 136]) rfl rfl (fun _ => rfl) ?_
    refine pt_s (pc1 := 2181) (st1 := [.int 3, .retAddr 0, .int a2, .int a1, .ref 136]) rfl rfl (fun _ => rfl) ?_
    refine pt_s (pc1 := 2182) (st1 := [.int a3, .int a2, .int a1, .ref 136]) rfl rfl (fun _ => rfl) ?_
    refine pt_callv (N := pm_X10_factOf) (as := [.ref 136, .int a1, .int a2, .int a3]) (rest := []) (f := 2047) (l := 83976) (c1 := 0) (k1 := 0) (c2 := 599836) (k2 := 7274189) (v := some (.int 0)) (h1 := ph_15) rfl rfl (fun ex => px_inv_hs ex rfl rfl rfl pg_20 rfl rfl rfl rfl) ?_ (Nat.le_of_ble_eq_true rfl) (Nat.le_of_ble_eq_true rfl) ?_
    · refine px_C_of rfl ?_
      refine pr_s (pc1 := 1) (st1 := [.ref 136]) rfl (fun _ => rfl) ?_
      refine pr_s (pc1 := 2) (st1 := [.int a1, .ref 136]) rfl (fun _ => rfl) ?_
      refine pr_s (pc1 := 3) (st1 := [.int a2, .int a1, .ref 136]) rfl (fun _ => rfl) ?_
      refine pr_callv (N := pm_X10_matchOf) (as := [.ref 136, .int a1, .int a2]) (rest := []) (f := 2046) (l := 83953) (c1 := 0) (k1 := 0) (c2 := 0) (k2 := 0) (v := some (.int (0 + a2))) (h1 := ph_15) rfl (fun ex => px_inv_hs ex rfl rfl rfl pg_20 rfl rfl rfl rfl) ?_ (Nat.le_of_ble_eq_true rfl) (Nat.le_of_ble_eq_true rfl) ?_
      · refine px_C_of rfl ?_
        refine pr_s (pc1 := 1) (st1 := [.ref 136]) rfl (fun _ => rfl) ?_
        refine pr_s (pc1 := 2) (st1 := [.ref 136, .ref 136]) rfl (fun _ => rfl) ?_
        refine pr_s (pc1 := 3) (st1 := [.int a1, .ref 136, .ref 136]) rfl (fun _ => rfl) ?_
        refine pr_callv (N := pm_X10_isRule) (as := [.ref 136, .int a1]) (rest := [.ref 136]) (f := 2045) (l := 83932) (c1 := 0) (k1 := 0) (c2 := 0) (k2 := 0) (v := some (.int 0)) (h1 := ph_14) rfl (fun ex => px_inv_hs ex rfl rfl rfl pg_20 rfl rfl rfl rfl) ?_ (Nat.le_of_ble_eq_true rfl) (Nat.le_of_ble_eq_true rfl) ?_
        · refine px_C_of rfl ?_
          refine pr_s (pc1 := 1) (st1 := [.int a1]) rfl (fun _ => rfl) ?_
          refine pr_s (pc1 := 2) (st1 := [.int 0, .int a1]) rfl (fun _ => rfl) ?_
          refine pr_s (pc1 := 3) (st1 := [.ref 136, .int 0, .int a1]) rfl (fun _ => rfl) ?_
          refine pr_getf (pc1 := 6) (v := .int 0) rfl rfl pg_20 rfl rfl ?_
          refine pr_s (pc1 := 7) (st1 := [.int 1, .int 0, .int 0, .int a1]) rfl (fun _ => rfl) ?_
          refine pr_s (pc1 := 8) (st1 := [.int (-1), .int 0, .int a1]) rfl (fun _ => rfl) ?_
          refine pr_callv (N := pm_X10_is) (as := [.int a1, .int 0, .int (-1)]) (rest := []) (f := 2044) (l := 83910) (c1 := 0) (k1 := 0) (c2 := 0) (k2 := 0) (v := some (.int 0)) (h1 := ph_14) rfl (fun _ => rfl) ?_ (Nat.le_of_ble_eq_true rfl) (Nat.le_of_ble_eq_true rfl) ?_
          · refine px_C_of rfl ?_
            refine pr_s (pc1 := 1) (st1 := [.int a1]) rfl (fun _ => rfl) ?_
            refine pr_s (pc1 := 2) (st1 := [.int 0, .int a1]) rfl (fun _ => rfl) ?_
            refine pr_bf (t := 14) (off := 12) (bb := decide (a1 < 0)) (st1 := []) rfl rfl rfl rfl (pb_ltF ha1.1 (show (0 : Int32).toInt ≤ 0 by decide) (by decide)) ?_
            refine pr_s (pc1 := 6) (st1 := [.int a1]) rfl (fun _ => rfl) ?_
            refine pr_s (pc1 := 7) (st1 := [.int (-1), .int a1]) rfl (fun _ => rfl) ?_
            refine pr_bt (t := 14) (off := 7) (bb := decide (((-1) : Int32) < a1)) (st1 := []) rfl rfl rfl rfl (pb_ltT (show ((-1) : Int32).toInt ≤ (-1) by decide) ha1.1 (by decide)) ?_
            refine pr_s (pc1 := 15) (st1 := [.int 0]) rfl (fun _ => rfl) ?_
            exact pr_e rfl (fun _ => rfl) ⟨rfl, rfl⟩
          show px_R _ _ _ _ (11, [(0, .ref 136), (1, .int a1)], [.int 0], _) _ _ _
          exact pr_e rfl (fun _ => rfl) ⟨rfl, rfl⟩
        show px_R _ _ _ _ (6, [(0, .ref 136), (1, .int a1), (2, .int a2)], [.int 0, .ref 136], _) _ _ _
        refine pr_bt (t := 28) (off := 22) (bb := decide ((0 : Int32) = 0)) (st1 := [.ref 136]) rfl rfl rfl rfl (by decide) ?_
        refine pr_s (pc1 := 29) (st1 := [.int 1, .ref 136]) rfl (fun _ => rfl) ?_
        refine pr_putf (pc1 := 32) (h1 := ph_15) rfl rfl pg_20 rfl rfl rfl rfl rfl rfl rfl ?_
        refine pr_s (pc1 := 33) (st1 := [.int 0]) rfl (fun _ => rfl) ?_
        refine pr_s (pc1 := 34) (lv1 := [(3, .int 0), (0, .ref 136), (1, .int a1), (2, .int a2)]) (st1 := []) rfl (fun _ => rfl) ?_
        refine pr_s (pc1 := 35) (st1 := [.ref 136]) rfl (fun _ => rfl) ?_
        refine pr_getf (pc1 := 38) (v := .int 1) rfl rfl pg_21 rfl rfl ?_
        refine pr_bt (t := 63) (off := 25) (bb := !decide ((1 : Int32) = 0)) (st1 := []) rfl rfl rfl rfl (px_not_t (by decide)) ?_
        refine pr_s (pc1 := 64) (st1 := [.int 0]) rfl (fun _ => rfl) ?_
        refine pr_s (pc1 := 65) (st1 := [.int a2, .int 0]) rfl (fun _ => rfl) ?_
        refine pr_s (pc1 := 66) (st1 := [.int (0 + a2)]) rfl (fun _ => rfl) ?_
        exact pr_e rfl (fun _ => rfl) ⟨rfl, rfl⟩
      show px_R _ _ _ _ (6, [(0, .ref 136), (1, .int a1), (2, .int a2), (3, .int a3)], [.int (0 + a2)], _) _ _ _
      refine pr_s (pc1 := 8) (lv1 := [(4, .int (0 + a2)), (0, .ref 136), (1, .int a1), (2, .int a2), (3, .int a3)]) (st1 := []) rfl (fun _ => rfl) ?_
      refine pr_s (pc1 := 9) (st1 := [.ref 136]) rfl (fun _ => rfl) ?_
      refine pr_getf (pc1 := 12) (v := .int 1) rfl rfl pg_21 rfl rfl ?_
      refine pr_bf (t := 17) (off := 5) (bb := decide ((1 : Int32) ≤ 0)) (st1 := []) rfl rfl rfl rfl (by decide) ?_
      refine pr_s (pc1 := 16) (st1 := [.int 0]) rfl (fun _ => rfl) ?_
      exact pr_e rfl (fun _ => rfl) ⟨rfl, rfl⟩
    show px_T _ _ _ _ (2185, [(5, .int 1), (4, .int 0), (3, .ref 164), (2, .ref 136), (1, .ref 0), (0, .retAddr 0)], [.int 0], _) _ _ _
    refine pt_s (pc1 := 2187) (lv1 := [(6, .int 0), (5, .int 1), (4, .int 0), (3, .ref 164), (2, .ref 136), (1, .ref 0), (0, .retAddr 0)]) (st1 := []) rfl rfl (fun _ => rfl) ?_
    refine pt_s (pc1 := 2188) (st1 := [.ref 136]) rfl rfl (fun _ => rfl) ?_
    refine pt_callv (N := pm_X10_thrown) (as := [.ref 136]) (rest := []) (f := 2047) (l := 83980) (c1 := 0) (k1 := 0) (c2 := 599836) (k2 := 7274189) (v := some (.int 1)) (h1 := ph_15) rfl rfl (fun ex => px_inv_hs ex rfl rfl rfl pg_21 rfl rfl rfl rfl) ?_ (Nat.le_of_ble_eq_true rfl) (Nat.le_of_ble_eq_true rfl) ?_
    · refine px_C_of rfl ?_
      refine pr_s (pc1 := 1) (st1 := [.ref 136]) rfl (fun _ => rfl) ?_
      refine pr_getf (pc1 := 4) (v := .int 1) rfl rfl pg_21 rfl rfl ?_
      exact pr_e rfl (fun _ => rfl) ⟨rfl, rfl⟩
    show px_T _ _ _ _ (2191, [(6, .int 0), (5, .int 1), (4, .int 0), (3, .ref 164), (2, .ref 136), (1, .ref 0), (0, .retAddr 0)], [.int 1], _) _ _ _
    refine pt_s (pc1 := 2193) (st1 := [.int 1, .int 1]) rfl rfl (fun _ => rfl) ?_
    refine pt_bt (t := 2198) (off := 5) (bb := decide ((1 : Int32) = 1)) (st1 := []) rfl rfl rfl rfl rfl (by decide) ?_
    refine pt_s (pc1 := 2200) (st1 := [.int 1]) rfl rfl (fun _ => rfl) ?_
    refine pt_bt (t := 2215) (off := 15) (bb := !decide ((1 : Int32) = 0)) (st1 := []) rfl rfl rfl rfl rfl (px_not_t (by decide)) ?_
    refine pt_s (pc1 := 2771) (st1 := []) rfl rfl (fun _ => rfl) ?_
    refine pt_s (pc1 := 2774) (lv1 := [(4, .int 6), (6, .int 0), (5, .int 1), (3, .ref 164), (2, .ref 136), (1, .ref 0), (0, .retAddr 0)]) (st1 := []) rfl rfl (fun _ => rfl) ?_
    refine pt_s (pc1 := 23) (st1 := []) rfl rfl (fun _ => rfl) ?_
    refine pt_s (pc1 := 25) (st1 := [.int 6]) rfl rfl (fun _ => rfl) ?_
    refine pt_s (pc1 := 26) (st1 := [.retAddr 0, .int 6]) rfl rfl (fun _ => rfl) ?_
    refine pt_s (pc1 := 27) (st1 := [.int 6, .int 6]) rfl rfl (fun _ => rfl) ?_
    refine pt_s (pc1 := 29) (st1 := [.int 6, .int 6, .int 6]) rfl rfl (fun _ => rfl) ?_
    refine pt_s (pc1 := 30) (st1 := [.int 0, .int 6]) rfl rfl (fun _ => rfl) ?_
    refine pt_bt (t := 2777) (off := 2747) (bb := decide ((0 : Int32) < (6 : Int32))) (st1 := []) rfl rfl rfl rfl rfl (by decide) ?_
    refine pt_s (pc1 := 2778) (st1 := [.int 1]) rfl rfl (fun _ => rfl) ?_
    exact pt_e rfl ⟨rfl, (rfl : px_ins pm_law 2778 = some (.ireturn, 1))⟩
set_option maxRecDepth 100000 in
set_option maxHeartbeats 40000000 in
theorem px_op_33 (a0 a1 a2 a3 a4 a5 : Int32) : px_T (some [a0, a1, a2, a3, a4, a5]) pm_law 2048 84000 (40, [(4, .int 0), (3, .ref 164), (2, .ref 136), (1, .ref 0), (0, .retAddr 0)], [.int 33], px_hs) 599837 7274195 (fun s1 => s1.2.2.1 = [.int 1] ∧ px_ins pm_law s1.1 = some (.ireturn, 1)) := by
  have ha1 : (-2147483648) ≤ a1.toInt ∧ a1.toInt ≤ 2147483647 := ⟨Int32.le_toInt a1, Int32.toInt_le a1⟩
  by_cases hs : a1.toInt < 0
  · have ha1 : (-2147483648) ≤ a1.toInt ∧ a1.toInt ≤ (-1) := ⟨ha1.1, by omega⟩
    refine pt_s (pc1 := 2218) (st1 := []) rfl rfl (fun _ => rfl) ?_
    refine pt_s (pc1 := 2219) (st1 := [.ref 0]) rfl rfl (fun _ => rfl) ?_
    refine pt_s (pc1 := 2220) (st1 := [.retAddr 0, .ref 0]) rfl rfl (fun _ => rfl) ?_
    refine pt_s (pc1 := 2222) (st1 := [.int 0, .retAddr 0, .ref 0]) rfl rfl (fun _ => rfl) ?_
    refine pt_s (pc1 := 2223) (st1 := [.int 1, .int 0, .retAddr 0, .ref 0]) rfl rfl (fun _ => rfl) ?_
    refine pt_s (pc1 := 2224) (st1 := [.int 1, .retAddr 0, .ref 0]) rfl rfl (fun _ => rfl) ?_
    refine pt_s (pc1 := 2225) (st1 := [.int a1, .ref 0]) rfl rfl (fun _ => rfl) ?_
    refine pt_s (pc1 := 2226) (st1 := [.retAddr 0, .int a1, .ref 0]) rfl rfl (fun _ => rfl) ?_
    refine pt_s (pc1 := 2228) (st1 := [.int 0, .retAddr 0, .int a1, .ref 0]) rfl rfl (fun _ => rfl) ?_
    refine pt_s (pc1 := 2229) (st1 := [.int 2, .int 0, .retAddr 0, .int a1, .ref 0]) rfl rfl (fun _ => rfl) ?_
    refine pt_s (pc1 := 2230) (st1 := [.int 2, .retAddr 0, .int a1, .ref 0]) rfl rfl (fun _ => rfl) ?_
    refine pt_s (pc1 := 2231) (st1 := [.int a2, .int a1, .ref 0]) rfl rfl (fun _ => rfl) ?_
    refine pt_s (pc1 := 2232) (st1 := [.ref 164, .int a2, .int a1, .ref 0]) rfl rfl (fun _ => rfl) ?_
    refine pt_callv (N := pm_L_hasFired) (as := [.ref 0, .int a1, .int a2, .ref 164]) (rest := []) (f := 2047) (l := 83976) (c1 := 1) (k1 := 6) (c2 := 599836) (k2 := 7274189) (v := some (.int 1)) (h1 := ph_14) rfl rfl (fun _ => rfl) ?_ (Nat.le_of_ble_eq_true rfl) (Nat.le_of_ble_eq_true rfl) ?_
    · refine px_C_of rfl ?_
      refine pr_s (pc1 := 1) (st1 := [.ref 164]) rfl (fun _ => rfl) ?_
      refine pr_s (pc1 := 2) (st1 := [.int 0, .ref 164]) rfl (fun _ => rfl) ?_
      refine pr_s (pc1 := 3) (st1 := [.ref 0, .int 0, .ref 164]) rfl (fun _ => rfl) ?_
      refine pr_s (pc1 := 4) (st1 := [.int a1, .ref 0, .int 0, .ref 164]) rfl (fun _ => rfl) ?_
      refine pr_s (pc1 := 5) (st1 := [.int a2, .int a1, .ref 0, .int 0, .ref 164]) rfl (fun _ => rfl) ?_
      refine pr_callx (N := pm_X6_hasFired) (as := [.ref 0, .int a1, .int a2]) (rest := [.int 0, .ref 164]) (f := 2046) (l := 83954) (c1 := 1) (k1 := 6) (c2 := 0) (k2 := 0) (E := 11) (h1 := ph_14) (a := 20) (y1 := 4) (y2 := 2) rfl (fun ex => px_inv_hs ex rfl rfl rfl pg_0 rfl rfl rfl rfl) ?_ (Nat.le_of_ble_eq_true rfl) (Nat.le_of_ble_eq_true rfl) rfl rfl rfl rfl ?_
      · refine px_C_of rfl ?_
        refine pr_s (pc1 := 1) (st1 := [.ref 0]) rfl (fun _ => rfl) ?_
        refine pr_getf (pc1 := 4) (v := .ref 92) rfl rfl pg_0 rfl rfl ?_
        refine pr_getf (pc1 := 7) (v := .ref 99) rfl rfl pg_22 rfl rfl ?_
        refine pr_s (pc1 := 8) (st1 := [.ref 0, .ref 99]) rfl (fun _ => rfl) ?_
        refine pr_s (pc1 := 9) (st1 := [.int a1, .ref 0, .ref 99]) rfl (fun _ => rfl) ?_
        refine pr_s (pc1 := 10) (st1 := [.int a2, .int a1, .ref 0, .ref 99]) rfl (fun _ => rfl) ?_
        refine pr_callo (N := pm_X6_needMatch) (as := [.ref 0, .int a1, .int a2]) (rest := [.ref 99]) (f := 2045) (l := 83931) (E := 11) (h1 := ph_14) rfl (fun ex => px_inv_hs ex rfl rfl rfl pg_0 rfl rfl rfl rfl) ?_ rfl ⟨rfl, rfl⟩
        · refine px_C_of rfl ?_
          refine pr_s (pc1 := 1) (st1 := [.ref 0]) rfl (fun _ => rfl) ?_
          refine pr_s (pc1 := 2) (st1 := [.int a1, .ref 0]) rfl (fun _ => rfl) ?_
          refine pr_callo (N := pm_X6_needRule) (as := [.ref 0, .int a1]) (rest := []) (f := 2044) (l := 83910) (E := 11) (h1 := ph_14) rfl (fun ex => px_inv_hs ex rfl rfl rfl pg_0 rfl rfl rfl rfl) ?_ rfl ⟨rfl, rfl⟩
          · refine px_C_of rfl ?_
            refine pr_s (pc1 := 1) (st1 := [.int a1]) rfl (fun _ => rfl) ?_
            refine pr_bt (t := 12) (off := 11) (bb := decide (a1 < 0)) (st1 := []) rfl rfl rfl rfl (pb_ltT ha1.2 (show 0 ≤ (0 : Int32).toInt by decide) (by decide)) ?_
            refine pr_mh (z1 := 1) (z2 := 6) (c1 := 0) (k1 := 0) (pc1 := 22) (n := 165) (r := []) (h1 := ph_14) (es := fun n => [.inr (11, [])]) rfl (fun _ => rfl) pl_0 rfl (Nat.le_of_ble_eq_true rfl) (Nat.le_of_ble_eq_true rfl) ?_
            exact pr_e rfl (fun _ => rfl) ⟨rfl, rfl⟩
      show px_R _ _ _ _ (22, [(0, .ref 0), (1, .int a1), (2, .int a2), (3, .ref 164)], [], _) _ _ _
      refine pr_s (pc1 := 23) (st1 := [.int 1]) rfl (fun _ => rfl) ?_
      exact pr_e rfl (fun _ => rfl) ⟨rfl, rfl⟩
    show px_T _ _ _ _ (2235, [(4, .int 0), (3, .ref 164), (2, .ref 136), (1, .ref 0), (0, .retAddr 0)], [.int 1], _) _ _ _
    refine pt_s (pc1 := 2237) (lv1 := [(5, .int 1), (4, .int 0), (3, .ref 164), (2, .ref 136), (1, .ref 0), (0, .retAddr 0)]) (st1 := []) rfl rfl (fun _ => rfl) ?_
    refine pt_s (pc1 := 2238) (st1 := [.ref 136]) rfl rfl (fun _ => rfl) ?_
    refine pt_s (pc1 := 2239) (st1 := [.retAddr 0, .ref 136]) rfl rfl (fun _ => rfl) ?_
    refine pt_s (pc1 := 2241) (st1 := [.int 0, .retAddr 0, .ref 136]) rfl rfl (fun _ => rfl) ?_
    refine pt_s (pc1 := 2242) (st1 := [.int 1, .int 0, .retAddr 0, .ref 136]) rfl rfl (fun _ => rfl) ?_
    refine pt_s (pc1 := 2243) (st1 := [.int 1, .retAddr 0, .ref 136]) rfl rfl (fun _ => rfl) ?_
    refine pt_s (pc1 := 2244) (st1 := [.int a1, .ref 136]) rfl rfl (fun _ => rfl) ?_
    refine pt_s (pc1 := 2245) (st1 := [.retAddr 0, .int a1, .ref 136]) rfl rfl (fun _ => rfl) ?_
    refine pt_s (pc1 := 2247) (st1 := [.int 0, .retAddr 0, .int a1, .ref 136]) rfl rfl (fun _ => rfl) ?_
    refine pt_s (pc1 := 2248) (st1 := [.int 2, .int 0, .retAddr 0, .int a1, .ref 136]) rfl rfl (fun _ => rfl) ?_
    refine pt_s (pc1 := 2249) (st1 := [.int 2, .retAddr 0, .int a1, .ref 136]) rfl rfl (fun _ => rfl) ?_
    refine pt_s (pc1 := 2250) (st1 := [.int a2, .int a1, .ref 136]) rfl rfl (fun _ => rfl) ?_
    refine pt_callv (N := pm_X10_hasFired) (as := [.ref 136, .int a1, .int a2]) (rest := []) (f := 2047) (l := 83977) (c1 := 0) (k1 := 0) (c2 := 599836) (k2 := 7274189) (v := some (.int 0)) (h1 := ph_15) rfl rfl (fun ex => px_inv_hs ex rfl rfl rfl pg_20 rfl rfl rfl rfl) ?_ (Nat.le_of_ble_eq_true rfl) (Nat.le_of_ble_eq_true rfl) ?_
    · refine px_C_of rfl ?_
      refine pr_s (pc1 := 1) (st1 := [.ref 136]) rfl (fun _ => rfl) ?_
      refine pr_s (pc1 := 2) (st1 := [.int a1, .ref 136]) rfl (fun _ => rfl) ?_
      refine pr_s (pc1 := 3) (st1 := [.int a2, .int a1, .ref 136]) rfl (fun _ => rfl) ?_
      refine pr_callv (N := pm_X10_matchOf) (as := [.ref 136, .int a1, .int a2]) (rest := []) (f := 2046) (l := 83954) (c1 := 0) (k1 := 0) (c2 := 0) (k2 := 0) (v := some (.int (0 + a2))) (h1 := ph_15) rfl (fun ex => px_inv_hs ex rfl rfl rfl pg_20 rfl rfl rfl rfl) ?_ (Nat.le_of_ble_eq_true rfl) (Nat.le_of_ble_eq_true rfl) ?_
      · refine px_C_of rfl ?_
        refine pr_s (pc1 := 1) (st1 := [.ref 136]) rfl (fun _ => rfl) ?_
        refine pr_s (pc1 := 2) (st1 := [.ref 136, .ref 136]) rfl (fun _ => rfl) ?_
        refine pr_s (pc1 := 3) (st1 := [.int a1, .ref 136, .ref 136]) rfl (fun _ => rfl) ?_
        refine pr_callv (N := pm_X10_isRule) (as := [.ref 136, .int a1]) (rest := [.ref 136]) (f := 2045) (l := 83933) (c1 := 0) (k1 := 0) (c2 := 0) (k2 := 0) (v := some (.int 0)) (h1 := ph_14) rfl (fun ex => px_inv_hs ex rfl rfl rfl pg_20 rfl rfl rfl rfl) ?_ (Nat.le_of_ble_eq_true rfl) (Nat.le_of_ble_eq_true rfl) ?_
        · refine px_C_of rfl ?_
          refine pr_s (pc1 := 1) (st1 := [.int a1]) rfl (fun _ => rfl) ?_
          refine pr_s (pc1 := 2) (st1 := [.int 0, .int a1]) rfl (fun _ => rfl) ?_
          refine pr_s (pc1 := 3) (st1 := [.ref 136, .int 0, .int a1]) rfl (fun _ => rfl) ?_
          refine pr_getf (pc1 := 6) (v := .int 0) rfl rfl pg_20 rfl rfl ?_
          refine pr_s (pc1 := 7) (st1 := [.int 1, .int 0, .int 0, .int a1]) rfl (fun _ => rfl) ?_
          refine pr_s (pc1 := 8) (st1 := [.int (-1), .int 0, .int a1]) rfl (fun _ => rfl) ?_
          refine pr_callv (N := pm_X10_is) (as := [.int a1, .int 0, .int (-1)]) (rest := []) (f := 2044) (l := 83911) (c1 := 0) (k1 := 0) (c2 := 0) (k2 := 0) (v := some (.int 0)) (h1 := ph_14) rfl (fun _ => rfl) ?_ (Nat.le_of_ble_eq_true rfl) (Nat.le_of_ble_eq_true rfl) ?_
          · refine px_C_of rfl ?_
            refine pr_s (pc1 := 1) (st1 := [.int a1]) rfl (fun _ => rfl) ?_
            refine pr_s (pc1 := 2) (st1 := [.int 0, .int a1]) rfl (fun _ => rfl) ?_
            refine pr_bt (t := 14) (off := 12) (bb := decide (a1 < 0)) (st1 := []) rfl rfl rfl rfl (pb_ltT ha1.2 (show 0 ≤ (0 : Int32).toInt by decide) (by decide)) ?_
            refine pr_s (pc1 := 15) (st1 := [.int 0]) rfl (fun _ => rfl) ?_
            exact pr_e rfl (fun _ => rfl) ⟨rfl, rfl⟩
          show px_R _ _ _ _ (11, [(0, .ref 136), (1, .int a1)], [.int 0], _) _ _ _
          exact pr_e rfl (fun _ => rfl) ⟨rfl, rfl⟩
        show px_R _ _ _ _ (6, [(0, .ref 136), (1, .int a1), (2, .int a2)], [.int 0, .ref 136], _) _ _ _
        refine pr_bt (t := 28) (off := 22) (bb := decide ((0 : Int32) = 0)) (st1 := [.ref 136]) rfl rfl rfl rfl (by decide) ?_
        refine pr_s (pc1 := 29) (st1 := [.int 1, .ref 136]) rfl (fun _ => rfl) ?_
        refine pr_putf (pc1 := 32) (h1 := ph_15) rfl rfl pg_20 rfl rfl rfl rfl rfl rfl rfl ?_
        refine pr_s (pc1 := 33) (st1 := [.int 0]) rfl (fun _ => rfl) ?_
        refine pr_s (pc1 := 34) (lv1 := [(3, .int 0), (0, .ref 136), (1, .int a1), (2, .int a2)]) (st1 := []) rfl (fun _ => rfl) ?_
        refine pr_s (pc1 := 35) (st1 := [.ref 136]) rfl (fun _ => rfl) ?_
        refine pr_getf (pc1 := 38) (v := .int 1) rfl rfl pg_21 rfl rfl ?_
        refine pr_bt (t := 63) (off := 25) (bb := !decide ((1 : Int32) = 0)) (st1 := []) rfl rfl rfl rfl (px_not_t (by decide)) ?_
        refine pr_s (pc1 := 64) (st1 := [.int 0]) rfl (fun _ => rfl) ?_
        refine pr_s (pc1 := 65) (st1 := [.int a2, .int 0]) rfl (fun _ => rfl) ?_
        refine pr_s (pc1 := 66) (st1 := [.int (0 + a2)]) rfl (fun _ => rfl) ?_
        exact pr_e rfl (fun _ => rfl) ⟨rfl, rfl⟩
      show px_R _ _ _ _ (6, [(0, .ref 136), (1, .int a1), (2, .int a2)], [.int (0 + a2)], _) _ _ _
      refine pr_s (pc1 := 7) (lv1 := [(3, .int (0 + a2)), (0, .ref 136), (1, .int a1), (2, .int a2)]) (st1 := []) rfl (fun _ => rfl) ?_
      refine pr_s (pc1 := 8) (st1 := [.ref 136]) rfl (fun _ => rfl) ?_
      refine pr_getf (pc1 := 11) (v := .int 1) rfl rfl pg_21 rfl rfl ?_
      refine pr_bt (t := 34) (off := 23) (bb := !decide ((1 : Int32) = 0)) (st1 := []) rfl rfl rfl rfl (px_not_t (by decide)) ?_
      refine pr_s (pc1 := 35) (st1 := [.int 0]) rfl (fun _ => rfl) ?_
      exact pr_e rfl (fun _ => rfl) ⟨rfl, rfl⟩
    show px_T _ _ _ _ (2253, [(5, .int 1), (4, .int 0), (3, .ref 164), (2, .ref 136), (1, .ref 0), (0, .retAddr 0)], [.int 0], _) _ _ _
    refine pt_s (pc1 := 2255) (lv1 := [(6, .int 0), (5, .int 1), (4, .int 0), (3, .ref 164), (2, .ref 136), (1, .ref 0), (0, .retAddr 0)]) (st1 := []) rfl rfl (fun _ => rfl) ?_
    refine pt_s (pc1 := 2256) (st1 := [.ref 136]) rfl rfl (fun _ => rfl) ?_
    refine pt_callv (N := pm_X10_thrown) (as := [.ref 136]) (rest := []) (f := 2047) (l := 83980) (c1 := 0) (k1 := 0) (c2 := 599836) (k2 := 7274189) (v := some (.int 1)) (h1 := ph_15) rfl rfl (fun ex => px_inv_hs ex rfl rfl rfl pg_21 rfl rfl rfl rfl) ?_ (Nat.le_of_ble_eq_true rfl) (Nat.le_of_ble_eq_true rfl) ?_
    · refine px_C_of rfl ?_
      refine pr_s (pc1 := 1) (st1 := [.ref 136]) rfl (fun _ => rfl) ?_
      refine pr_getf (pc1 := 4) (v := .int 1) rfl rfl pg_21 rfl rfl ?_
      exact pr_e rfl (fun _ => rfl) ⟨rfl, rfl⟩
    show px_T _ _ _ _ (2259, [(6, .int 0), (5, .int 1), (4, .int 0), (3, .ref 164), (2, .ref 136), (1, .ref 0), (0, .retAddr 0)], [.int 1], _) _ _ _
    refine pt_s (pc1 := 2261) (st1 := [.int 1, .int 1]) rfl rfl (fun _ => rfl) ?_
    refine pt_bt (t := 2266) (off := 5) (bb := decide ((1 : Int32) = 1)) (st1 := []) rfl rfl rfl rfl rfl (by decide) ?_
    refine pt_s (pc1 := 2268) (st1 := [.int 1]) rfl rfl (fun _ => rfl) ?_
    refine pt_bt (t := 2290) (off := 22) (bb := !decide ((1 : Int32) = 0)) (st1 := []) rfl rfl rfl rfl rfl (px_not_t (by decide)) ?_
    refine pt_s (pc1 := 2771) (st1 := []) rfl rfl (fun _ => rfl) ?_
    refine pt_s (pc1 := 2774) (lv1 := [(4, .int 6), (6, .int 0), (5, .int 1), (3, .ref 164), (2, .ref 136), (1, .ref 0), (0, .retAddr 0)]) (st1 := []) rfl rfl (fun _ => rfl) ?_
    refine pt_s (pc1 := 23) (st1 := []) rfl rfl (fun _ => rfl) ?_
    refine pt_s (pc1 := 25) (st1 := [.int 6]) rfl rfl (fun _ => rfl) ?_
    refine pt_s (pc1 := 26) (st1 := [.retAddr 0, .int 6]) rfl rfl (fun _ => rfl) ?_
    refine pt_s (pc1 := 27) (st1 := [.int 6, .int 6]) rfl rfl (fun _ => rfl) ?_
    refine pt_s (pc1 := 29) (st1 := [.int 6, .int 6, .int 6]) rfl rfl (fun _ => rfl) ?_
    refine pt_s (pc1 := 30) (st1 := [.int 0, .int 6]) rfl rfl (fun _ => rfl) ?_
    refine pt_bt (t := 2777) (off := 2747) (bb := decide ((0 : Int32) < (6 : Int32))) (st1 := []) rfl rfl rfl rfl rfl (by decide) ?_
    refine pt_s (pc1 := 2778) (st1 := [.int 1]) rfl rfl (fun _ => rfl) ?_
    exact pt_e rfl ⟨rfl, (rfl : px_ins pm_law 2778 = some (.ireturn, 1))⟩
  · have ha1 : 0 ≤ a1.toInt ∧ a1.toInt ≤ 2147483647 := ⟨by omega, ha1.2⟩
    refine pt_s (pc1 := 2218) (st1 := []) rfl rfl (fun _ => rfl) ?_
    refine pt_s (pc1 := 2219) (st1 := [.ref 0]) rfl rfl (fun _ => rfl) ?_
    refine pt_s (pc1 := 2220) (st1 := [.retAddr 0, .ref 0]) rfl rfl (fun _ => rfl) ?_
    refine pt_s (pc1 := 2222) (st1 := [.int 0, .retAddr 0, .ref 0]) rfl rfl (fun _ => rfl) ?_
    refine pt_s (pc1 := 2223) (st1 := [.int 1, .int 0, .retAddr 0, .ref 0]) rfl rfl (fun _ => rfl) ?_
    refine pt_s (pc1 := 2224) (st1 := [.int 1, .retAddr 0, .ref 0]) rfl rfl (fun _ => rfl) ?_
    refine pt_s (pc1 := 2225) (st1 := [.int a1, .ref 0]) rfl rfl (fun _ => rfl) ?_
    refine pt_s (pc1 := 2226) (st1 := [.retAddr 0, .int a1, .ref 0]) rfl rfl (fun _ => rfl) ?_
    refine pt_s (pc1 := 2228) (st1 := [.int 0, .retAddr 0, .int a1, .ref 0]) rfl rfl (fun _ => rfl) ?_
    refine pt_s (pc1 := 2229) (st1 := [.int 2, .int 0, .retAddr 0, .int a1, .ref 0]) rfl rfl (fun _ => rfl) ?_
    refine pt_s (pc1 := 2230) (st1 := [.int 2, .retAddr 0, .int a1, .ref 0]) rfl rfl (fun _ => rfl) ?_
    refine pt_s (pc1 := 2231) (st1 := [.int a2, .int a1, .ref 0]) rfl rfl (fun _ => rfl) ?_
    refine pt_s (pc1 := 2232) (st1 := [.ref 164, .int a2, .int a1, .ref 0]) rfl rfl (fun _ => rfl) ?_
    refine pt_callv (N := pm_L_hasFired) (as := [.ref 0, .int a1, .int a2, .ref 164]) (rest := []) (f := 2047) (l := 83976) (c1 := 1) (k1 := 6) (c2 := 599836) (k2 := 7274189) (v := some (.int 1)) (h1 := ph_14) rfl rfl (fun _ => rfl) ?_ (Nat.le_of_ble_eq_true rfl) (Nat.le_of_ble_eq_true rfl) ?_
    · refine px_C_of rfl ?_
      refine pr_s (pc1 := 1) (st1 := [.ref 164]) rfl (fun _ => rfl) ?_
      refine pr_s (pc1 := 2) (st1 := [.int 0, .ref 164]) rfl (fun _ => rfl) ?_
      refine pr_s (pc1 := 3) (st1 := [.ref 0, .int 0, .ref 164]) rfl (fun _ => rfl) ?_
      refine pr_s (pc1 := 4) (st1 := [.int a1, .ref 0, .int 0, .ref 164]) rfl (fun _ => rfl) ?_
      refine pr_s (pc1 := 5) (st1 := [.int a2, .int a1, .ref 0, .int 0, .ref 164]) rfl (fun _ => rfl) ?_
      refine pr_callx (N := pm_X6_hasFired) (as := [.ref 0, .int a1, .int a2]) (rest := [.int 0, .ref 164]) (f := 2046) (l := 83954) (c1 := 1) (k1 := 6) (c2 := 0) (k2 := 0) (E := 11) (h1 := ph_14) (a := 20) (y1 := 4) (y2 := 2) rfl (fun ex => px_inv_hs ex rfl rfl rfl pg_0 rfl rfl rfl rfl) ?_ (Nat.le_of_ble_eq_true rfl) (Nat.le_of_ble_eq_true rfl) rfl rfl rfl rfl ?_
      · refine px_C_of rfl ?_
        refine pr_s (pc1 := 1) (st1 := [.ref 0]) rfl (fun _ => rfl) ?_
        refine pr_getf (pc1 := 4) (v := .ref 92) rfl rfl pg_0 rfl rfl ?_
        refine pr_getf (pc1 := 7) (v := .ref 99) rfl rfl pg_22 rfl rfl ?_
        refine pr_s (pc1 := 8) (st1 := [.ref 0, .ref 99]) rfl (fun _ => rfl) ?_
        refine pr_s (pc1 := 9) (st1 := [.int a1, .ref 0, .ref 99]) rfl (fun _ => rfl) ?_
        refine pr_s (pc1 := 10) (st1 := [.int a2, .int a1, .ref 0, .ref 99]) rfl (fun _ => rfl) ?_
        refine pr_callo (N := pm_X6_needMatch) (as := [.ref 0, .int a1, .int a2]) (rest := [.ref 99]) (f := 2045) (l := 83931) (E := 11) (h1 := ph_14) rfl (fun ex => px_inv_hs ex rfl rfl rfl pg_0 rfl rfl rfl rfl) ?_ rfl ⟨rfl, rfl⟩
        · refine px_C_of rfl ?_
          refine pr_s (pc1 := 1) (st1 := [.ref 0]) rfl (fun _ => rfl) ?_
          refine pr_s (pc1 := 2) (st1 := [.int a1, .ref 0]) rfl (fun _ => rfl) ?_
          refine pr_callo (N := pm_X6_needRule) (as := [.ref 0, .int a1]) (rest := []) (f := 2044) (l := 83910) (E := 11) (h1 := ph_14) rfl (fun ex => px_inv_hs ex rfl rfl rfl pg_0 rfl rfl rfl rfl) ?_ rfl ⟨rfl, rfl⟩
          · refine px_C_of rfl ?_
            refine pr_s (pc1 := 1) (st1 := [.int a1]) rfl (fun _ => rfl) ?_
            refine pr_bf (t := 12) (off := 11) (bb := decide (a1 < 0)) (st1 := []) rfl rfl rfl rfl (pb_ltF ha1.1 (show (0 : Int32).toInt ≤ 0 by decide) (by decide)) ?_
            refine pr_s (pc1 := 5) (st1 := [.int a1]) rfl (fun _ => rfl) ?_
            refine pr_s (pc1 := 6) (st1 := [.ref 0, .int a1]) rfl (fun _ => rfl) ?_
            refine pr_getf (pc1 := 9) (v := .int 0) rfl rfl pg_0 rfl rfl ?_
            refine pr_bf (t := 23) (off := 14) (bb := decide (a1 < 0)) (st1 := []) rfl rfl rfl rfl (pb_ltF ha1.1 (show (0 : Int32).toInt ≤ 0 by decide) (by decide)) ?_
            refine pr_mh (z1 := 1) (z2 := 6) (c1 := 0) (k1 := 0) (pc1 := 22) (n := 165) (r := []) (h1 := ph_14) (es := fun n => [.inr (11, [])]) rfl (fun _ => rfl) pl_0 rfl (Nat.le_of_ble_eq_true rfl) (Nat.le_of_ble_eq_true rfl) ?_
            exact pr_e rfl (fun _ => rfl) ⟨rfl, rfl⟩
      show px_R _ _ _ _ (22, [(0, .ref 0), (1, .int a1), (2, .int a2), (3, .ref 164)], [], _) _ _ _
      refine pr_s (pc1 := 23) (st1 := [.int 1]) rfl (fun _ => rfl) ?_
      exact pr_e rfl (fun _ => rfl) ⟨rfl, rfl⟩
    show px_T _ _ _ _ (2235, [(4, .int 0), (3, .ref 164), (2, .ref 136), (1, .ref 0), (0, .retAddr 0)], [.int 1], _) _ _ _
    refine pt_s (pc1 := 2237) (lv1 := [(5, .int 1), (4, .int 0), (3, .ref 164), (2, .ref 136), (1, .ref 0), (0, .retAddr 0)]) (st1 := []) rfl rfl (fun _ => rfl) ?_
    refine pt_s (pc1 := 2238) (st1 := [.ref 136]) rfl rfl (fun _ => rfl) ?_
    refine pt_s (pc1 := 2239) (st1 := [.retAddr 0, .ref 136]) rfl rfl (fun _ => rfl) ?_
    refine pt_s (pc1 := 2241) (st1 := [.int 0, .retAddr 0, .ref 136]) rfl rfl (fun _ => rfl) ?_
    refine pt_s (pc1 := 2242) (st1 := [.int 1, .int 0, .retAddr 0, .ref 136]) rfl rfl (fun _ => rfl) ?_
    refine pt_s (pc1 := 2243) (st1 := [.int 1, .retAddr 0, .ref 136]) rfl rfl (fun _ => rfl) ?_
    refine pt_s (pc1 := 2244) (st1 := [.int a1, .ref 136]) rfl rfl (fun _ => rfl) ?_
    refine pt_s (pc1 := 2245) (st1 := [.retAddr 0, .int a1, .ref 136]) rfl rfl (fun _ => rfl) ?_
    refine pt_s (pc1 := 2247) (st1 := [.int 0, .retAddr 0, .int a1, .ref 136]) rfl rfl (fun _ => rfl) ?_
    refine pt_s (pc1 := 2248) (st1 := [.int 2, .int 0, .retAddr 0, .int a1, .ref 136]) rfl rfl (fun _ => rfl) ?_
    refine pt_s (pc1 := 2249) (st1 := [.int 2, .retAddr 0, .int a1, .ref 136]) rfl rfl (fun _ => rfl) ?_
    refine pt_s (pc1 := 2250) (st1 := [.int a2, .int a1, .ref 136]) rfl rfl (fun _ => rfl) ?_
    refine pt_callv (N := pm_X10_hasFired) (as := [.ref 136, .int a1, .int a2]) (rest := []) (f := 2047) (l := 83977) (c1 := 0) (k1 := 0) (c2 := 599836) (k2 := 7274189) (v := some (.int 0)) (h1 := ph_15) rfl rfl (fun ex => px_inv_hs ex rfl rfl rfl pg_20 rfl rfl rfl rfl) ?_ (Nat.le_of_ble_eq_true rfl) (Nat.le_of_ble_eq_true rfl) ?_
    · refine px_C_of rfl ?_
      refine pr_s (pc1 := 1) (st1 := [.ref 136]) rfl (fun _ => rfl) ?_
      refine pr_s (pc1 := 2) (st1 := [.int a1, .ref 136]) rfl (fun _ => rfl) ?_
      refine pr_s (pc1 := 3) (st1 := [.int a2, .int a1, .ref 136]) rfl (fun _ => rfl) ?_
      refine pr_callv (N := pm_X10_matchOf) (as := [.ref 136, .int a1, .int a2]) (rest := []) (f := 2046) (l := 83954) (c1 := 0) (k1 := 0) (c2 := 0) (k2 := 0) (v := some (.int (0 + a2))) (h1 := ph_15) rfl (fun ex => px_inv_hs ex rfl rfl rfl pg_20 rfl rfl rfl rfl) ?_ (Nat.le_of_ble_eq_true rfl) (Nat.le_of_ble_eq_true rfl) ?_
      · refine px_C_of rfl ?_
        refine pr_s (pc1 := 1) (st1 := [.ref 136]) rfl (fun _ => rfl) ?_
        refine pr_s (pc1 := 2) (st1 := [.ref 136, .ref 136]) rfl (fun _ => rfl) ?_
        refine pr_s (pc1 := 3) (st1 := [.int a1, .ref 136, .ref 136]) rfl (fun _ => rfl) ?_
        refine pr_callv (N := pm_X10_isRule) (as := [.ref 136, .int a1]) (rest := [.ref 136]) (f := 2045) (l := 83933) (c1 := 0) (k1 := 0) (c2 := 0) (k2 := 0) (v := some (.int 0)) (h1 := ph_14) rfl (fun ex => px_inv_hs ex rfl rfl rfl pg_20 rfl rfl rfl rfl) ?_ (Nat.le_of_ble_eq_true rfl) (Nat.le_of_ble_eq_true rfl) ?_
        · refine px_C_of rfl ?_
          refine pr_s (pc1 := 1) (st1 := [.int a1]) rfl (fun _ => rfl) ?_
          refine pr_s (pc1 := 2) (st1 := [.int 0, .int a1]) rfl (fun _ => rfl) ?_
          refine pr_s (pc1 := 3) (st1 := [.ref 136, .int 0, .int a1]) rfl (fun _ => rfl) ?_
          refine pr_getf (pc1 := 6) (v := .int 0) rfl rfl pg_20 rfl rfl ?_
          refine pr_s (pc1 := 7) (st1 := [.int 1, .int 0, .int 0, .int a1]) rfl (fun _ => rfl) ?_
          refine pr_s (pc1 := 8) (st1 := [.int (-1), .int 0, .int a1]) rfl (fun _ => rfl) ?_
          refine pr_callv (N := pm_X10_is) (as := [.int a1, .int 0, .int (-1)]) (rest := []) (f := 2044) (l := 83911) (c1 := 0) (k1 := 0) (c2 := 0) (k2 := 0) (v := some (.int 0)) (h1 := ph_14) rfl (fun _ => rfl) ?_ (Nat.le_of_ble_eq_true rfl) (Nat.le_of_ble_eq_true rfl) ?_
          · refine px_C_of rfl ?_
            refine pr_s (pc1 := 1) (st1 := [.int a1]) rfl (fun _ => rfl) ?_
            refine pr_s (pc1 := 2) (st1 := [.int 0, .int a1]) rfl (fun _ => rfl) ?_
            refine pr_bf (t := 14) (off := 12) (bb := decide (a1 < 0)) (st1 := []) rfl rfl rfl rfl (pb_ltF ha1.1 (show (0 : Int32).toInt ≤ 0 by decide) (by decide)) ?_
            refine pr_s (pc1 := 6) (st1 := [.int a1]) rfl (fun _ => rfl) ?_
            refine pr_s (pc1 := 7) (st1 := [.int (-1), .int a1]) rfl (fun _ => rfl) ?_
            refine pr_bt (t := 14) (off := 7) (bb := decide (((-1) : Int32) < a1)) (st1 := []) rfl rfl rfl rfl (pb_ltT (show ((-1) : Int32).toInt ≤ (-1) by decide) ha1.1 (by decide)) ?_
            refine pr_s (pc1 := 15) (st1 := [.int 0]) rfl (fun _ => rfl) ?_
            exact pr_e rfl (fun _ => rfl) ⟨rfl, rfl⟩
          show px_R _ _ _ _ (11, [(0, .ref 136), (1, .int a1)], [.int 0], _) _ _ _
          exact pr_e rfl (fun _ => rfl) ⟨rfl, rfl⟩
        show px_R _ _ _ _ (6, [(0, .ref 136), (1, .int a1), (2, .int a2)], [.int 0, .ref 136], _) _ _ _
        refine pr_bt (t := 28) (off := 22) (bb := decide ((0 : Int32) = 0)) (st1 := [.ref 136]) rfl rfl rfl rfl (by decide) ?_
        refine pr_s (pc1 := 29) (st1 := [.int 1, .ref 136]) rfl (fun _ => rfl) ?_
        refine pr_putf (pc1 := 32) (h1 := ph_15) rfl rfl pg_20 rfl rfl rfl rfl rfl rfl rfl ?_
        refine pr_s (pc1 := 33) (st1 := [.int 0]) rfl (fun _ => rfl) ?_
        refine pr_s (pc1 := 34) (lv1 := [(3, .int 0), (0, .ref 136), (1, .int a1), (2, .int a2)]) (st1 := []) rfl (fun _ => rfl) ?_
        refine pr_s (pc1 := 35) (st1 := [.ref 136]) rfl (fun _ => rfl) ?_
        refine pr_getf (pc1 := 38) (v := .int 1) rfl rfl pg_21 rfl rfl ?_
        refine pr_bt (t := 63) (off := 25) (bb := !decide ((1 : Int32) = 0)) (st1 := []) rfl rfl rfl rfl (px_not_t (by decide)) ?_
        refine pr_s (pc1 := 64) (st1 := [.int 0]) rfl (fun _ => rfl) ?_
        refine pr_s (pc1 := 65) (st1 := [.int a2, .int 0]) rfl (fun _ => rfl) ?_
        refine pr_s (pc1 := 66) (st1 := [.int (0 + a2)]) rfl (fun _ => rfl) ?_
        exact pr_e rfl (fun _ => rfl) ⟨rfl, rfl⟩
      show px_R _ _ _ _ (6, [(0, .ref 136), (1, .int a1), (2, .int a2)], [.int (0 + a2)], _) _ _ _
      refine pr_s (pc1 := 7) (lv1 := [(3, .int (0 + a2)), (0, .ref 136), (1, .int a1), (2, .int a2)]) (st1 := []) rfl (fun _ => rfl) ?_
      refine pr_s (pc1 := 8) (st1 := [.ref 136]) rfl (fun _ => rfl) ?_
      refine pr_getf (pc1 := 11) (v := .int 1) rfl rfl pg_21 rfl rfl ?_
      refine pr_bt (t := 34) (off := 23) (bb := !decide ((1 : Int32) = 0)) (st1 := []) rfl rfl rfl rfl (px_not_t (by decide)) ?_
      refine pr_s (pc1 := 35) (st1 := [.int 0]) rfl (fun _ => rfl) ?_
      exact pr_e rfl (fun _ => rfl) ⟨rfl, rfl⟩
    show px_T _ _ _ _ (2253, [(5, .int 1), (4, .int 0), (3, .ref 164), (2, .ref 136), (1, .ref 0), (0, .retAddr 0)], [.int 0], _) _ _ _
    refine pt_s (pc1 := 2255) (lv1 := [(6, .int 0), (5, .int 1), (4, .int 0), (3, .ref 164), (2, .ref 136), (1, .ref 0), (0, .retAddr 0)]) (st1 := []) rfl rfl (fun _ => rfl) ?_
    refine pt_s (pc1 := 2256) (st1 := [.ref 136]) rfl rfl (fun _ => rfl) ?_
    refine pt_callv (N := pm_X10_thrown) (as := [.ref 136]) (rest := []) (f := 2047) (l := 83980) (c1 := 0) (k1 := 0) (c2 := 599836) (k2 := 7274189) (v := some (.int 1)) (h1 := ph_15) rfl rfl (fun ex => px_inv_hs ex rfl rfl rfl pg_21 rfl rfl rfl rfl) ?_ (Nat.le_of_ble_eq_true rfl) (Nat.le_of_ble_eq_true rfl) ?_
    · refine px_C_of rfl ?_
      refine pr_s (pc1 := 1) (st1 := [.ref 136]) rfl (fun _ => rfl) ?_
      refine pr_getf (pc1 := 4) (v := .int 1) rfl rfl pg_21 rfl rfl ?_
      exact pr_e rfl (fun _ => rfl) ⟨rfl, rfl⟩
    show px_T _ _ _ _ (2259, [(6, .int 0), (5, .int 1), (4, .int 0), (3, .ref 164), (2, .ref 136), (1, .ref 0), (0, .retAddr 0)], [.int 1], _) _ _ _
    refine pt_s (pc1 := 2261) (st1 := [.int 1, .int 1]) rfl rfl (fun _ => rfl) ?_
    refine pt_bt (t := 2266) (off := 5) (bb := decide ((1 : Int32) = 1)) (st1 := []) rfl rfl rfl rfl rfl (by decide) ?_
    refine pt_s (pc1 := 2268) (st1 := [.int 1]) rfl rfl (fun _ => rfl) ?_
    refine pt_bt (t := 2290) (off := 22) (bb := !decide ((1 : Int32) = 0)) (st1 := []) rfl rfl rfl rfl rfl (px_not_t (by decide)) ?_
    refine pt_s (pc1 := 2771) (st1 := []) rfl rfl (fun _ => rfl) ?_
    refine pt_s (pc1 := 2774) (lv1 := [(4, .int 6), (6, .int 0), (5, .int 1), (3, .ref 164), (2, .ref 136), (1, .ref 0), (0, .retAddr 0)]) (st1 := []) rfl rfl (fun _ => rfl) ?_
    refine pt_s (pc1 := 23) (st1 := []) rfl rfl (fun _ => rfl) ?_
    refine pt_s (pc1 := 25) (st1 := [.int 6]) rfl rfl (fun _ => rfl) ?_
    refine pt_s (pc1 := 26) (st1 := [.retAddr 0, .int 6]) rfl rfl (fun _ => rfl) ?_
    refine pt_s (pc1 := 27) (st1 := [.int 6, .int 6]) rfl rfl (fun _ => rfl) ?_
    refine pt_s (pc1 := 29) (st1 := [.int 6, .int 6, .int 6]) rfl rfl (fun _ => rfl) ?_
    refine pt_s (pc1 := 30) (st1 := [.int 0, .int 6]) rfl rfl (fun _ => rfl) ?_
    refine pt_bt (t := 2777) (off := 2747) (bb := decide ((0 : Int32) < (6 : Int32))) (st1 := []) rfl rfl rfl rfl rfl (by decide) ?_
    refine pt_s (pc1 := 2778) (st1 := [.int 1]) rfl rfl (fun _ => rfl) ?_
    exact pt_e rfl ⟨rfl, (rfl : px_ins pm_law 2778 = some (.ireturn, 1))⟩
set_option maxRecDepth 100000 in
set_option maxHeartbeats 40000000 in
theorem px_op_34 (a0 a1 a2 a3 a4 a5 : Int32) : px_T (some [a0, a1, a2, a3, a4, a5]) pm_law 2048 84000 (40, [(4, .int 0), (3, .ref 164), (2, .ref 136), (1, .ref 0), (0, .retAddr 0)], [.int 34], px_hs) 599837 7274195 (fun s1 => s1.2.2.1 = [.int 1] ∧ px_ins pm_law s1.1 = some (.ireturn, 1)) := by
  have ha1 : (-2147483648) ≤ a1.toInt ∧ a1.toInt ≤ 2147483647 := ⟨Int32.le_toInt a1, Int32.toInt_le a1⟩
  by_cases hs : a1.toInt < 0
  · have ha1 : (-2147483648) ≤ a1.toInt ∧ a1.toInt ≤ (-1) := ⟨ha1.1, by omega⟩
    refine pt_s (pc1 := 2293) (st1 := []) rfl rfl (fun _ => rfl) ?_
    refine pt_s (pc1 := 2294) (st1 := [.ref 0]) rfl rfl (fun _ => rfl) ?_
    refine pt_s (pc1 := 2295) (st1 := [.retAddr 0, .ref 0]) rfl rfl (fun _ => rfl) ?_
    refine pt_s (pc1 := 2297) (st1 := [.int 0, .retAddr 0, .ref 0]) rfl rfl (fun _ => rfl) ?_
    refine pt_s (pc1 := 2298) (st1 := [.int 1, .int 0, .retAddr 0, .ref 0]) rfl rfl (fun _ => rfl) ?_
    refine pt_s (pc1 := 2299) (st1 := [.int 1, .retAddr 0, .ref 0]) rfl rfl (fun _ => rfl) ?_
    refine pt_s (pc1 := 2300) (st1 := [.int a1, .ref 0]) rfl rfl (fun _ => rfl) ?_
    refine pt_s (pc1 := 2301) (st1 := [.retAddr 0, .int a1, .ref 0]) rfl rfl (fun _ => rfl) ?_
    refine pt_s (pc1 := 2303) (st1 := [.int 0, .retAddr 0, .int a1, .ref 0]) rfl rfl (fun _ => rfl) ?_
    refine pt_s (pc1 := 2304) (st1 := [.int 2, .int 0, .retAddr 0, .int a1, .ref 0]) rfl rfl (fun _ => rfl) ?_
    refine pt_s (pc1 := 2305) (st1 := [.int 2, .retAddr 0, .int a1, .ref 0]) rfl rfl (fun _ => rfl) ?_
    refine pt_s (pc1 := 2306) (st1 := [.int a2, .int a1, .ref 0]) rfl rfl (fun _ => rfl) ?_
    refine pt_s (pc1 := 2307) (st1 := [.retAddr 0, .int a2, .int a1, .ref 0]) rfl rfl (fun _ => rfl) ?_
    refine pt_s (pc1 := 2309) (st1 := [.int 0, .retAddr 0, .int a2, .int a1, .ref 0]) rfl rfl (fun _ => rfl) ?_
    refine pt_s (pc1 := 2310) (st1 := [.int 3, .int 0, .retAddr 0, .int a2, .int a1, .ref 0]) rfl rfl (fun _ => rfl) ?_
    refine pt_s (pc1 := 2311) (st1 := [.int 3, .retAddr 0, .int a2, .int a1, .ref 0]) rfl rfl (fun _ => rfl) ?_
    refine pt_s (pc1 := 2312) (st1 := [.int a3, .int a2, .int a1, .ref 0]) rfl rfl (fun _ => rfl) ?_
    refine pt_s (pc1 := 2313) (st1 := [.ref 164, .int a3, .int a2, .int a1, .ref 0]) rfl rfl (fun _ => rfl) ?_
    refine pt_callv (N := pm_L_variableOf) (as := [.ref 0, .int a1, .int a2, .int a3, .ref 164]) (rest := []) (f := 2047) (l := 83975) (c1 := 1) (k1 := 6) (c2 := 599836) (k2 := 7274189) (v := some (.int 1)) (h1 := ph_14) rfl rfl (fun _ => rfl) ?_ (Nat.le_of_ble_eq_true rfl) (Nat.le_of_ble_eq_true rfl) ?_
    · refine px_C_of rfl ?_
      refine pr_s (pc1 := 2) (st1 := [.ref 164]) rfl (fun _ => rfl) ?_
      refine pr_s (pc1 := 3) (st1 := [.int 0, .ref 164]) rfl (fun _ => rfl) ?_
      refine pr_s (pc1 := 4) (st1 := [.ref 0, .int 0, .ref 164]) rfl (fun _ => rfl) ?_
      refine pr_s (pc1 := 5) (st1 := [.int a1, .ref 0, .int 0, .ref 164]) rfl (fun _ => rfl) ?_
      refine pr_s (pc1 := 6) (st1 := [.int a2, .int a1, .ref 0, .int 0, .ref 164]) rfl (fun _ => rfl) ?_
      refine pr_s (pc1 := 7) (st1 := [.int a3, .int a2, .int a1, .ref 0, .int 0, .ref 164]) rfl (fun _ => rfl) ?_
      refine pr_callx (N := pm_X6_variableOf) (as := [.ref 0, .int a1, .int a2, .int a3]) (rest := [.int 0, .ref 164]) (f := 2046) (l := 83951) (c1 := 1) (k1 := 6) (c2 := 0) (k2 := 0) (E := 11) (h1 := ph_14) (a := 15) (y1 := 5) (y2 := 2) rfl (fun ex => px_inv_hs ex rfl rfl rfl pg_0 rfl rfl rfl rfl) ?_ (Nat.le_of_ble_eq_true rfl) (Nat.le_of_ble_eq_true rfl) rfl rfl rfl rfl ?_
      · refine px_C_of rfl ?_
        refine pr_s (pc1 := 1) (st1 := [.ref 0]) rfl (fun _ => rfl) ?_
        refine pr_s (pc1 := 2) (st1 := [.int a1, .ref 0]) rfl (fun _ => rfl) ?_
        refine pr_s (pc1 := 3) (st1 := [.int a2, .int a1, .ref 0]) rfl (fun _ => rfl) ?_
        refine pr_callo (N := pm_X6_needMatch) (as := [.ref 0, .int a1, .int a2]) (rest := []) (f := 2045) (l := 83928) (E := 11) (h1 := ph_14) rfl (fun ex => px_inv_hs ex rfl rfl rfl pg_0 rfl rfl rfl rfl) ?_ rfl ⟨rfl, rfl⟩
        · refine px_C_of rfl ?_
          refine pr_s (pc1 := 1) (st1 := [.ref 0]) rfl (fun _ => rfl) ?_
          refine pr_s (pc1 := 2) (st1 := [.int a1, .ref 0]) rfl (fun _ => rfl) ?_
          refine pr_callo (N := pm_X6_needRule) (as := [.ref 0, .int a1]) (rest := []) (f := 2044) (l := 83907) (E := 11) (h1 := ph_14) rfl (fun ex => px_inv_hs ex rfl rfl rfl pg_0 rfl rfl rfl rfl) ?_ rfl ⟨rfl, rfl⟩
          · refine px_C_of rfl ?_
            refine pr_s (pc1 := 1) (st1 := [.int a1]) rfl (fun _ => rfl) ?_
            refine pr_bt (t := 12) (off := 11) (bb := decide (a1 < 0)) (st1 := []) rfl rfl rfl rfl (pb_ltT ha1.2 (show 0 ≤ (0 : Int32).toInt by decide) (by decide)) ?_
            refine pr_mh (z1 := 1) (z2 := 6) (c1 := 0) (k1 := 0) (pc1 := 22) (n := 165) (r := []) (h1 := ph_14) (es := fun n => [.inr (11, [])]) rfl (fun _ => rfl) pl_0 rfl (Nat.le_of_ble_eq_true rfl) (Nat.le_of_ble_eq_true rfl) ?_
            exact pr_e rfl (fun _ => rfl) ⟨rfl, rfl⟩
      show px_R _ _ _ _ (17, [(0, .ref 0), (1, .int a1), (2, .int a2), (3, .int a3), (4, .ref 164)], [], _) _ _ _
      refine pr_s (pc1 := 18) (st1 := [.int 1]) rfl (fun _ => rfl) ?_
      exact pr_e rfl (fun _ => rfl) ⟨rfl, rfl⟩
    show px_T _ _ _ _ (2316, [(4, .int 0), (3, .ref 164), (2, .ref 136), (1, .ref 0), (0, .retAddr 0)], [.int 1], _) _ _ _
    refine pt_s (pc1 := 2318) (lv1 := [(5, .int 1), (4, .int 0), (3, .ref 164), (2, .ref 136), (1, .ref 0), (0, .retAddr 0)]) (st1 := []) rfl rfl (fun _ => rfl) ?_
    refine pt_s (pc1 := 2319) (st1 := [.ref 136]) rfl rfl (fun _ => rfl) ?_
    refine pt_s (pc1 := 2320) (st1 := [.retAddr 0, .ref 136]) rfl rfl (fun _ => rfl) ?_
    refine pt_s (pc1 := 2322) (st1 := [.int 0, .retAddr 0, .ref 136]) rfl rfl (fun _ => rfl) ?_
    refine pt_s (pc1 := 2323) (st1 := [.int 1, .int 0, .retAddr 0, .ref 136]) rfl rfl (fun _ => rfl) ?_
    refine pt_s (pc1 := 2324) (st1 := [.int 1, .retAddr 0, .ref 136]) rfl rfl (fun _ => rfl) ?_
    refine pt_s (pc1 := 2325) (st1 := [.int a1, .ref 136]) rfl rfl (fun _ => rfl) ?_
    refine pt_s (pc1 := 2326) (st1 := [.retAddr 0, .int a1, .ref 136]) rfl rfl (fun _ => rfl) ?_
    refine pt_s (pc1 := 2328) (st1 := [.int 0, .retAddr 0, .int a1, .ref 136]) rfl rfl (fun _ => rfl) ?_
    refine pt_s (pc1 := 2329) (st1 := [.int 2, .int 0, .retAddr 0, .int a1, .ref 136]) rfl rfl (fun _ => rfl) ?_
    refine pt_s (pc1 := 2330) (st1 := [.int 2, .retAddr 0, .int a1, .ref 136]) rfl rfl (fun _ => rfl) ?_
    refine pt_s (pc1 := 2331) (st1 := [.int a2, .int a1, .ref 136]) rfl rfl (fun _ => rfl) ?_
    refine pt_s (pc1 := 2332) (st1 := [.retAddr 0, .int a2, .int a1, .ref 136]) rfl rfl (fun _ => rfl) ?_
    refine pt_s (pc1 := 2334) (st1 := [.int 0, .retAddr 0, .int a2, .int a1, .ref 136]) rfl rfl (fun _ => rfl) ?_
    refine pt_s (pc1 := 2335) (st1 := [.int 3, .int 0, .retAddr 0, .int a2, .int a1, .ref 136]) rfl rfl (fun _ => rfl) ?_
    refine pt_s (pc1 := 2336) (st1 := [.int 3, .retAddr 0, .int a2, .int a1, .ref 136]) rfl rfl (fun _ => rfl) ?_
    refine pt_s (pc1 := 2337) (st1 := [.int a3, .int a2, .int a1, .ref 136]) rfl rfl (fun _ => rfl) ?_
    refine pt_callv (N := pm_X10_variableOf) (as := [.ref 136, .int a1, .int a2, .int a3]) (rest := []) (f := 2047) (l := 83976) (c1 := 0) (k1 := 0) (c2 := 599836) (k2 := 7274189) (v := some (.int 0)) (h1 := ph_15) rfl rfl (fun ex => px_inv_hs ex rfl rfl rfl pg_20 rfl rfl rfl rfl) ?_ (Nat.le_of_ble_eq_true rfl) (Nat.le_of_ble_eq_true rfl) ?_
    · refine px_C_of rfl ?_
      refine pr_s (pc1 := 1) (st1 := [.ref 136]) rfl (fun _ => rfl) ?_
      refine pr_s (pc1 := 2) (st1 := [.int a1, .ref 136]) rfl (fun _ => rfl) ?_
      refine pr_s (pc1 := 3) (st1 := [.int a2, .int a1, .ref 136]) rfl (fun _ => rfl) ?_
      refine pr_callv (N := pm_X10_matchOf) (as := [.ref 136, .int a1, .int a2]) (rest := []) (f := 2046) (l := 83953) (c1 := 0) (k1 := 0) (c2 := 0) (k2 := 0) (v := some (.int (0 + a2))) (h1 := ph_15) rfl (fun ex => px_inv_hs ex rfl rfl rfl pg_20 rfl rfl rfl rfl) ?_ (Nat.le_of_ble_eq_true rfl) (Nat.le_of_ble_eq_true rfl) ?_
      · refine px_C_of rfl ?_
        refine pr_s (pc1 := 1) (st1 := [.ref 136]) rfl (fun _ => rfl) ?_
        refine pr_s (pc1 := 2) (st1 := [.ref 136, .ref 136]) rfl (fun _ => rfl) ?_
        refine pr_s (pc1 := 3) (st1 := [.int a1, .ref 136, .ref 136]) rfl (fun _ => rfl) ?_
        refine pr_callv (N := pm_X10_isRule) (as := [.ref 136, .int a1]) (rest := [.ref 136]) (f := 2045) (l := 83932) (c1 := 0) (k1 := 0) (c2 := 0) (k2 := 0) (v := some (.int 0)) (h1 := ph_14) rfl (fun ex => px_inv_hs ex rfl rfl rfl pg_20 rfl rfl rfl rfl) ?_ (Nat.le_of_ble_eq_true rfl) (Nat.le_of_ble_eq_true rfl) ?_
        · refine px_C_of rfl ?_
          refine pr_s (pc1 := 1) (st1 := [.int a1]) rfl (fun _ => rfl) ?_
          refine pr_s (pc1 := 2) (st1 := [.int 0, .int a1]) rfl (fun _ => rfl) ?_
          refine pr_s (pc1 := 3) (st1 := [.ref 136, .int 0, .int a1]) rfl (fun _ => rfl) ?_
          refine pr_getf (pc1 := 6) (v := .int 0) rfl rfl pg_20 rfl rfl ?_
          refine pr_s (pc1 := 7) (st1 := [.int 1, .int 0, .int 0, .int a1]) rfl (fun _ => rfl) ?_
          refine pr_s (pc1 := 8) (st1 := [.int (-1), .int 0, .int a1]) rfl (fun _ => rfl) ?_
          refine pr_callv (N := pm_X10_is) (as := [.int a1, .int 0, .int (-1)]) (rest := []) (f := 2044) (l := 83910) (c1 := 0) (k1 := 0) (c2 := 0) (k2 := 0) (v := some (.int 0)) (h1 := ph_14) rfl (fun _ => rfl) ?_ (Nat.le_of_ble_eq_true rfl) (Nat.le_of_ble_eq_true rfl) ?_
          · refine px_C_of rfl ?_
            refine pr_s (pc1 := 1) (st1 := [.int a1]) rfl (fun _ => rfl) ?_
            refine pr_s (pc1 := 2) (st1 := [.int 0, .int a1]) rfl (fun _ => rfl) ?_
            refine pr_bt (t := 14) (off := 12) (bb := decide (a1 < 0)) (st1 := []) rfl rfl rfl rfl (pb_ltT ha1.2 (show 0 ≤ (0 : Int32).toInt by decide) (by decide)) ?_
            refine pr_s (pc1 := 15) (st1 := [.int 0]) rfl (fun _ => rfl) ?_
            exact pr_e rfl (fun _ => rfl) ⟨rfl, rfl⟩
          show px_R _ _ _ _ (11, [(0, .ref 136), (1, .int a1)], [.int 0], _) _ _ _
          exact pr_e rfl (fun _ => rfl) ⟨rfl, rfl⟩
        show px_R _ _ _ _ (6, [(0, .ref 136), (1, .int a1), (2, .int a2)], [.int 0, .ref 136], _) _ _ _
        refine pr_bt (t := 28) (off := 22) (bb := decide ((0 : Int32) = 0)) (st1 := [.ref 136]) rfl rfl rfl rfl (by decide) ?_
        refine pr_s (pc1 := 29) (st1 := [.int 1, .ref 136]) rfl (fun _ => rfl) ?_
        refine pr_putf (pc1 := 32) (h1 := ph_15) rfl rfl pg_20 rfl rfl rfl rfl rfl rfl rfl ?_
        refine pr_s (pc1 := 33) (st1 := [.int 0]) rfl (fun _ => rfl) ?_
        refine pr_s (pc1 := 34) (lv1 := [(3, .int 0), (0, .ref 136), (1, .int a1), (2, .int a2)]) (st1 := []) rfl (fun _ => rfl) ?_
        refine pr_s (pc1 := 35) (st1 := [.ref 136]) rfl (fun _ => rfl) ?_
        refine pr_getf (pc1 := 38) (v := .int 1) rfl rfl pg_21 rfl rfl ?_
        refine pr_bt (t := 63) (off := 25) (bb := !decide ((1 : Int32) = 0)) (st1 := []) rfl rfl rfl rfl (px_not_t (by decide)) ?_
        refine pr_s (pc1 := 64) (st1 := [.int 0]) rfl (fun _ => rfl) ?_
        refine pr_s (pc1 := 65) (st1 := [.int a2, .int 0]) rfl (fun _ => rfl) ?_
        refine pr_s (pc1 := 66) (st1 := [.int (0 + a2)]) rfl (fun _ => rfl) ?_
        exact pr_e rfl (fun _ => rfl) ⟨rfl, rfl⟩
      show px_R _ _ _ _ (6, [(0, .ref 136), (1, .int a1), (2, .int a2), (3, .int a3)], [.int (0 + a2)], _) _ _ _
      refine pr_s (pc1 := 8) (lv1 := [(4, .int (0 + a2)), (0, .ref 136), (1, .int a1), (2, .int a2), (3, .int a3)]) (st1 := []) rfl (fun _ => rfl) ?_
      refine pr_s (pc1 := 9) (st1 := [.ref 136]) rfl (fun _ => rfl) ?_
      refine pr_getf (pc1 := 12) (v := .int 1) rfl rfl pg_21 rfl rfl ?_
      refine pr_bf (t := 17) (off := 5) (bb := decide ((1 : Int32) ≤ 0)) (st1 := []) rfl rfl rfl rfl (by decide) ?_
      refine pr_s (pc1 := 16) (st1 := [.int 0]) rfl (fun _ => rfl) ?_
      exact pr_e rfl (fun _ => rfl) ⟨rfl, rfl⟩
    show px_T _ _ _ _ (2340, [(5, .int 1), (4, .int 0), (3, .ref 164), (2, .ref 136), (1, .ref 0), (0, .retAddr 0)], [.int 0], _) _ _ _
    refine pt_s (pc1 := 2342) (lv1 := [(6, .int 0), (5, .int 1), (4, .int 0), (3, .ref 164), (2, .ref 136), (1, .ref 0), (0, .retAddr 0)]) (st1 := []) rfl rfl (fun _ => rfl) ?_
    refine pt_s (pc1 := 2343) (st1 := [.ref 136]) rfl rfl (fun _ => rfl) ?_
    refine pt_callv (N := pm_X10_thrown) (as := [.ref 136]) (rest := []) (f := 2047) (l := 83980) (c1 := 0) (k1 := 0) (c2 := 599836) (k2 := 7274189) (v := some (.int 1)) (h1 := ph_15) rfl rfl (fun ex => px_inv_hs ex rfl rfl rfl pg_21 rfl rfl rfl rfl) ?_ (Nat.le_of_ble_eq_true rfl) (Nat.le_of_ble_eq_true rfl) ?_
    · refine px_C_of rfl ?_
      refine pr_s (pc1 := 1) (st1 := [.ref 136]) rfl (fun _ => rfl) ?_
      refine pr_getf (pc1 := 4) (v := .int 1) rfl rfl pg_21 rfl rfl ?_
      exact pr_e rfl (fun _ => rfl) ⟨rfl, rfl⟩
    show px_T _ _ _ _ (2346, [(6, .int 0), (5, .int 1), (4, .int 0), (3, .ref 164), (2, .ref 136), (1, .ref 0), (0, .retAddr 0)], [.int 1], _) _ _ _
    refine pt_s (pc1 := 2348) (st1 := [.int 1, .int 1]) rfl rfl (fun _ => rfl) ?_
    refine pt_bt (t := 2353) (off := 5) (bb := decide ((1 : Int32) = 1)) (st1 := []) rfl rfl rfl rfl rfl (by decide) ?_
    refine pt_s (pc1 := 2355) (st1 := [.int 1]) rfl rfl (fun _ => rfl) ?_
    refine pt_bt (t := 2370) (off := 15) (bb := !decide ((1 : Int32) = 0)) (st1 := []) rfl rfl rfl rfl rfl (px_not_t (by decide)) ?_
    refine pt_s (pc1 := 2771) (st1 := []) rfl rfl (fun _ => rfl) ?_
    refine pt_s (pc1 := 2774) (lv1 := [(4, .int 6), (6, .int 0), (5, .int 1), (3, .ref 164), (2, .ref 136), (1, .ref 0), (0, .retAddr 0)]) (st1 := []) rfl rfl (fun _ => rfl) ?_
    refine pt_s (pc1 := 23) (st1 := []) rfl rfl (fun _ => rfl) ?_
    refine pt_s (pc1 := 25) (st1 := [.int 6]) rfl rfl (fun _ => rfl) ?_
    refine pt_s (pc1 := 26) (st1 := [.retAddr 0, .int 6]) rfl rfl (fun _ => rfl) ?_
    refine pt_s (pc1 := 27) (st1 := [.int 6, .int 6]) rfl rfl (fun _ => rfl) ?_
    refine pt_s (pc1 := 29) (st1 := [.int 6, .int 6, .int 6]) rfl rfl (fun _ => rfl) ?_
    refine pt_s (pc1 := 30) (st1 := [.int 0, .int 6]) rfl rfl (fun _ => rfl) ?_
    refine pt_bt (t := 2777) (off := 2747) (bb := decide ((0 : Int32) < (6 : Int32))) (st1 := []) rfl rfl rfl rfl rfl (by decide) ?_
    refine pt_s (pc1 := 2778) (st1 := [.int 1]) rfl rfl (fun _ => rfl) ?_
    exact pt_e rfl ⟨rfl, (rfl : px_ins pm_law 2778 = some (.ireturn, 1))⟩
  · have ha1 : 0 ≤ a1.toInt ∧ a1.toInt ≤ 2147483647 := ⟨by omega, ha1.2⟩
    refine pt_s (pc1 := 2293) (st1 := []) rfl rfl (fun _ => rfl) ?_
    refine pt_s (pc1 := 2294) (st1 := [.ref 0]) rfl rfl (fun _ => rfl) ?_
    refine pt_s (pc1 := 2295) (st1 := [.retAddr 0, .ref 0]) rfl rfl (fun _ => rfl) ?_
    refine pt_s (pc1 := 2297) (st1 := [.int 0, .retAddr 0, .ref 0]) rfl rfl (fun _ => rfl) ?_
    refine pt_s (pc1 := 2298) (st1 := [.int 1, .int 0, .retAddr 0, .ref 0]) rfl rfl (fun _ => rfl) ?_
    refine pt_s (pc1 := 2299) (st1 := [.int 1, .retAddr 0, .ref 0]) rfl rfl (fun _ => rfl) ?_
    refine pt_s (pc1 := 2300) (st1 := [.int a1, .ref 0]) rfl rfl (fun _ => rfl) ?_
    refine pt_s (pc1 := 2301) (st1 := [.retAddr 0, .int a1, .ref 0]) rfl rfl (fun _ => rfl) ?_
    refine pt_s (pc1 := 2303) (st1 := [.int 0, .retAddr 0, .int a1, .ref 0]) rfl rfl (fun _ => rfl) ?_
    refine pt_s (pc1 := 2304) (st1 := [.int 2, .int 0, .retAddr 0, .int a1, .ref 0]) rfl rfl (fun _ => rfl) ?_
    refine pt_s (pc1 := 2305) (st1 := [.int 2, .retAddr 0, .int a1, .ref 0]) rfl rfl (fun _ => rfl) ?_
    refine pt_s (pc1 := 2306) (st1 := [.int a2, .int a1, .ref 0]) rfl rfl (fun _ => rfl) ?_
    refine pt_s (pc1 := 2307) (st1 := [.retAddr 0, .int a2, .int a1, .ref 0]) rfl rfl (fun _ => rfl) ?_
    refine pt_s (pc1 := 2309) (st1 := [.int 0, .retAddr 0, .int a2, .int a1, .ref 0]) rfl rfl (fun _ => rfl) ?_
    refine pt_s (pc1 := 2310) (st1 := [.int 3, .int 0, .retAddr 0, .int a2, .int a1, .ref 0]) rfl rfl (fun _ => rfl) ?_
    refine pt_s (pc1 := 2311) (st1 := [.int 3, .retAddr 0, .int a2, .int a1, .ref 0]) rfl rfl (fun _ => rfl) ?_
    refine pt_s (pc1 := 2312) (st1 := [.int a3, .int a2, .int a1, .ref 0]) rfl rfl (fun _ => rfl) ?_
    refine pt_s (pc1 := 2313) (st1 := [.ref 164, .int a3, .int a2, .int a1, .ref 0]) rfl rfl (fun _ => rfl) ?_
    refine pt_callv (N := pm_L_variableOf) (as := [.ref 0, .int a1, .int a2, .int a3, .ref 164]) (rest := []) (f := 2047) (l := 83975) (c1 := 1) (k1 := 6) (c2 := 599836) (k2 := 7274189) (v := some (.int 1)) (h1 := ph_14) rfl rfl (fun _ => rfl) ?_ (Nat.le_of_ble_eq_true rfl) (Nat.le_of_ble_eq_true rfl) ?_
    · refine px_C_of rfl ?_
      refine pr_s (pc1 := 2) (st1 := [.ref 164]) rfl (fun _ => rfl) ?_
      refine pr_s (pc1 := 3) (st1 := [.int 0, .ref 164]) rfl (fun _ => rfl) ?_
      refine pr_s (pc1 := 4) (st1 := [.ref 0, .int 0, .ref 164]) rfl (fun _ => rfl) ?_
      refine pr_s (pc1 := 5) (st1 := [.int a1, .ref 0, .int 0, .ref 164]) rfl (fun _ => rfl) ?_
      refine pr_s (pc1 := 6) (st1 := [.int a2, .int a1, .ref 0, .int 0, .ref 164]) rfl (fun _ => rfl) ?_
      refine pr_s (pc1 := 7) (st1 := [.int a3, .int a2, .int a1, .ref 0, .int 0, .ref 164]) rfl (fun _ => rfl) ?_
      refine pr_callx (N := pm_X6_variableOf) (as := [.ref 0, .int a1, .int a2, .int a3]) (rest := [.int 0, .ref 164]) (f := 2046) (l := 83951) (c1 := 1) (k1 := 6) (c2 := 0) (k2 := 0) (E := 11) (h1 := ph_14) (a := 15) (y1 := 5) (y2 := 2) rfl (fun ex => px_inv_hs ex rfl rfl rfl pg_0 rfl rfl rfl rfl) ?_ (Nat.le_of_ble_eq_true rfl) (Nat.le_of_ble_eq_true rfl) rfl rfl rfl rfl ?_
      · refine px_C_of rfl ?_
        refine pr_s (pc1 := 1) (st1 := [.ref 0]) rfl (fun _ => rfl) ?_
        refine pr_s (pc1 := 2) (st1 := [.int a1, .ref 0]) rfl (fun _ => rfl) ?_
        refine pr_s (pc1 := 3) (st1 := [.int a2, .int a1, .ref 0]) rfl (fun _ => rfl) ?_
        refine pr_callo (N := pm_X6_needMatch) (as := [.ref 0, .int a1, .int a2]) (rest := []) (f := 2045) (l := 83928) (E := 11) (h1 := ph_14) rfl (fun ex => px_inv_hs ex rfl rfl rfl pg_0 rfl rfl rfl rfl) ?_ rfl ⟨rfl, rfl⟩
        · refine px_C_of rfl ?_
          refine pr_s (pc1 := 1) (st1 := [.ref 0]) rfl (fun _ => rfl) ?_
          refine pr_s (pc1 := 2) (st1 := [.int a1, .ref 0]) rfl (fun _ => rfl) ?_
          refine pr_callo (N := pm_X6_needRule) (as := [.ref 0, .int a1]) (rest := []) (f := 2044) (l := 83907) (E := 11) (h1 := ph_14) rfl (fun ex => px_inv_hs ex rfl rfl rfl pg_0 rfl rfl rfl rfl) ?_ rfl ⟨rfl, rfl⟩
          · refine px_C_of rfl ?_
            refine pr_s (pc1 := 1) (st1 := [.int a1]) rfl (fun _ => rfl) ?_
            refine pr_bf (t := 12) (off := 11) (bb := decide (a1 < 0)) (st1 := []) rfl rfl rfl rfl (pb_ltF ha1.1 (show (0 : Int32).toInt ≤ 0 by decide) (by decide)) ?_
            refine pr_s (pc1 := 5) (st1 := [.int a1]) rfl (fun _ => rfl) ?_
            refine pr_s (pc1 := 6) (st1 := [.ref 0, .int a1]) rfl (fun _ => rfl) ?_
            refine pr_getf (pc1 := 9) (v := .int 0) rfl rfl pg_0 rfl rfl ?_
            refine pr_bf (t := 23) (off := 14) (bb := decide (a1 < 0)) (st1 := []) rfl rfl rfl rfl (pb_ltF ha1.1 (show (0 : Int32).toInt ≤ 0 by decide) (by decide)) ?_
            refine pr_mh (z1 := 1) (z2 := 6) (c1 := 0) (k1 := 0) (pc1 := 22) (n := 165) (r := []) (h1 := ph_14) (es := fun n => [.inr (11, [])]) rfl (fun _ => rfl) pl_0 rfl (Nat.le_of_ble_eq_true rfl) (Nat.le_of_ble_eq_true rfl) ?_
            exact pr_e rfl (fun _ => rfl) ⟨rfl, rfl⟩
      show px_R _ _ _ _ (17, [(0, .ref 0), (1, .int a1), (2, .int a2), (3, .int a3), (4, .ref 164)], [], _) _ _ _
      refine pr_s (pc1 := 18) (st1 := [.int 1]) rfl (fun _ => rfl) ?_
      exact pr_e rfl (fun _ => rfl) ⟨rfl, rfl⟩
    show px_T _ _ _ _ (2316, [(4, .int 0), (3, .ref 164), (2, .ref 136), (1, .ref 0), (0, .retAddr 0)], [.int 1], _) _ _ _
    refine pt_s (pc1 := 2318) (lv1 := [(5, .int 1), (4, .int 0), (3, .ref 164), (2, .ref 136), (1, .ref 0), (0, .retAddr 0)]) (st1 := []) rfl rfl (fun _ => rfl) ?_
    refine pt_s (pc1 := 2319) (st1 := [.ref 136]) rfl rfl (fun _ => rfl) ?_
    refine pt_s (pc1 := 2320) (st1 := [.retAddr 0, .ref 136]) rfl rfl (fun _ => rfl) ?_
    refine pt_s (pc1 := 2322) (st1 := [.int 0, .retAddr 0, .ref 136]) rfl rfl (fun _ => rfl) ?_
    refine pt_s (pc1 := 2323) (st1 := [.int 1, .int 0, .retAddr 0, .ref 136]) rfl rfl (fun _ => rfl) ?_
    refine pt_s (pc1 := 2324) (st1 := [.int 1, .retAddr 0, .ref 136]) rfl rfl (fun _ => rfl) ?_
    refine pt_s (pc1 := 2325) (st1 := [.int a1, .ref 136]) rfl rfl (fun _ => rfl) ?_
    refine pt_s (pc1 := 2326) (st1 := [.retAddr 0, .int a1, .ref 136]) rfl rfl (fun _ => rfl) ?_
    refine pt_s (pc1 := 2328) (st1 := [.int 0, .retAddr 0, .int a1, .ref 136]) rfl rfl (fun _ => rfl) ?_
    refine pt_s (pc1 := 2329) (st1 := [.int 2, .int 0, .retAddr 0, .int a1, .ref 136]) rfl rfl (fun _ => rfl) ?_
    refine pt_s (pc1 := 2330) (st1 := [.int 2, .retAddr 0, .int a1, .ref 136]) rfl rfl (fun _ => rfl) ?_
    refine pt_s (pc1 := 2331) (st1 := [.int a2, .int a1, .ref 136]) rfl rfl (fun _ => rfl) ?_
    refine pt_s (pc1 := 2332) (st1 := [.retAddr 0, .int a2, .int a1, .ref 136]) rfl rfl (fun _ => rfl) ?_
    refine pt_s (pc1 := 2334) (st1 := [.int 0, .retAddr 0, .int a2, .int a1, .ref 136]) rfl rfl (fun _ => rfl) ?_
    refine pt_s (pc1 := 2335) (st1 := [.int 3, .int 0, .retAddr 0, .int a2, .int a1, .ref 136]) rfl rfl (fun _ => rfl) ?_
    refine pt_s (pc1 := 2336) (st1 := [.int 3, .retAddr 0, .int a2, .int a1, .ref 136]) rfl rfl (fun _ => rfl) ?_
    refine pt_s (pc1 := 2337) (st1 := [.int a3, .int a2, .int a1, .ref 136]) rfl rfl (fun _ => rfl) ?_
    refine pt_callv (N := pm_X10_variableOf) (as := [.ref 136, .int a1, .int a2, .int a3]) (rest := []) (f := 2047) (l := 83976) (c1 := 0) (k1 := 0) (c2 := 599836) (k2 := 7274189) (v := some (.int 0)) (h1 := ph_15) rfl rfl (fun ex => px_inv_hs ex rfl rfl rfl pg_20 rfl rfl rfl rfl) ?_ (Nat.le_of_ble_eq_true rfl) (Nat.le_of_ble_eq_true rfl) ?_
    · refine px_C_of rfl ?_
      refine pr_s (pc1 := 1) (st1 := [.ref 136]) rfl (fun _ => rfl) ?_
      refine pr_s (pc1 := 2) (st1 := [.int a1, .ref 136]) rfl (fun _ => rfl) ?_
      refine pr_s (pc1 := 3) (st1 := [.int a2, .int a1, .ref 136]) rfl (fun _ => rfl) ?_
      refine pr_callv (N := pm_X10_matchOf) (as := [.ref 136, .int a1, .int a2]) (rest := []) (f := 2046) (l := 83953) (c1 := 0) (k1 := 0) (c2 := 0) (k2 := 0) (v := some (.int (0 + a2))) (h1 := ph_15) rfl (fun ex => px_inv_hs ex rfl rfl rfl pg_20 rfl rfl rfl rfl) ?_ (Nat.le_of_ble_eq_true rfl) (Nat.le_of_ble_eq_true rfl) ?_
      · refine px_C_of rfl ?_
        refine pr_s (pc1 := 1) (st1 := [.ref 136]) rfl (fun _ => rfl) ?_
        refine pr_s (pc1 := 2) (st1 := [.ref 136, .ref 136]) rfl (fun _ => rfl) ?_
        refine pr_s (pc1 := 3) (st1 := [.int a1, .ref 136, .ref 136]) rfl (fun _ => rfl) ?_
        refine pr_callv (N := pm_X10_isRule) (as := [.ref 136, .int a1]) (rest := [.ref 136]) (f := 2045) (l := 83932) (c1 := 0) (k1 := 0) (c2 := 0) (k2 := 0) (v := some (.int 0)) (h1 := ph_14) rfl (fun ex => px_inv_hs ex rfl rfl rfl pg_20 rfl rfl rfl rfl) ?_ (Nat.le_of_ble_eq_true rfl) (Nat.le_of_ble_eq_true rfl) ?_
        · refine px_C_of rfl ?_
          refine pr_s (pc1 := 1) (st1 := [.int a1]) rfl (fun _ => rfl) ?_
          refine pr_s (pc1 := 2) (st1 := [.int 0, .int a1]) rfl (fun _ => rfl) ?_
          refine pr_s (pc1 := 3) (st1 := [.ref 136, .int 0, .int a1]) rfl (fun _ => rfl) ?_
          refine pr_getf (pc1 := 6) (v := .int 0) rfl rfl pg_20 rfl rfl ?_
          refine pr_s (pc1 := 7) (st1 := [.int 1, .int 0, .int 0, .int a1]) rfl (fun _ => rfl) ?_
          refine pr_s (pc1 := 8) (st1 := [.int (-1), .int 0, .int a1]) rfl (fun _ => rfl) ?_
          refine pr_callv (N := pm_X10_is) (as := [.int a1, .int 0, .int (-1)]) (rest := []) (f := 2044) (l := 83910) (c1 := 0) (k1 := 0) (c2 := 0) (k2 := 0) (v := some (.int 0)) (h1 := ph_14) rfl (fun _ => rfl) ?_ (Nat.le_of_ble_eq_true rfl) (Nat.le_of_ble_eq_true rfl) ?_
          · refine px_C_of rfl ?_
            refine pr_s (pc1 := 1) (st1 := [.int a1]) rfl (fun _ => rfl) ?_
            refine pr_s (pc1 := 2) (st1 := [.int 0, .int a1]) rfl (fun _ => rfl) ?_
            refine pr_bf (t := 14) (off := 12) (bb := decide (a1 < 0)) (st1 := []) rfl rfl rfl rfl (pb_ltF ha1.1 (show (0 : Int32).toInt ≤ 0 by decide) (by decide)) ?_
            refine pr_s (pc1 := 6) (st1 := [.int a1]) rfl (fun _ => rfl) ?_
            refine pr_s (pc1 := 7) (st1 := [.int (-1), .int a1]) rfl (fun _ => rfl) ?_
            refine pr_bt (t := 14) (off := 7) (bb := decide (((-1) : Int32) < a1)) (st1 := []) rfl rfl rfl rfl (pb_ltT (show ((-1) : Int32).toInt ≤ (-1) by decide) ha1.1 (by decide)) ?_
            refine pr_s (pc1 := 15) (st1 := [.int 0]) rfl (fun _ => rfl) ?_
            exact pr_e rfl (fun _ => rfl) ⟨rfl, rfl⟩
          show px_R _ _ _ _ (11, [(0, .ref 136), (1, .int a1)], [.int 0], _) _ _ _
          exact pr_e rfl (fun _ => rfl) ⟨rfl, rfl⟩
        show px_R _ _ _ _ (6, [(0, .ref 136), (1, .int a1), (2, .int a2)], [.int 0, .ref 136], _) _ _ _
        refine pr_bt (t := 28) (off := 22) (bb := decide ((0 : Int32) = 0)) (st1 := [.ref 136]) rfl rfl rfl rfl (by decide) ?_
        refine pr_s (pc1 := 29) (st1 := [.int 1, .ref 136]) rfl (fun _ => rfl) ?_
        refine pr_putf (pc1 := 32) (h1 := ph_15) rfl rfl pg_20 rfl rfl rfl rfl rfl rfl rfl ?_
        refine pr_s (pc1 := 33) (st1 := [.int 0]) rfl (fun _ => rfl) ?_
        refine pr_s (pc1 := 34) (lv1 := [(3, .int 0), (0, .ref 136), (1, .int a1), (2, .int a2)]) (st1 := []) rfl (fun _ => rfl) ?_
        refine pr_s (pc1 := 35) (st1 := [.ref 136]) rfl (fun _ => rfl) ?_
        refine pr_getf (pc1 := 38) (v := .int 1) rfl rfl pg_21 rfl rfl ?_
        refine pr_bt (t := 63) (off := 25) (bb := !decide ((1 : Int32) = 0)) (st1 := []) rfl rfl rfl rfl (px_not_t (by decide)) ?_
        refine pr_s (pc1 := 64) (st1 := [.int 0]) rfl (fun _ => rfl) ?_
        refine pr_s (pc1 := 65) (st1 := [.int a2, .int 0]) rfl (fun _ => rfl) ?_
        refine pr_s (pc1 := 66) (st1 := [.int (0 + a2)]) rfl (fun _ => rfl) ?_
        exact pr_e rfl (fun _ => rfl) ⟨rfl, rfl⟩
      show px_R _ _ _ _ (6, [(0, .ref 136), (1, .int a1), (2, .int a2), (3, .int a3)], [.int (0 + a2)], _) _ _ _
      refine pr_s (pc1 := 8) (lv1 := [(4, .int (0 + a2)), (0, .ref 136), (1, .int a1), (2, .int a2), (3, .int a3)]) (st1 := []) rfl (fun _ => rfl) ?_
      refine pr_s (pc1 := 9) (st1 := [.ref 136]) rfl (fun _ => rfl) ?_
      refine pr_getf (pc1 := 12) (v := .int 1) rfl rfl pg_21 rfl rfl ?_
      refine pr_bf (t := 17) (off := 5) (bb := decide ((1 : Int32) ≤ 0)) (st1 := []) rfl rfl rfl rfl (by decide) ?_
      refine pr_s (pc1 := 16) (st1 := [.int 0]) rfl (fun _ => rfl) ?_
      exact pr_e rfl (fun _ => rfl) ⟨rfl, rfl⟩
    show px_T _ _ _ _ (2340, [(5, .int 1), (4, .int 0), (3, .ref 164), (2, .ref 136), (1, .ref 0), (0, .retAddr 0)], [.int 0], _) _ _ _
    refine pt_s (pc1 := 2342) (lv1 := [(6, .int 0), (5, .int 1), (4, .int 0), (3, .ref 164), (2, .ref 136), (1, .ref 0), (0, .retAddr 0)]) (st1 := []) rfl rfl (fun _ => rfl) ?_
    refine pt_s (pc1 := 2343) (st1 := [.ref 136]) rfl rfl (fun _ => rfl) ?_
    refine pt_callv (N := pm_X10_thrown) (as := [.ref 136]) (rest := []) (f := 2047) (l := 83980) (c1 := 0) (k1 := 0) (c2 := 599836) (k2 := 7274189) (v := some (.int 1)) (h1 := ph_15) rfl rfl (fun ex => px_inv_hs ex rfl rfl rfl pg_21 rfl rfl rfl rfl) ?_ (Nat.le_of_ble_eq_true rfl) (Nat.le_of_ble_eq_true rfl) ?_
    · refine px_C_of rfl ?_
      refine pr_s (pc1 := 1) (st1 := [.ref 136]) rfl (fun _ => rfl) ?_
      refine pr_getf (pc1 := 4) (v := .int 1) rfl rfl pg_21 rfl rfl ?_
      exact pr_e rfl (fun _ => rfl) ⟨rfl, rfl⟩
    show px_T _ _ _ _ (2346, [(6, .int 0), (5, .int 1), (4, .int 0), (3, .ref 164), (2, .ref 136), (1, .ref 0), (0, .retAddr 0)], [.int 1], _) _ _ _
    refine pt_s (pc1 := 2348) (st1 := [.int 1, .int 1]) rfl rfl (fun _ => rfl) ?_
    refine pt_bt (t := 2353) (off := 5) (bb := decide ((1 : Int32) = 1)) (st1 := []) rfl rfl rfl rfl rfl (by decide) ?_
    refine pt_s (pc1 := 2355) (st1 := [.int 1]) rfl rfl (fun _ => rfl) ?_
    refine pt_bt (t := 2370) (off := 15) (bb := !decide ((1 : Int32) = 0)) (st1 := []) rfl rfl rfl rfl rfl (px_not_t (by decide)) ?_
    refine pt_s (pc1 := 2771) (st1 := []) rfl rfl (fun _ => rfl) ?_
    refine pt_s (pc1 := 2774) (lv1 := [(4, .int 6), (6, .int 0), (5, .int 1), (3, .ref 164), (2, .ref 136), (1, .ref 0), (0, .retAddr 0)]) (st1 := []) rfl rfl (fun _ => rfl) ?_
    refine pt_s (pc1 := 23) (st1 := []) rfl rfl (fun _ => rfl) ?_
    refine pt_s (pc1 := 25) (st1 := [.int 6]) rfl rfl (fun _ => rfl) ?_
    refine pt_s (pc1 := 26) (st1 := [.retAddr 0, .int 6]) rfl rfl (fun _ => rfl) ?_
    refine pt_s (pc1 := 27) (st1 := [.int 6, .int 6]) rfl rfl (fun _ => rfl) ?_
    refine pt_s (pc1 := 29) (st1 := [.int 6, .int 6, .int 6]) rfl rfl (fun _ => rfl) ?_
    refine pt_s (pc1 := 30) (st1 := [.int 0, .int 6]) rfl rfl (fun _ => rfl) ?_
    refine pt_bt (t := 2777) (off := 2747) (bb := decide ((0 : Int32) < (6 : Int32))) (st1 := []) rfl rfl rfl rfl rfl (by decide) ?_
    refine pt_s (pc1 := 2778) (st1 := [.int 1]) rfl rfl (fun _ => rfl) ?_
    exact pt_e rfl ⟨rfl, (rfl : px_ins pm_law 2778 = some (.ireturn, 1))⟩
set_option maxRecDepth 100000 in
set_option maxHeartbeats 40000000 in
theorem px_op_35 (a0 a1 a2 a3 a4 a5 : Int32) : px_T (some [a0, a1, a2, a3, a4, a5]) pm_law 2048 84000 (40, [(4, .int 0), (3, .ref 164), (2, .ref 136), (1, .ref 0), (0, .retAddr 0)], [.int 35], px_hs) 599837 7274195 (fun s1 => s1.2.2.1 = [.int 1] ∧ px_ins pm_law s1.1 = some (.ireturn, 1)) := by
  refine pt_s (pc1 := 2373) (st1 := []) rfl rfl (fun _ => rfl) ?_
  refine pt_s (pc1 := 2374) (st1 := [.ref 0]) rfl rfl (fun _ => rfl) ?_
  refine pt_callv (N := pm_X6_agenda) (as := [.ref 0]) (rest := []) (f := 2047) (l := 83980) (c1 := 0) (k1 := 0) (c2 := 599837) (k2 := 7274195) (v := some (.int 0)) (h1 := px_hs) rfl rfl (fun ex => px_inv_hs ex rfl rfl rfl pg_0 rfl rfl rfl rfl) ?_ (Nat.le_of_ble_eq_true rfl) (Nat.le_of_ble_eq_true rfl) ?_
  · exact px_C_none pc_1 (Nat.le_of_ble_eq_true rfl) (Nat.le_of_ble_eq_true rfl) (Nat.le_of_ble_eq_true rfl) (Nat.le_of_ble_eq_true rfl)
  show px_T _ _ _ _ (2377, [(4, .int 0), (3, .ref 164), (2, .ref 136), (1, .ref 0), (0, .retAddr 0)], [.int 0], _) _ _ _
  refine pt_s (pc1 := 2378) (st1 := [.ref 136, .int 0]) rfl rfl (fun _ => rfl) ?_
  refine pt_callv (N := pm_X10_agenda) (as := [.ref 136]) (rest := [.int 0]) (f := 2047) (l := 83980) (c1 := 0) (k1 := 0) (c2 := 599837) (k2 := 7274195) (v := some (.int 0)) (h1 := px_hs) rfl rfl (fun ex => px_inv_hs ex rfl rfl rfl pg_1 rfl rfl rfl rfl) ?_ (Nat.le_of_ble_eq_true rfl) (Nat.le_of_ble_eq_true rfl) ?_
  · refine px_C_of rfl ?_
    refine pr_s (pc1 := 1) (st1 := [.ref 136]) rfl (fun _ => rfl) ?_
    refine pr_s (pc1 := 2) (st1 := [.int 0, .ref 136]) rfl (fun _ => rfl) ?_
    refine pr_putf (pc1 := 5) (h1 := px_hs) rfl rfl pg_1 rfl rfl rfl rfl rfl (px_set_same pg_1 rfl) rfl ?_
    refine pr_s (pc1 := 6) (st1 := [.ref 136]) rfl (fun _ => rfl) ?_
    refine pr_getf (pc1 := 9) (v := .ref 138) rfl rfl pg_1 rfl rfl ?_
    refine pr_callv (N := pm_X9_agenda) (as := [.ref 138]) (rest := []) (f := 2046) (l := 83958) (c1 := 0) (k1 := 0) (c2 := 0) (k2 := 0) (v := some (.int 0)) (h1 := px_hs) rfl (fun ex => px_inv_hs ex rfl rfl rfl pg_66 rfl rfl rfl rfl) ?_ (Nat.le_of_ble_eq_true rfl) (Nat.le_of_ble_eq_true rfl) ?_
    · refine px_C_of rfl ?_
      refine pr_s (pc1 := 1) (st1 := [.int 0]) rfl (fun _ => rfl) ?_
      refine pr_s (pc1 := 2) (lv1 := [(1, .int 0), (0, .ref 138)]) (st1 := []) rfl (fun _ => rfl) ?_
      refine pr_s (pc1 := 3) (st1 := [.int 0]) rfl (fun _ => rfl) ?_
      refine pr_s (pc1 := 4) (lv1 := [(2, .int 0), (1, .int 0), (0, .ref 138)]) (st1 := []) rfl (fun _ => rfl) ?_
      refine pr_s (pc1 := 5) (st1 := [.int 0]) rfl (fun _ => rfl) ?_
      refine pr_s (pc1 := 6) (st1 := [.ref 138, .int 0]) rfl (fun _ => rfl) ?_
      refine pr_getf (pc1 := 9) (v := .ref 143) rfl rfl pg_66 rfl rfl ?_
      refine pr_getf (pc1 := 12) (v := .int 0) rfl rfl pg_87 rfl rfl ?_
      refine pr_bt (t := 35) (off := 23) (bb := decide ((0 : Int32) ≤ (0 : Int32))) (st1 := []) rfl rfl rfl rfl (by decide) ?_
      refine pr_s (pc1 := 36) (st1 := [.int 0]) rfl (fun _ => rfl) ?_
      exact pr_e rfl (fun _ => rfl) ⟨rfl, rfl⟩
    show px_R _ _ _ _ (12, [(0, .ref 136)], [.int 0], _) _ _ _
    exact pr_e rfl (fun _ => rfl) ⟨rfl, rfl⟩
  show px_T _ _ _ _ (2381, [(4, .int 0), (3, .ref 164), (2, .ref 136), (1, .ref 0), (0, .retAddr 0)], [.int 0, .int 0], _) _ _ _
  refine pt_bt (t := 2771) (off := 390) (bb := decide ((0 : Int32) = 0)) (st1 := []) rfl rfl rfl rfl rfl (by decide) ?_
  refine pt_s (pc1 := 2774) (lv1 := [(4, .int 6), (3, .ref 164), (2, .ref 136), (1, .ref 0), (0, .retAddr 0)]) (st1 := []) rfl rfl (fun _ => rfl) ?_
  refine pt_s (pc1 := 23) (st1 := []) rfl rfl (fun _ => rfl) ?_
  refine pt_s (pc1 := 25) (st1 := [.int 6]) rfl rfl (fun _ => rfl) ?_
  refine pt_s (pc1 := 26) (st1 := [.retAddr 0, .int 6]) rfl rfl (fun _ => rfl) ?_
  refine pt_s (pc1 := 27) (st1 := [.int 6, .int 6]) rfl rfl (fun _ => rfl) ?_
  refine pt_s (pc1 := 29) (st1 := [.int 6, .int 6, .int 6]) rfl rfl (fun _ => rfl) ?_
  refine pt_s (pc1 := 30) (st1 := [.int 0, .int 6]) rfl rfl (fun _ => rfl) ?_
  refine pt_bt (t := 2777) (off := 2747) (bb := decide ((0 : Int32) < (6 : Int32))) (st1 := []) rfl rfl rfl rfl rfl (by decide) ?_
  refine pt_s (pc1 := 2778) (st1 := [.int 1]) rfl rfl (fun _ => rfl) ?_
  exact pt_e rfl ⟨rfl, (rfl : px_ins pm_law 2778 = some (.ireturn, 1))⟩
set_option maxRecDepth 100000 in
set_option maxHeartbeats 40000000 in
theorem px_op_36 (a0 a1 a2 a3 a4 a5 : Int32) : px_T (some [a0, a1, a2, a3, a4, a5]) pm_law 2048 84000 (40, [(4, .int 0), (3, .ref 164), (2, .ref 136), (1, .ref 0), (0, .retAddr 0)], [.int 36], px_hs) 599837 7274195 (fun s1 => s1.2.2.1 = [.int 1] ∧ px_ins pm_law s1.1 = some (.ireturn, 1)) := by
  refine pt_s (pc1 := 2386) (st1 := []) rfl rfl (fun _ => rfl) ?_
  refine pt_s (pc1 := 2387) (st1 := [.ref 0]) rfl rfl (fun _ => rfl) ?_
  refine pt_callv (N := pm_X6_nextRule) (as := [.ref 0]) (rest := []) (f := 2047) (l := 83979) (c1 := 0) (k1 := 0) (c2 := 599837) (k2 := 7274195) (v := some (.int (-1))) (h1 := px_hs) rfl rfl (fun ex => px_inv_hs ex rfl rfl rfl pg_0 rfl rfl rfl rfl) ?_ (Nat.le_of_ble_eq_true rfl) (Nat.le_of_ble_eq_true rfl) ?_
  · exact px_C_none pc_2 (Nat.le_of_ble_eq_true rfl) (Nat.le_of_ble_eq_true rfl) (Nat.le_of_ble_eq_true rfl) (Nat.le_of_ble_eq_true rfl)
  show px_T _ _ _ _ (2390, [(4, .int 0), (3, .ref 164), (2, .ref 136), (1, .ref 0), (0, .retAddr 0)], [.int (-1)], _) _ _ _
  refine pt_s (pc1 := 2391) (st1 := [.ref 136, .int (-1)]) rfl rfl (fun _ => rfl) ?_
  refine pt_callv (N := pm_X10_nextRule) (as := [.ref 136]) (rest := [.int (-1)]) (f := 2047) (l := 83980) (c1 := 0) (k1 := 0) (c2 := 599837) (k2 := 7274195) (v := some (.int (-1))) (h1 := px_hs) rfl rfl (fun ex => px_inv_hs ex rfl rfl rfl pg_1 rfl rfl rfl rfl) ?_ (Nat.le_of_ble_eq_true rfl) (Nat.le_of_ble_eq_true rfl) ?_
  · refine px_C_of rfl ?_
    refine pr_s (pc1 := 1) (st1 := [.ref 136]) rfl (fun _ => rfl) ?_
    refine pr_s (pc1 := 2) (st1 := [.int 0, .ref 136]) rfl (fun _ => rfl) ?_
    refine pr_putf (pc1 := 5) (h1 := px_hs) rfl rfl pg_1 rfl rfl rfl rfl rfl (px_set_same pg_1 rfl) rfl ?_
    refine pr_s (pc1 := 6) (st1 := [.ref 136]) rfl (fun _ => rfl) ?_
    refine pr_s (pc1 := 7) (st1 := [.int 0, .ref 136]) rfl (fun _ => rfl) ?_
    refine pr_callv (N := pm_X10_ofFirst) (as := [.ref 136, .int 0]) (rest := []) (f := 2046) (l := 83958) (c1 := 0) (k1 := 0) (c2 := 0) (k2 := 0) (v := some (.int (-1))) (h1 := px_hs) rfl (fun ex => px_inv_hs ex rfl rfl rfl pg_1 rfl rfl rfl rfl) ?_ (Nat.le_of_ble_eq_true rfl) (Nat.le_of_ble_eq_true rfl) ?_
    · refine px_C_of rfl ?_
      refine pr_s (pc1 := 1) (st1 := [.ref 136]) rfl (fun _ => rfl) ?_
      refine pr_getf (pc1 := 4) (v := .ref 138) rfl rfl pg_1 rfl rfl ?_
      refine pr_callv (N := pm_X9_first) (as := [.ref 138]) (rest := []) (f := 2045) (l := 83936) (c1 := 0) (k1 := 0) (c2 := 0) (k2 := 0) (v := some (.int (-1))) (h1 := px_hs) rfl (fun ex => px_inv_hs ex rfl rfl rfl pg_66 rfl rfl rfl rfl) ?_ (Nat.le_of_ble_eq_true rfl) (Nat.le_of_ble_eq_true rfl) ?_
      · refine px_C_of rfl ?_
        refine pr_s (pc1 := 1) (st1 := [.int (-1)]) rfl (fun _ => rfl) ?_
        refine pr_s (pc1 := 2) (lv1 := [(1, .int (-1)), (0, .ref 138)]) (st1 := []) rfl (fun _ => rfl) ?_
        refine pr_s (pc1 := 3) (st1 := [.int 0]) rfl (fun _ => rfl) ?_
        refine pr_s (pc1 := 4) (lv1 := [(2, .int 0), (1, .int (-1)), (0, .ref 138)]) (st1 := []) rfl (fun _ => rfl) ?_
        refine pr_s (pc1 := 5) (st1 := [.int 0]) rfl (fun _ => rfl) ?_
        refine pr_s (pc1 := 6) (st1 := [.ref 138, .int 0]) rfl (fun _ => rfl) ?_
        refine pr_getf (pc1 := 9) (v := .ref 143) rfl rfl pg_66 rfl rfl ?_
        refine pr_getf (pc1 := 12) (v := .int 0) rfl rfl pg_87 rfl rfl ?_
        refine pr_bt (t := 49) (off := 37) (bb := decide ((0 : Int32) ≤ (0 : Int32))) (st1 := []) rfl rfl rfl rfl (by decide) ?_
        refine pr_s (pc1 := 50) (st1 := [.int (-1)]) rfl (fun _ => rfl) ?_
        exact pr_e rfl (fun _ => rfl) ⟨rfl, rfl⟩
      show px_R _ _ _ _ (7, [(0, .ref 136), (1, .int 0)], [.int (-1)], _) _ _ _
      refine pr_s (pc1 := 8) (lv1 := [(2, .int (-1)), (0, .ref 136), (1, .int 0)]) (st1 := []) rfl (fun _ => rfl) ?_
      refine pr_s (pc1 := 9) (st1 := [.int (-1)]) rfl (fun _ => rfl) ?_
      refine pr_s (pc1 := 10) (st1 := [.int (-1), .int (-1)]) rfl (fun _ => rfl) ?_
      refine pr_bf (t := 17) (off := 7) (bb := !decide (((-1) : Int32) = (-1))) (st1 := []) rfl rfl rfl rfl (px_not_f (by decide)) ?_
      refine pr_s (pc1 := 14) (st1 := [.int (-1)]) rfl (fun _ => rfl) ?_
      refine pr_s (pc1 := 29) (st1 := [.int (-1)]) rfl (fun _ => rfl) ?_
      exact pr_e rfl (fun _ => rfl) ⟨rfl, rfl⟩
    show px_R _ _ _ _ (10, [(0, .ref 136)], [.int (-1)], _) _ _ _
    exact pr_e rfl (fun _ => rfl) ⟨rfl, rfl⟩
  show px_T _ _ _ _ (2394, [(4, .int 0), (3, .ref 164), (2, .ref 136), (1, .ref 0), (0, .retAddr 0)], [.int (-1), .int (-1)], _) _ _ _
  refine pt_bt (t := 2771) (off := 377) (bb := decide (((-1) : Int32) = (-1))) (st1 := []) rfl rfl rfl rfl rfl (by decide) ?_
  refine pt_s (pc1 := 2774) (lv1 := [(4, .int 6), (3, .ref 164), (2, .ref 136), (1, .ref 0), (0, .retAddr 0)]) (st1 := []) rfl rfl (fun _ => rfl) ?_
  refine pt_s (pc1 := 23) (st1 := []) rfl rfl (fun _ => rfl) ?_
  refine pt_s (pc1 := 25) (st1 := [.int 6]) rfl rfl (fun _ => rfl) ?_
  refine pt_s (pc1 := 26) (st1 := [.retAddr 0, .int 6]) rfl rfl (fun _ => rfl) ?_
  refine pt_s (pc1 := 27) (st1 := [.int 6, .int 6]) rfl rfl (fun _ => rfl) ?_
  refine pt_s (pc1 := 29) (st1 := [.int 6, .int 6, .int 6]) rfl rfl (fun _ => rfl) ?_
  refine pt_s (pc1 := 30) (st1 := [.int 0, .int 6]) rfl rfl (fun _ => rfl) ?_
  refine pt_bt (t := 2777) (off := 2747) (bb := decide ((0 : Int32) < (6 : Int32))) (st1 := []) rfl rfl rfl rfl rfl (by decide) ?_
  refine pt_s (pc1 := 2778) (st1 := [.int 1]) rfl rfl (fun _ => rfl) ?_
  exact pt_e rfl ⟨rfl, (rfl : px_ins pm_law 2778 = some (.ireturn, 1))⟩
set_option maxRecDepth 100000 in
set_option maxHeartbeats 40000000 in
theorem px_op_37 (a0 a1 a2 a3 a4 a5 : Int32) : px_T (some [a0, a1, a2, a3, a4, a5]) pm_law 2048 84000 (40, [(4, .int 0), (3, .ref 164), (2, .ref 136), (1, .ref 0), (0, .retAddr 0)], [.int 37], px_hs) 599837 7274195 (fun s1 => s1.2.2.1 = [.int 1] ∧ px_ins pm_law s1.1 = some (.ireturn, 1)) := by
  have ha1 : (-2147483648) ≤ a1.toInt ∧ a1.toInt ≤ 2147483647 := ⟨Int32.le_toInt a1, Int32.toInt_le a1⟩
  by_cases hs : a1.toInt < 0
  · have ha1 : (-2147483648) ≤ a1.toInt ∧ a1.toInt ≤ (-1) := ⟨ha1.1, by omega⟩
    refine pt_s (pc1 := 2399) (st1 := []) rfl rfl (fun _ => rfl) ?_
    refine pt_s (pc1 := 2400) (st1 := [.ref 0]) rfl rfl (fun _ => rfl) ?_
    refine pt_s (pc1 := 2401) (st1 := [.retAddr 0, .ref 0]) rfl rfl (fun _ => rfl) ?_
    refine pt_s (pc1 := 2403) (st1 := [.int 0, .retAddr 0, .ref 0]) rfl rfl (fun _ => rfl) ?_
    refine pt_s (pc1 := 2404) (st1 := [.int 1, .int 0, .retAddr 0, .ref 0]) rfl rfl (fun _ => rfl) ?_
    refine pt_s (pc1 := 2405) (st1 := [.int 1, .retAddr 0, .ref 0]) rfl rfl (fun _ => rfl) ?_
    refine pt_s (pc1 := 2406) (st1 := [.int a1, .ref 0]) rfl rfl (fun _ => rfl) ?_
    refine pt_callv (N := pm_X6_nextFact) (as := [.ref 0, .int a1]) (rest := []) (f := 2047) (l := 83979) (c1 := 0) (k1 := 0) (c2 := 599837) (k2 := 7274195) (v := some (.int (-1))) (h1 := px_hs) rfl rfl (fun ex => px_inv_hs ex rfl rfl rfl pg_0 rfl rfl rfl rfl) ?_ (Nat.le_of_ble_eq_true rfl) (Nat.le_of_ble_eq_true rfl) ?_
    · refine px_C_of rfl ?_
      refine pr_s (pc1 := 1) (st1 := [.ref 0]) rfl (fun _ => rfl) ?_
      refine pr_getf (pc1 := 4) (v := .ref 92) rfl rfl pg_0 rfl rfl ?_
      refine pr_s (pc1 := 5) (st1 := [.ref 0, .ref 92]) rfl (fun _ => rfl) ?_
      refine pr_getf (pc1 := 8) (v := .ref 92) rfl rfl pg_0 rfl rfl ?_
      refine pr_callv (N := pm_X5_firstWaiting) (as := [.ref 92]) (rest := [.ref 92]) (f := 2046) (l := 83955) (c1 := 0) (k1 := 0) (c2 := 0) (k2 := 0) (v := some (.int (-1))) (h1 := px_hs) rfl (fun ex => px_inv_hs ex rfl rfl rfl pg_22 rfl rfl rfl rfl) ?_ (Nat.le_of_ble_eq_true rfl) (Nat.le_of_ble_eq_true rfl) ?_
      · exact px_C_none pc_0 (Nat.le_of_ble_eq_true rfl) (Nat.le_of_ble_eq_true rfl) (Nat.le_of_ble_eq_true rfl) (Nat.le_of_ble_eq_true rfl)
      show px_R _ _ _ _ (11, [(0, .ref 0), (1, .int a1)], [.int (-1), .ref 92], _) _ _ _
      refine pr_s (pc1 := 12) (st1 := [.int a1, .int (-1), .ref 92]) rfl (fun _ => rfl) ?_
      refine pr_callv (N := pm_X5_factAt) (as := [.ref 92, .int (-1), .int a1]) (rest := []) (f := 2046) (l := 83957) (c1 := 0) (k1 := 0) (c2 := 0) (k2 := 0) (v := some (.int (-1))) (h1 := px_hs) rfl (fun ex => px_inv_hs ex rfl rfl rfl pg_22 rfl rfl rfl rfl) ?_ (Nat.le_of_ble_eq_true rfl) (Nat.le_of_ble_eq_true rfl) ?_
      · refine px_C_of rfl ?_
        refine pr_s (pc1 := 1) (st1 := [.ref 92]) rfl (fun _ => rfl) ?_
        refine pr_getf (pc1 := 4) (v := .ref 93) rfl rfl pg_22 rfl rfl ?_
        refine pr_s (pc1 := 5) (st1 := [.ref 92, .ref 93]) rfl (fun _ => rfl) ?_
        refine pr_getf (pc1 := 8) (v := .ref 99) rfl rfl pg_22 rfl rfl ?_
        refine pr_s (pc1 := 9) (st1 := [.int (-1), .ref 99, .ref 93]) rfl (fun _ => rfl) ?_
        refine pr_s (pc1 := 10) (st1 := [.int a1, .int (-1), .ref 99, .ref 93]) rfl (fun _ => rfl) ?_
        refine pr_callv (N := pm_X3_placeAt) (as := [.ref 99, .int (-1), .int a1]) (rest := [.ref 93]) (f := 2045) (l := 83935) (c1 := 0) (k1 := 0) (c2 := 0) (k2 := 0) (v := some (.int (-1))) (h1 := px_hs) rfl (fun ex => px_inv_hs ex rfl rfl rfl pg_513 rfl rfl rfl rfl) ?_ (Nat.le_of_ble_eq_true rfl) (Nat.le_of_ble_eq_true rfl) ?_
        · refine px_C_of rfl ?_
          refine pr_s (pc1 := 1) (st1 := [.int (-1)]) rfl (fun _ => rfl) ?_
          refine pr_callv (N := pm_X3_isMatch) (as := [.int (-1)]) (rest := []) (f := 2044) (l := 83915) (c1 := 0) (k1 := 0) (c2 := 0) (k2 := 0) (v := some (.int 0)) (h1 := px_hs) rfl (fun _ => rfl) ?_ (Nat.le_of_ble_eq_true rfl) (Nat.le_of_ble_eq_true rfl) ?_
          · refine px_C_of rfl ?_
            refine pr_s (pc1 := 1) (st1 := [.int (-1)]) rfl (fun _ => rfl) ?_
            refine pr_bt (t := 15) (off := 14) (bb := decide (((-1) : Int32) < 0)) (st1 := []) rfl rfl rfl rfl (by decide) ?_
            refine pr_s (pc1 := 16) (st1 := [.int 0]) rfl (fun _ => rfl) ?_
            exact pr_e rfl (fun _ => rfl) ⟨rfl, rfl⟩
          show px_R _ _ _ _ (4, [(0, .ref 99), (1, .int (-1)), (2, .int a1)], [.int 0], _) _ _ _
          refine pr_bt (t := 29) (off := 25) (bb := decide ((0 : Int32) = 0)) (st1 := []) rfl rfl rfl rfl (by decide) ?_
          refine pr_s (pc1 := 30) (st1 := [.int (-1)]) rfl (fun _ => rfl) ?_
          exact pr_e rfl (fun _ => rfl) ⟨rfl, rfl⟩
        show px_R _ _ _ _ (13, [(0, .ref 92), (1, .int (-1)), (2, .int a1)], [.int (-1), .ref 93], _) _ _ _
        refine pr_callv (N := pm_X2_numberAt) (as := [.ref 93, .int (-1)]) (rest := []) (f := 2045) (l := 83936) (c1 := 0) (k1 := 0) (c2 := 0) (k2 := 0) (v := some (.int (-1))) (h1 := px_hs) rfl (fun ex => px_inv_hs ex rfl rfl rfl pg_23 rfl rfl rfl rfl) ?_ (Nat.le_of_ble_eq_true rfl) (Nat.le_of_ble_eq_true rfl) ?_
        · refine px_C_of rfl ?_
          refine pr_s (pc1 := 1) (st1 := [.int (-1)]) rfl (fun _ => rfl) ?_
          refine pr_bt (t := 19) (off := 18) (bb := decide (((-1) : Int32) < 0)) (st1 := []) rfl rfl rfl rfl (by decide) ?_
          refine pr_s (pc1 := 20) (st1 := [.int (-1)]) rfl (fun _ => rfl) ?_
          exact pr_e rfl (fun _ => rfl) ⟨rfl, rfl⟩
        show px_R _ _ _ _ (16, [(0, .ref 92), (1, .int (-1)), (2, .int a1)], [.int (-1)], _) _ _ _
        exact pr_e rfl (fun _ => rfl) ⟨rfl, rfl⟩
      show px_R _ _ _ _ (15, [(0, .ref 0), (1, .int a1)], [.int (-1)], _) _ _ _
      exact pr_e rfl (fun _ => rfl) ⟨rfl, rfl⟩
    show px_T _ _ _ _ (2409, [(4, .int 0), (3, .ref 164), (2, .ref 136), (1, .ref 0), (0, .retAddr 0)], [.int (-1)], _) _ _ _
    refine pt_s (pc1 := 2410) (st1 := [.ref 136, .int (-1)]) rfl rfl (fun _ => rfl) ?_
    refine pt_s (pc1 := 2411) (st1 := [.retAddr 0, .ref 136, .int (-1)]) rfl rfl (fun _ => rfl) ?_
    refine pt_s (pc1 := 2413) (st1 := [.int 0, .retAddr 0, .ref 136, .int (-1)]) rfl rfl (fun _ => rfl) ?_
    refine pt_s (pc1 := 2414) (st1 := [.int 1, .int 0, .retAddr 0, .ref 136, .int (-1)]) rfl rfl (fun _ => rfl) ?_
    refine pt_s (pc1 := 2415) (st1 := [.int 1, .retAddr 0, .ref 136, .int (-1)]) rfl rfl (fun _ => rfl) ?_
    refine pt_s (pc1 := 2416) (st1 := [.int a1, .ref 136, .int (-1)]) rfl rfl (fun _ => rfl) ?_
    refine pt_callv (N := pm_X10_nextFact) (as := [.ref 136, .int a1]) (rest := [.int (-1)]) (f := 2047) (l := 83979) (c1 := 0) (k1 := 0) (c2 := 599837) (k2 := 7274195) (v := some (.int (-1))) (h1 := px_hs) rfl rfl (fun ex => px_inv_hs ex rfl rfl rfl pg_1 rfl rfl rfl rfl) ?_ (Nat.le_of_ble_eq_true rfl) (Nat.le_of_ble_eq_true rfl) ?_
    · refine px_C_of rfl ?_
      refine pr_s (pc1 := 1) (st1 := [.ref 136]) rfl (fun _ => rfl) ?_
      refine pr_s (pc1 := 2) (st1 := [.int 0, .ref 136]) rfl (fun _ => rfl) ?_
      refine pr_putf (pc1 := 5) (h1 := px_hs) rfl rfl pg_1 rfl rfl rfl rfl rfl (px_set_same pg_1 rfl) rfl ?_
      refine pr_s (pc1 := 6) (st1 := [.int a1]) rfl (fun _ => rfl) ?_
      refine pr_s (pc1 := 7) (st1 := [.int 0, .int a1]) rfl (fun _ => rfl) ?_
      refine pr_s (pc1 := 8) (st1 := [.int 2, .int 0, .int a1]) rfl (fun _ => rfl) ?_
      refine pr_callv (N := pm_X10_is) (as := [.int a1, .int 0, .int 2]) (rest := []) (f := 2046) (l := 83957) (c1 := 0) (k1 := 0) (c2 := 0) (k2 := 0) (v := some (.int 0)) (h1 := px_hs) rfl (fun _ => rfl) ?_ (Nat.le_of_ble_eq_true rfl) (Nat.le_of_ble_eq_true rfl) ?_
      · refine px_C_of rfl ?_
        refine pr_s (pc1 := 1) (st1 := [.int a1]) rfl (fun _ => rfl) ?_
        refine pr_s (pc1 := 2) (st1 := [.int 0, .int a1]) rfl (fun _ => rfl) ?_
        refine pr_bt (t := 14) (off := 12) (bb := decide (a1 < 0)) (st1 := []) rfl rfl rfl rfl (pb_ltT ha1.2 (show 0 ≤ (0 : Int32).toInt by decide) (by decide)) ?_
        refine pr_s (pc1 := 15) (st1 := [.int 0]) rfl (fun _ => rfl) ?_
        exact pr_e rfl (fun _ => rfl) ⟨rfl, rfl⟩
      show px_R _ _ _ _ (11, [(0, .ref 136), (1, .int a1)], [.int 0], _) _ _ _
      refine pr_bt (t := 24) (off := 13) (bb := decide ((0 : Int32) = 0)) (st1 := []) rfl rfl rfl rfl (by decide) ?_
      refine pr_s (pc1 := 25) (st1 := [.int (-1)]) rfl (fun _ => rfl) ?_
      exact pr_e rfl (fun _ => rfl) ⟨rfl, rfl⟩
    show px_T _ _ _ _ (2419, [(4, .int 0), (3, .ref 164), (2, .ref 136), (1, .ref 0), (0, .retAddr 0)], [.int (-1), .int (-1)], _) _ _ _
    refine pt_bt (t := 2771) (off := 352) (bb := decide (((-1) : Int32) = (-1))) (st1 := []) rfl rfl rfl rfl rfl (by decide) ?_
    refine pt_s (pc1 := 2774) (lv1 := [(4, .int 6), (3, .ref 164), (2, .ref 136), (1, .ref 0), (0, .retAddr 0)]) (st1 := []) rfl rfl (fun _ => rfl) ?_
    refine pt_s (pc1 := 23) (st1 := []) rfl rfl (fun _ => rfl) ?_
    refine pt_s (pc1 := 25) (st1 := [.int 6]) rfl rfl (fun _ => rfl) ?_
    refine pt_s (pc1 := 26) (st1 := [.retAddr 0, .int 6]) rfl rfl (fun _ => rfl) ?_
    refine pt_s (pc1 := 27) (st1 := [.int 6, .int 6]) rfl rfl (fun _ => rfl) ?_
    refine pt_s (pc1 := 29) (st1 := [.int 6, .int 6, .int 6]) rfl rfl (fun _ => rfl) ?_
    refine pt_s (pc1 := 30) (st1 := [.int 0, .int 6]) rfl rfl (fun _ => rfl) ?_
    refine pt_bt (t := 2777) (off := 2747) (bb := decide ((0 : Int32) < (6 : Int32))) (st1 := []) rfl rfl rfl rfl rfl (by decide) ?_
    refine pt_s (pc1 := 2778) (st1 := [.int 1]) rfl rfl (fun _ => rfl) ?_
    exact pt_e rfl ⟨rfl, (rfl : px_ins pm_law 2778 = some (.ireturn, 1))⟩
  · have ha1 : 0 ≤ a1.toInt ∧ a1.toInt ≤ 2147483647 := ⟨by omega, ha1.2⟩
    by_cases hs : a1.toInt < 3
    · have ha1 : 0 ≤ a1.toInt ∧ a1.toInt ≤ 2 := ⟨ha1.1, by omega⟩
      refine pt_s (pc1 := 2399) (st1 := []) rfl rfl (fun _ => rfl) ?_
      refine pt_s (pc1 := 2400) (st1 := [.ref 0]) rfl rfl (fun _ => rfl) ?_
      refine pt_s (pc1 := 2401) (st1 := [.retAddr 0, .ref 0]) rfl rfl (fun _ => rfl) ?_
      refine pt_s (pc1 := 2403) (st1 := [.int 0, .retAddr 0, .ref 0]) rfl rfl (fun _ => rfl) ?_
      refine pt_s (pc1 := 2404) (st1 := [.int 1, .int 0, .retAddr 0, .ref 0]) rfl rfl (fun _ => rfl) ?_
      refine pt_s (pc1 := 2405) (st1 := [.int 1, .retAddr 0, .ref 0]) rfl rfl (fun _ => rfl) ?_
      refine pt_s (pc1 := 2406) (st1 := [.int a1, .ref 0]) rfl rfl (fun _ => rfl) ?_
      refine pt_callv (N := pm_X6_nextFact) (as := [.ref 0, .int a1]) (rest := []) (f := 2047) (l := 83979) (c1 := 0) (k1 := 0) (c2 := 599837) (k2 := 7274195) (v := some (.int (-1))) (h1 := px_hs) rfl rfl (fun ex => px_inv_hs ex rfl rfl rfl pg_0 rfl rfl rfl rfl) ?_ (Nat.le_of_ble_eq_true rfl) (Nat.le_of_ble_eq_true rfl) ?_
      · refine px_C_of rfl ?_
        refine pr_s (pc1 := 1) (st1 := [.ref 0]) rfl (fun _ => rfl) ?_
        refine pr_getf (pc1 := 4) (v := .ref 92) rfl rfl pg_0 rfl rfl ?_
        refine pr_s (pc1 := 5) (st1 := [.ref 0, .ref 92]) rfl (fun _ => rfl) ?_
        refine pr_getf (pc1 := 8) (v := .ref 92) rfl rfl pg_0 rfl rfl ?_
        refine pr_callv (N := pm_X5_firstWaiting) (as := [.ref 92]) (rest := [.ref 92]) (f := 2046) (l := 83955) (c1 := 0) (k1 := 0) (c2 := 0) (k2 := 0) (v := some (.int (-1))) (h1 := px_hs) rfl (fun ex => px_inv_hs ex rfl rfl rfl pg_22 rfl rfl rfl rfl) ?_ (Nat.le_of_ble_eq_true rfl) (Nat.le_of_ble_eq_true rfl) ?_
        · exact px_C_none pc_0 (Nat.le_of_ble_eq_true rfl) (Nat.le_of_ble_eq_true rfl) (Nat.le_of_ble_eq_true rfl) (Nat.le_of_ble_eq_true rfl)
        show px_R _ _ _ _ (11, [(0, .ref 0), (1, .int a1)], [.int (-1), .ref 92], _) _ _ _
        refine pr_s (pc1 := 12) (st1 := [.int a1, .int (-1), .ref 92]) rfl (fun _ => rfl) ?_
        refine pr_callv (N := pm_X5_factAt) (as := [.ref 92, .int (-1), .int a1]) (rest := []) (f := 2046) (l := 83957) (c1 := 0) (k1 := 0) (c2 := 0) (k2 := 0) (v := some (.int (-1))) (h1 := px_hs) rfl (fun ex => px_inv_hs ex rfl rfl rfl pg_22 rfl rfl rfl rfl) ?_ (Nat.le_of_ble_eq_true rfl) (Nat.le_of_ble_eq_true rfl) ?_
        · refine px_C_of rfl ?_
          refine pr_s (pc1 := 1) (st1 := [.ref 92]) rfl (fun _ => rfl) ?_
          refine pr_getf (pc1 := 4) (v := .ref 93) rfl rfl pg_22 rfl rfl ?_
          refine pr_s (pc1 := 5) (st1 := [.ref 92, .ref 93]) rfl (fun _ => rfl) ?_
          refine pr_getf (pc1 := 8) (v := .ref 99) rfl rfl pg_22 rfl rfl ?_
          refine pr_s (pc1 := 9) (st1 := [.int (-1), .ref 99, .ref 93]) rfl (fun _ => rfl) ?_
          refine pr_s (pc1 := 10) (st1 := [.int a1, .int (-1), .ref 99, .ref 93]) rfl (fun _ => rfl) ?_
          refine pr_callv (N := pm_X3_placeAt) (as := [.ref 99, .int (-1), .int a1]) (rest := [.ref 93]) (f := 2045) (l := 83935) (c1 := 0) (k1 := 0) (c2 := 0) (k2 := 0) (v := some (.int (-1))) (h1 := px_hs) rfl (fun ex => px_inv_hs ex rfl rfl rfl pg_513 rfl rfl rfl rfl) ?_ (Nat.le_of_ble_eq_true rfl) (Nat.le_of_ble_eq_true rfl) ?_
          · refine px_C_of rfl ?_
            refine pr_s (pc1 := 1) (st1 := [.int (-1)]) rfl (fun _ => rfl) ?_
            refine pr_callv (N := pm_X3_isMatch) (as := [.int (-1)]) (rest := []) (f := 2044) (l := 83915) (c1 := 0) (k1 := 0) (c2 := 0) (k2 := 0) (v := some (.int 0)) (h1 := px_hs) rfl (fun _ => rfl) ?_ (Nat.le_of_ble_eq_true rfl) (Nat.le_of_ble_eq_true rfl) ?_
            · refine px_C_of rfl ?_
              refine pr_s (pc1 := 1) (st1 := [.int (-1)]) rfl (fun _ => rfl) ?_
              refine pr_bt (t := 15) (off := 14) (bb := decide (((-1) : Int32) < 0)) (st1 := []) rfl rfl rfl rfl (by decide) ?_
              refine pr_s (pc1 := 16) (st1 := [.int 0]) rfl (fun _ => rfl) ?_
              exact pr_e rfl (fun _ => rfl) ⟨rfl, rfl⟩
            show px_R _ _ _ _ (4, [(0, .ref 99), (1, .int (-1)), (2, .int a1)], [.int 0], _) _ _ _
            refine pr_bt (t := 29) (off := 25) (bb := decide ((0 : Int32) = 0)) (st1 := []) rfl rfl rfl rfl (by decide) ?_
            refine pr_s (pc1 := 30) (st1 := [.int (-1)]) rfl (fun _ => rfl) ?_
            exact pr_e rfl (fun _ => rfl) ⟨rfl, rfl⟩
          show px_R _ _ _ _ (13, [(0, .ref 92), (1, .int (-1)), (2, .int a1)], [.int (-1), .ref 93], _) _ _ _
          refine pr_callv (N := pm_X2_numberAt) (as := [.ref 93, .int (-1)]) (rest := []) (f := 2045) (l := 83936) (c1 := 0) (k1 := 0) (c2 := 0) (k2 := 0) (v := some (.int (-1))) (h1 := px_hs) rfl (fun ex => px_inv_hs ex rfl rfl rfl pg_23 rfl rfl rfl rfl) ?_ (Nat.le_of_ble_eq_true rfl) (Nat.le_of_ble_eq_true rfl) ?_
          · refine px_C_of rfl ?_
            refine pr_s (pc1 := 1) (st1 := [.int (-1)]) rfl (fun _ => rfl) ?_
            refine pr_bt (t := 19) (off := 18) (bb := decide (((-1) : Int32) < 0)) (st1 := []) rfl rfl rfl rfl (by decide) ?_
            refine pr_s (pc1 := 20) (st1 := [.int (-1)]) rfl (fun _ => rfl) ?_
            exact pr_e rfl (fun _ => rfl) ⟨rfl, rfl⟩
          show px_R _ _ _ _ (16, [(0, .ref 92), (1, .int (-1)), (2, .int a1)], [.int (-1)], _) _ _ _
          exact pr_e rfl (fun _ => rfl) ⟨rfl, rfl⟩
        show px_R _ _ _ _ (15, [(0, .ref 0), (1, .int a1)], [.int (-1)], _) _ _ _
        exact pr_e rfl (fun _ => rfl) ⟨rfl, rfl⟩
      show px_T _ _ _ _ (2409, [(4, .int 0), (3, .ref 164), (2, .ref 136), (1, .ref 0), (0, .retAddr 0)], [.int (-1)], _) _ _ _
      refine pt_s (pc1 := 2410) (st1 := [.ref 136, .int (-1)]) rfl rfl (fun _ => rfl) ?_
      refine pt_s (pc1 := 2411) (st1 := [.retAddr 0, .ref 136, .int (-1)]) rfl rfl (fun _ => rfl) ?_
      refine pt_s (pc1 := 2413) (st1 := [.int 0, .retAddr 0, .ref 136, .int (-1)]) rfl rfl (fun _ => rfl) ?_
      refine pt_s (pc1 := 2414) (st1 := [.int 1, .int 0, .retAddr 0, .ref 136, .int (-1)]) rfl rfl (fun _ => rfl) ?_
      refine pt_s (pc1 := 2415) (st1 := [.int 1, .retAddr 0, .ref 136, .int (-1)]) rfl rfl (fun _ => rfl) ?_
      refine pt_s (pc1 := 2416) (st1 := [.int a1, .ref 136, .int (-1)]) rfl rfl (fun _ => rfl) ?_
      refine pt_callv (N := pm_X10_nextFact) (as := [.ref 136, .int a1]) (rest := [.int (-1)]) (f := 2047) (l := 83979) (c1 := 0) (k1 := 0) (c2 := 599837) (k2 := 7274195) (v := some (.int (-1))) (h1 := px_hs) rfl rfl (fun ex => px_inv_hs ex rfl rfl rfl pg_1 rfl rfl rfl rfl) ?_ (Nat.le_of_ble_eq_true rfl) (Nat.le_of_ble_eq_true rfl) ?_
      · refine px_C_of rfl ?_
        refine pr_s (pc1 := 1) (st1 := [.ref 136]) rfl (fun _ => rfl) ?_
        refine pr_s (pc1 := 2) (st1 := [.int 0, .ref 136]) rfl (fun _ => rfl) ?_
        refine pr_putf (pc1 := 5) (h1 := px_hs) rfl rfl pg_1 rfl rfl rfl rfl rfl (px_set_same pg_1 rfl) rfl ?_
        refine pr_s (pc1 := 6) (st1 := [.int a1]) rfl (fun _ => rfl) ?_
        refine pr_s (pc1 := 7) (st1 := [.int 0, .int a1]) rfl (fun _ => rfl) ?_
        refine pr_s (pc1 := 8) (st1 := [.int 2, .int 0, .int a1]) rfl (fun _ => rfl) ?_
        refine pr_callv (N := pm_X10_is) (as := [.int a1, .int 0, .int 2]) (rest := []) (f := 2046) (l := 83957) (c1 := 0) (k1 := 0) (c2 := 0) (k2 := 0) (v := some (.int 1)) (h1 := px_hs) rfl (fun _ => rfl) ?_ (Nat.le_of_ble_eq_true rfl) (Nat.le_of_ble_eq_true rfl) ?_
        · refine px_C_of rfl ?_
          refine pr_s (pc1 := 1) (st1 := [.int a1]) rfl (fun _ => rfl) ?_
          refine pr_s (pc1 := 2) (st1 := [.int 0, .int a1]) rfl (fun _ => rfl) ?_
          refine pr_bf (t := 14) (off := 12) (bb := decide (a1 < 0)) (st1 := []) rfl rfl rfl rfl (pb_ltF ha1.1 (show (0 : Int32).toInt ≤ 0 by decide) (by decide)) ?_
          refine pr_s (pc1 := 6) (st1 := [.int a1]) rfl (fun _ => rfl) ?_
          refine pr_s (pc1 := 7) (st1 := [.int 2, .int a1]) rfl (fun _ => rfl) ?_
          refine pr_bf (t := 14) (off := 7) (bb := decide ((2 : Int32) < a1)) (st1 := []) rfl rfl rfl rfl (pb_ltF (show 2 ≤ (2 : Int32).toInt by decide) ha1.2 (by decide)) ?_
          refine pr_s (pc1 := 11) (st1 := [.int 1]) rfl (fun _ => rfl) ?_
          refine pr_s (pc1 := 15) (st1 := [.int 1]) rfl (fun _ => rfl) ?_
          exact pr_e rfl (fun _ => rfl) ⟨rfl, rfl⟩
        show px_R _ _ _ _ (11, [(0, .ref 136), (1, .int a1)], [.int 1], _) _ _ _
        refine pr_bf (t := 24) (off := 13) (bb := decide ((1 : Int32) = 0)) (st1 := []) rfl rfl rfl rfl (by decide) ?_
        refine pr_s (pc1 := 15) (st1 := [.ref 136]) rfl (fun _ => rfl) ?_
        refine pr_s (pc1 := 16) (st1 := [.int 1, .ref 136]) rfl (fun _ => rfl) ?_
        refine pr_s (pc1 := 17) (st1 := [.int a1, .int 1, .ref 136]) rfl (fun _ => rfl) ?_
        refine pr_s (pc1 := 18) (st1 := [.int (1 + a1), .ref 136]) rfl (fun _ => rfl) ?_
        refine pr_callv (N := pm_X10_ofFirst) (as := [.ref 136, .int (1 + a1)]) (rest := []) (f := 2046) (l := 83957) (c1 := 0) (k1 := 0) (c2 := 0) (k2 := 0) (v := some (.int (-1))) (h1 := px_hs) rfl (fun ex => px_inv_hs ex rfl rfl rfl pg_1 rfl rfl rfl rfl) ?_ (Nat.le_of_ble_eq_true rfl) (Nat.le_of_ble_eq_true rfl) ?_
        · refine px_C_of rfl ?_
          refine pr_s (pc1 := 1) (st1 := [.ref 136]) rfl (fun _ => rfl) ?_
          refine pr_getf (pc1 := 4) (v := .ref 138) rfl rfl pg_1 rfl rfl ?_
          refine pr_callv (N := pm_X9_first) (as := [.ref 138]) (rest := []) (f := 2045) (l := 83935) (c1 := 0) (k1 := 0) (c2 := 0) (k2 := 0) (v := some (.int (-1))) (h1 := px_hs) rfl (fun ex => px_inv_hs ex rfl rfl rfl pg_66 rfl rfl rfl rfl) ?_ (Nat.le_of_ble_eq_true rfl) (Nat.le_of_ble_eq_true rfl) ?_
          · refine px_C_of rfl ?_
            refine pr_s (pc1 := 1) (st1 := [.int (-1)]) rfl (fun _ => rfl) ?_
            refine pr_s (pc1 := 2) (lv1 := [(1, .int (-1)), (0, .ref 138)]) (st1 := []) rfl (fun _ => rfl) ?_
            refine pr_s (pc1 := 3) (st1 := [.int 0]) rfl (fun _ => rfl) ?_
            refine pr_s (pc1 := 4) (lv1 := [(2, .int 0), (1, .int (-1)), (0, .ref 138)]) (st1 := []) rfl (fun _ => rfl) ?_
            refine pr_s (pc1 := 5) (st1 := [.int 0]) rfl (fun _ => rfl) ?_
            refine pr_s (pc1 := 6) (st1 := [.ref 138, .int 0]) rfl (fun _ => rfl) ?_
            refine pr_getf (pc1 := 9) (v := .ref 143) rfl rfl pg_66 rfl rfl ?_
            refine pr_getf (pc1 := 12) (v := .int 0) rfl rfl pg_87 rfl rfl ?_
            refine pr_bt (t := 49) (off := 37) (bb := decide ((0 : Int32) ≤ (0 : Int32))) (st1 := []) rfl rfl rfl rfl (by decide) ?_
            refine pr_s (pc1 := 50) (st1 := [.int (-1)]) rfl (fun _ => rfl) ?_
            exact pr_e rfl (fun _ => rfl) ⟨rfl, rfl⟩
          show px_R _ _ _ _ (7, [(0, .ref 136), (1, .int (1 + a1))], [.int (-1)], _) _ _ _
          refine pr_s (pc1 := 8) (lv1 := [(2, .int (-1)), (0, .ref 136), (1, .int (1 + a1))]) (st1 := []) rfl (fun _ => rfl) ?_
          refine pr_s (pc1 := 9) (st1 := [.int (-1)]) rfl (fun _ => rfl) ?_
          refine pr_s (pc1 := 10) (st1 := [.int (-1), .int (-1)]) rfl (fun _ => rfl) ?_
          refine pr_bf (t := 17) (off := 7) (bb := !decide (((-1) : Int32) = (-1))) (st1 := []) rfl rfl rfl rfl (px_not_f (by decide)) ?_
          refine pr_s (pc1 := 14) (st1 := [.int (-1)]) rfl (fun _ => rfl) ?_
          refine pr_s (pc1 := 29) (st1 := [.int (-1)]) rfl (fun _ => rfl) ?_
          exact pr_e rfl (fun _ => rfl) ⟨rfl, rfl⟩
        show px_R _ _ _ _ (21, [(0, .ref 136), (1, .int a1)], [.int (-1)], _) _ _ _
        refine pr_s (pc1 := 25) (st1 := [.int (-1)]) rfl (fun _ => rfl) ?_
        exact pr_e rfl (fun _ => rfl) ⟨rfl, rfl⟩
      show px_T _ _ _ _ (2419, [(4, .int 0), (3, .ref 164), (2, .ref 136), (1, .ref 0), (0, .retAddr 0)], [.int (-1), .int (-1)], _) _ _ _
      refine pt_bt (t := 2771) (off := 352) (bb := decide (((-1) : Int32) = (-1))) (st1 := []) rfl rfl rfl rfl rfl (by decide) ?_
      refine pt_s (pc1 := 2774) (lv1 := [(4, .int 6), (3, .ref 164), (2, .ref 136), (1, .ref 0), (0, .retAddr 0)]) (st1 := []) rfl rfl (fun _ => rfl) ?_
      refine pt_s (pc1 := 23) (st1 := []) rfl rfl (fun _ => rfl) ?_
      refine pt_s (pc1 := 25) (st1 := [.int 6]) rfl rfl (fun _ => rfl) ?_
      refine pt_s (pc1 := 26) (st1 := [.retAddr 0, .int 6]) rfl rfl (fun _ => rfl) ?_
      refine pt_s (pc1 := 27) (st1 := [.int 6, .int 6]) rfl rfl (fun _ => rfl) ?_
      refine pt_s (pc1 := 29) (st1 := [.int 6, .int 6, .int 6]) rfl rfl (fun _ => rfl) ?_
      refine pt_s (pc1 := 30) (st1 := [.int 0, .int 6]) rfl rfl (fun _ => rfl) ?_
      refine pt_bt (t := 2777) (off := 2747) (bb := decide ((0 : Int32) < (6 : Int32))) (st1 := []) rfl rfl rfl rfl rfl (by decide) ?_
      refine pt_s (pc1 := 2778) (st1 := [.int 1]) rfl rfl (fun _ => rfl) ?_
      exact pt_e rfl ⟨rfl, (rfl : px_ins pm_law 2778 = some (.ireturn, 1))⟩
    · have ha1 : 3 ≤ a1.toInt ∧ a1.toInt ≤ 2147483647 := ⟨by omega, ha1.2⟩
      refine pt_s (pc1 := 2399) (st1 := []) rfl rfl (fun _ => rfl) ?_
      refine pt_s (pc1 := 2400) (st1 := [.ref 0]) rfl rfl (fun _ => rfl) ?_
      refine pt_s (pc1 := 2401) (st1 := [.retAddr 0, .ref 0]) rfl rfl (fun _ => rfl) ?_
      refine pt_s (pc1 := 2403) (st1 := [.int 0, .retAddr 0, .ref 0]) rfl rfl (fun _ => rfl) ?_
      refine pt_s (pc1 := 2404) (st1 := [.int 1, .int 0, .retAddr 0, .ref 0]) rfl rfl (fun _ => rfl) ?_
      refine pt_s (pc1 := 2405) (st1 := [.int 1, .retAddr 0, .ref 0]) rfl rfl (fun _ => rfl) ?_
      refine pt_s (pc1 := 2406) (st1 := [.int a1, .ref 0]) rfl rfl (fun _ => rfl) ?_
      refine pt_callv (N := pm_X6_nextFact) (as := [.ref 0, .int a1]) (rest := []) (f := 2047) (l := 83979) (c1 := 0) (k1 := 0) (c2 := 599837) (k2 := 7274195) (v := some (.int (-1))) (h1 := px_hs) rfl rfl (fun ex => px_inv_hs ex rfl rfl rfl pg_0 rfl rfl rfl rfl) ?_ (Nat.le_of_ble_eq_true rfl) (Nat.le_of_ble_eq_true rfl) ?_
      · refine px_C_of rfl ?_
        refine pr_s (pc1 := 1) (st1 := [.ref 0]) rfl (fun _ => rfl) ?_
        refine pr_getf (pc1 := 4) (v := .ref 92) rfl rfl pg_0 rfl rfl ?_
        refine pr_s (pc1 := 5) (st1 := [.ref 0, .ref 92]) rfl (fun _ => rfl) ?_
        refine pr_getf (pc1 := 8) (v := .ref 92) rfl rfl pg_0 rfl rfl ?_
        refine pr_callv (N := pm_X5_firstWaiting) (as := [.ref 92]) (rest := [.ref 92]) (f := 2046) (l := 83955) (c1 := 0) (k1 := 0) (c2 := 0) (k2 := 0) (v := some (.int (-1))) (h1 := px_hs) rfl (fun ex => px_inv_hs ex rfl rfl rfl pg_22 rfl rfl rfl rfl) ?_ (Nat.le_of_ble_eq_true rfl) (Nat.le_of_ble_eq_true rfl) ?_
        · exact px_C_none pc_0 (Nat.le_of_ble_eq_true rfl) (Nat.le_of_ble_eq_true rfl) (Nat.le_of_ble_eq_true rfl) (Nat.le_of_ble_eq_true rfl)
        show px_R _ _ _ _ (11, [(0, .ref 0), (1, .int a1)], [.int (-1), .ref 92], _) _ _ _
        refine pr_s (pc1 := 12) (st1 := [.int a1, .int (-1), .ref 92]) rfl (fun _ => rfl) ?_
        refine pr_callv (N := pm_X5_factAt) (as := [.ref 92, .int (-1), .int a1]) (rest := []) (f := 2046) (l := 83957) (c1 := 0) (k1 := 0) (c2 := 0) (k2 := 0) (v := some (.int (-1))) (h1 := px_hs) rfl (fun ex => px_inv_hs ex rfl rfl rfl pg_22 rfl rfl rfl rfl) ?_ (Nat.le_of_ble_eq_true rfl) (Nat.le_of_ble_eq_true rfl) ?_
        · refine px_C_of rfl ?_
          refine pr_s (pc1 := 1) (st1 := [.ref 92]) rfl (fun _ => rfl) ?_
          refine pr_getf (pc1 := 4) (v := .ref 93) rfl rfl pg_22 rfl rfl ?_
          refine pr_s (pc1 := 5) (st1 := [.ref 92, .ref 93]) rfl (fun _ => rfl) ?_
          refine pr_getf (pc1 := 8) (v := .ref 99) rfl rfl pg_22 rfl rfl ?_
          refine pr_s (pc1 := 9) (st1 := [.int (-1), .ref 99, .ref 93]) rfl (fun _ => rfl) ?_
          refine pr_s (pc1 := 10) (st1 := [.int a1, .int (-1), .ref 99, .ref 93]) rfl (fun _ => rfl) ?_
          refine pr_callv (N := pm_X3_placeAt) (as := [.ref 99, .int (-1), .int a1]) (rest := [.ref 93]) (f := 2045) (l := 83935) (c1 := 0) (k1 := 0) (c2 := 0) (k2 := 0) (v := some (.int (-1))) (h1 := px_hs) rfl (fun ex => px_inv_hs ex rfl rfl rfl pg_513 rfl rfl rfl rfl) ?_ (Nat.le_of_ble_eq_true rfl) (Nat.le_of_ble_eq_true rfl) ?_
          · refine px_C_of rfl ?_
            refine pr_s (pc1 := 1) (st1 := [.int (-1)]) rfl (fun _ => rfl) ?_
            refine pr_callv (N := pm_X3_isMatch) (as := [.int (-1)]) (rest := []) (f := 2044) (l := 83915) (c1 := 0) (k1 := 0) (c2 := 0) (k2 := 0) (v := some (.int 0)) (h1 := px_hs) rfl (fun _ => rfl) ?_ (Nat.le_of_ble_eq_true rfl) (Nat.le_of_ble_eq_true rfl) ?_
            · refine px_C_of rfl ?_
              refine pr_s (pc1 := 1) (st1 := [.int (-1)]) rfl (fun _ => rfl) ?_
              refine pr_bt (t := 15) (off := 14) (bb := decide (((-1) : Int32) < 0)) (st1 := []) rfl rfl rfl rfl (by decide) ?_
              refine pr_s (pc1 := 16) (st1 := [.int 0]) rfl (fun _ => rfl) ?_
              exact pr_e rfl (fun _ => rfl) ⟨rfl, rfl⟩
            show px_R _ _ _ _ (4, [(0, .ref 99), (1, .int (-1)), (2, .int a1)], [.int 0], _) _ _ _
            refine pr_bt (t := 29) (off := 25) (bb := decide ((0 : Int32) = 0)) (st1 := []) rfl rfl rfl rfl (by decide) ?_
            refine pr_s (pc1 := 30) (st1 := [.int (-1)]) rfl (fun _ => rfl) ?_
            exact pr_e rfl (fun _ => rfl) ⟨rfl, rfl⟩
          show px_R _ _ _ _ (13, [(0, .ref 92), (1, .int (-1)), (2, .int a1)], [.int (-1), .ref 93], _) _ _ _
          refine pr_callv (N := pm_X2_numberAt) (as := [.ref 93, .int (-1)]) (rest := []) (f := 2045) (l := 83936) (c1 := 0) (k1 := 0) (c2 := 0) (k2 := 0) (v := some (.int (-1))) (h1 := px_hs) rfl (fun ex => px_inv_hs ex rfl rfl rfl pg_23 rfl rfl rfl rfl) ?_ (Nat.le_of_ble_eq_true rfl) (Nat.le_of_ble_eq_true rfl) ?_
          · refine px_C_of rfl ?_
            refine pr_s (pc1 := 1) (st1 := [.int (-1)]) rfl (fun _ => rfl) ?_
            refine pr_bt (t := 19) (off := 18) (bb := decide (((-1) : Int32) < 0)) (st1 := []) rfl rfl rfl rfl (by decide) ?_
            refine pr_s (pc1 := 20) (st1 := [.int (-1)]) rfl (fun _ => rfl) ?_
            exact pr_e rfl (fun _ => rfl) ⟨rfl, rfl⟩
          show px_R _ _ _ _ (16, [(0, .ref 92), (1, .int (-1)), (2, .int a1)], [.int (-1)], _) _ _ _
          exact pr_e rfl (fun _ => rfl) ⟨rfl, rfl⟩
        show px_R _ _ _ _ (15, [(0, .ref 0), (1, .int a1)], [.int (-1)], _) _ _ _
        exact pr_e rfl (fun _ => rfl) ⟨rfl, rfl⟩
      show px_T _ _ _ _ (2409, [(4, .int 0), (3, .ref 164), (2, .ref 136), (1, .ref 0), (0, .retAddr 0)], [.int (-1)], _) _ _ _
      refine pt_s (pc1 := 2410) (st1 := [.ref 136, .int (-1)]) rfl rfl (fun _ => rfl) ?_
      refine pt_s (pc1 := 2411) (st1 := [.retAddr 0, .ref 136, .int (-1)]) rfl rfl (fun _ => rfl) ?_
      refine pt_s (pc1 := 2413) (st1 := [.int 0, .retAddr 0, .ref 136, .int (-1)]) rfl rfl (fun _ => rfl) ?_
      refine pt_s (pc1 := 2414) (st1 := [.int 1, .int 0, .retAddr 0, .ref 136, .int (-1)]) rfl rfl (fun _ => rfl) ?_
      refine pt_s (pc1 := 2415) (st1 := [.int 1, .retAddr 0, .ref 136, .int (-1)]) rfl rfl (fun _ => rfl) ?_
      refine pt_s (pc1 := 2416) (st1 := [.int a1, .ref 136, .int (-1)]) rfl rfl (fun _ => rfl) ?_
      refine pt_callv (N := pm_X10_nextFact) (as := [.ref 136, .int a1]) (rest := [.int (-1)]) (f := 2047) (l := 83979) (c1 := 0) (k1 := 0) (c2 := 599837) (k2 := 7274195) (v := some (.int (-1))) (h1 := px_hs) rfl rfl (fun ex => px_inv_hs ex rfl rfl rfl pg_1 rfl rfl rfl rfl) ?_ (Nat.le_of_ble_eq_true rfl) (Nat.le_of_ble_eq_true rfl) ?_
      · refine px_C_of rfl ?_
        refine pr_s (pc1 := 1) (st1 := [.ref 136]) rfl (fun _ => rfl) ?_
        refine pr_s (pc1 := 2) (st1 := [.int 0, .ref 136]) rfl (fun _ => rfl) ?_
        refine pr_putf (pc1 := 5) (h1 := px_hs) rfl rfl pg_1 rfl rfl rfl rfl rfl (px_set_same pg_1 rfl) rfl ?_
        refine pr_s (pc1 := 6) (st1 := [.int a1]) rfl (fun _ => rfl) ?_
        refine pr_s (pc1 := 7) (st1 := [.int 0, .int a1]) rfl (fun _ => rfl) ?_
        refine pr_s (pc1 := 8) (st1 := [.int 2, .int 0, .int a1]) rfl (fun _ => rfl) ?_
        refine pr_callv (N := pm_X10_is) (as := [.int a1, .int 0, .int 2]) (rest := []) (f := 2046) (l := 83957) (c1 := 0) (k1 := 0) (c2 := 0) (k2 := 0) (v := some (.int 0)) (h1 := px_hs) rfl (fun _ => rfl) ?_ (Nat.le_of_ble_eq_true rfl) (Nat.le_of_ble_eq_true rfl) ?_
        · refine px_C_of rfl ?_
          refine pr_s (pc1 := 1) (st1 := [.int a1]) rfl (fun _ => rfl) ?_
          refine pr_s (pc1 := 2) (st1 := [.int 0, .int a1]) rfl (fun _ => rfl) ?_
          refine pr_bf (t := 14) (off := 12) (bb := decide (a1 < 0)) (st1 := []) rfl rfl rfl rfl (pb_ltF ha1.1 (show (0 : Int32).toInt ≤ 0 by decide) (by decide)) ?_
          refine pr_s (pc1 := 6) (st1 := [.int a1]) rfl (fun _ => rfl) ?_
          refine pr_s (pc1 := 7) (st1 := [.int 2, .int a1]) rfl (fun _ => rfl) ?_
          refine pr_bt (t := 14) (off := 7) (bb := decide ((2 : Int32) < a1)) (st1 := []) rfl rfl rfl rfl (pb_ltT (show (2 : Int32).toInt ≤ 2 by decide) ha1.1 (by decide)) ?_
          refine pr_s (pc1 := 15) (st1 := [.int 0]) rfl (fun _ => rfl) ?_
          exact pr_e rfl (fun _ => rfl) ⟨rfl, rfl⟩
        show px_R _ _ _ _ (11, [(0, .ref 136), (1, .int a1)], [.int 0], _) _ _ _
        refine pr_bt (t := 24) (off := 13) (bb := decide ((0 : Int32) = 0)) (st1 := []) rfl rfl rfl rfl (by decide) ?_
        refine pr_s (pc1 := 25) (st1 := [.int (-1)]) rfl (fun _ => rfl) ?_
        exact pr_e rfl (fun _ => rfl) ⟨rfl, rfl⟩
      show px_T _ _ _ _ (2419, [(4, .int 0), (3, .ref 164), (2, .ref 136), (1, .ref 0), (0, .retAddr 0)], [.int (-1), .int (-1)], _) _ _ _
      refine pt_bt (t := 2771) (off := 352) (bb := decide (((-1) : Int32) = (-1))) (st1 := []) rfl rfl rfl rfl rfl (by decide) ?_
      refine pt_s (pc1 := 2774) (lv1 := [(4, .int 6), (3, .ref 164), (2, .ref 136), (1, .ref 0), (0, .retAddr 0)]) (st1 := []) rfl rfl (fun _ => rfl) ?_
      refine pt_s (pc1 := 23) (st1 := []) rfl rfl (fun _ => rfl) ?_
      refine pt_s (pc1 := 25) (st1 := [.int 6]) rfl rfl (fun _ => rfl) ?_
      refine pt_s (pc1 := 26) (st1 := [.retAddr 0, .int 6]) rfl rfl (fun _ => rfl) ?_
      refine pt_s (pc1 := 27) (st1 := [.int 6, .int 6]) rfl rfl (fun _ => rfl) ?_
      refine pt_s (pc1 := 29) (st1 := [.int 6, .int 6, .int 6]) rfl rfl (fun _ => rfl) ?_
      refine pt_s (pc1 := 30) (st1 := [.int 0, .int 6]) rfl rfl (fun _ => rfl) ?_
      refine pt_bt (t := 2777) (off := 2747) (bb := decide ((0 : Int32) < (6 : Int32))) (st1 := []) rfl rfl rfl rfl rfl (by decide) ?_
      refine pt_s (pc1 := 2778) (st1 := [.int 1]) rfl rfl (fun _ => rfl) ?_
      exact pt_e rfl ⟨rfl, (rfl : px_ins pm_law 2778 = some (.ireturn, 1))⟩
set_option maxRecDepth 100000 in
set_option maxHeartbeats 40000000 in
theorem px_op_38 (a0 a1 a2 a3 a4 a5 : Int32) : px_T (some [a0, a1, a2, a3, a4, a5]) pm_law 2048 84000 (40, [(4, .int 0), (3, .ref 164), (2, .ref 136), (1, .ref 0), (0, .retAddr 0)], [.int 38], px_hs) 599837 7274195 (fun s1 => s1.2.2.1 = [.int 1] ∧ px_ins pm_law s1.1 = some (.ireturn, 1)) := by
  refine pt_s (pc1 := 2424) (st1 := []) rfl rfl (fun _ => rfl) ?_
  refine pt_s (pc1 := 2425) (st1 := [.ref 0]) rfl rfl (fun _ => rfl) ?_
  refine pt_callv (N := pm_X6_fired) (as := [.ref 0]) (rest := []) (f := 2047) (l := 83980) (c1 := 0) (k1 := 0) (c2 := 599837) (k2 := 7274195) (v := some (.int 0)) (h1 := px_hs) rfl rfl (fun ex => px_inv_hs ex rfl rfl rfl pg_0 rfl rfl rfl rfl) ?_ (Nat.le_of_ble_eq_true rfl) (Nat.le_of_ble_eq_true rfl) ?_
  · refine px_C_of rfl ?_
    refine pr_s (pc1 := 1) (st1 := [.ref 0]) rfl (fun _ => rfl) ?_
    refine pr_getf (pc1 := 4) (v := .ref 92) rfl rfl pg_0 rfl rfl ?_
    refine pr_getf (pc1 := 7) (v := .int 0) rfl rfl pg_22 rfl rfl ?_
    exact pr_e rfl (fun _ => rfl) ⟨rfl, rfl⟩
  show px_T _ _ _ _ (2428, [(4, .int 0), (3, .ref 164), (2, .ref 136), (1, .ref 0), (0, .retAddr 0)], [.int 0], _) _ _ _
  refine pt_s (pc1 := 2429) (st1 := [.ref 136, .int 0]) rfl rfl (fun _ => rfl) ?_
  refine pt_callv (N := pm_X10_fired) (as := [.ref 136]) (rest := [.int 0]) (f := 2047) (l := 83980) (c1 := 0) (k1 := 0) (c2 := 599837) (k2 := 7274195) (v := some (.int 0)) (h1 := px_hs) rfl rfl (fun ex => px_inv_hs ex rfl rfl rfl pg_1 rfl rfl rfl rfl) ?_ (Nat.le_of_ble_eq_true rfl) (Nat.le_of_ble_eq_true rfl) ?_
  · refine px_C_of rfl ?_
    refine pr_s (pc1 := 1) (st1 := [.ref 136]) rfl (fun _ => rfl) ?_
    refine pr_s (pc1 := 2) (st1 := [.int 0, .ref 136]) rfl (fun _ => rfl) ?_
    refine pr_putf (pc1 := 5) (h1 := px_hs) rfl rfl pg_1 rfl rfl rfl rfl rfl (px_set_same pg_1 rfl) rfl ?_
    refine pr_s (pc1 := 6) (st1 := [.ref 136]) rfl (fun _ => rfl) ?_
    refine pr_getf (pc1 := 9) (v := .ref 138) rfl rfl pg_1 rfl rfl ?_
    refine pr_getf (pc1 := 12) (v := .int 0) rfl rfl pg_66 rfl rfl ?_
    exact pr_e rfl (fun _ => rfl) ⟨rfl, rfl⟩
  show px_T _ _ _ _ (2432, [(4, .int 0), (3, .ref 164), (2, .ref 136), (1, .ref 0), (0, .retAddr 0)], [.int 0, .int 0], _) _ _ _
  refine pt_bt (t := 2771) (off := 339) (bb := decide ((0 : Int32) = 0)) (st1 := []) rfl rfl rfl rfl rfl (by decide) ?_
  refine pt_s (pc1 := 2774) (lv1 := [(4, .int 6), (3, .ref 164), (2, .ref 136), (1, .ref 0), (0, .retAddr 0)]) (st1 := []) rfl rfl (fun _ => rfl) ?_
  refine pt_s (pc1 := 23) (st1 := []) rfl rfl (fun _ => rfl) ?_
  refine pt_s (pc1 := 25) (st1 := [.int 6]) rfl rfl (fun _ => rfl) ?_
  refine pt_s (pc1 := 26) (st1 := [.retAddr 0, .int 6]) rfl rfl (fun _ => rfl) ?_
  refine pt_s (pc1 := 27) (st1 := [.int 6, .int 6]) rfl rfl (fun _ => rfl) ?_
  refine pt_s (pc1 := 29) (st1 := [.int 6, .int 6, .int 6]) rfl rfl (fun _ => rfl) ?_
  refine pt_s (pc1 := 30) (st1 := [.int 0, .int 6]) rfl rfl (fun _ => rfl) ?_
  refine pt_bt (t := 2777) (off := 2747) (bb := decide ((0 : Int32) < (6 : Int32))) (st1 := []) rfl rfl rfl rfl rfl (by decide) ?_
  refine pt_s (pc1 := 2778) (st1 := [.int 1]) rfl rfl (fun _ => rfl) ?_
  exact pt_e rfl ⟨rfl, (rfl : px_ins pm_law 2778 = some (.ireturn, 1))⟩
set_option maxRecDepth 100000 in
set_option maxHeartbeats 40000000 in
theorem px_op_39 (a0 a1 a2 a3 a4 a5 : Int32) : px_T (some [a0, a1, a2, a3, a4, a5]) pm_law 2048 84000 (40, [(4, .int 0), (3, .ref 164), (2, .ref 136), (1, .ref 0), (0, .retAddr 0)], [.int 39], px_hs) 599837 7274195 (fun s1 => s1.2.2.1 = [.int 1] ∧ px_ins pm_law s1.1 = some (.ireturn, 1)) := by
  refine pt_s (pc1 := 2437) (st1 := []) rfl rfl (fun _ => rfl) ?_
  refine pt_s (pc1 := 2438) (st1 := [.ref 0]) rfl rfl (fun _ => rfl) ?_
  refine pt_callv (N := pm_X6_meanSupports) (as := [.ref 0]) (rest := []) (f := 2047) (l := 83977) (c1 := 0) (k1 := 0) (c2 := 599837) (k2 := 7274195) (v := some (.double FP.dconst0)) (h1 := px_hs) rfl rfl (fun ex => px_inv_hs ex rfl rfl rfl pg_0 rfl rfl rfl rfl) ?_ (Nat.le_of_ble_eq_true rfl) (Nat.le_of_ble_eq_true rfl) ?_
  · refine px_C_of rfl ?_
    refine pr_s (pc1 := 1) (st1 := [.ref 0]) rfl (fun _ => rfl) ?_
    refine pr_getf (pc1 := 4) (v := .ref 92) rfl rfl pg_0 rfl rfl ?_
    refine pr_getf (pc1 := 7) (v := .ref 93) rfl rfl pg_22 rfl rfl ?_
    refine pr_s (pc1 := 8) (lv1 := [(1, .ref 93), (0, .ref 0)]) (st1 := []) rfl (fun _ => rfl) ?_
    refine pr_s (pc1 := 9) (st1 := [.ref 93]) rfl (fun _ => rfl) ?_
    refine pr_getf (pc1 := 12) (v := .int 0) rfl rfl pg_23 rfl rfl ?_
    refine pr_bf (t := 17) (off := 5) (bb := !decide ((0 : Int32) = 0)) (st1 := []) rfl rfl rfl rfl (px_not_f (by decide)) ?_
    refine pr_s (pc1 := 16) (st1 := [.double FP.dconst0]) rfl (fun _ => rfl) ?_
    exact pr_e rfl (fun _ => rfl) ⟨rfl, rfl⟩
  show px_T _ _ _ _ (2441, [(4, .int 0), (3, .ref 164), (2, .ref 136), (1, .ref 0), (0, .retAddr 0)], [.double FP.dconst0], _) _ _ _
  refine pt_s (pc1 := 2443) (lv1 := [(5, .double FP.dconst0), (4, .int 0), (3, .ref 164), (2, .ref 136), (1, .ref 0), (0, .retAddr 0)]) (st1 := []) rfl rfl (fun _ => rfl) ?_
  refine pt_s (pc1 := 2444) (st1 := [.ref 136]) rfl rfl (fun _ => rfl) ?_
  refine pt_callv (N := pm_X10_meanSupports) (as := [.ref 136]) (rest := []) (f := 2047) (l := 83980) (c1 := 0) (k1 := 0) (c2 := 599837) (k2 := 7274195) (v := some (.double FP.dconst0)) (h1 := px_hs) rfl rfl (fun ex => px_inv_hs ex rfl rfl rfl pg_1 rfl rfl rfl rfl) ?_ (Nat.le_of_ble_eq_true rfl) (Nat.le_of_ble_eq_true rfl) ?_
  · refine px_C_of rfl ?_
    refine pr_s (pc1 := 1) (st1 := [.ref 136]) rfl (fun _ => rfl) ?_
    refine pr_s (pc1 := 2) (st1 := [.int 0, .ref 136]) rfl (fun _ => rfl) ?_
    refine pr_putf (pc1 := 5) (h1 := px_hs) rfl rfl pg_1 rfl rfl rfl rfl rfl (px_set_same pg_1 rfl) rfl ?_
    refine pr_s (pc1 := 6) (st1 := [.ref 136]) rfl (fun _ => rfl) ?_
    refine pr_getf (pc1 := 9) (v := .ref 138) rfl rfl pg_1 rfl rfl ?_
    refine pr_getf (pc1 := 12) (v := .ref 141) rfl rfl pg_66 rfl rfl ?_
    refine pr_getf (pc1 := 15) (v := .int 0) rfl rfl pg_68 rfl rfl ?_
    refine pr_bf (t := 22) (off := 7) (bb := !decide ((0 : Int32) = 0)) (st1 := []) rfl rfl rfl rfl (px_not_f (by decide)) ?_
    refine pr_s (pc1 := 19) (st1 := [.double FP.dconst0]) rfl (fun _ => rfl) ?_
    refine pr_s (pc1 := 45) (st1 := [.double FP.dconst0]) rfl (fun _ => rfl) ?_
    exact pr_e rfl (fun _ => rfl) ⟨rfl, rfl⟩
  show px_T _ _ _ _ (2447, [(5, .double FP.dconst0), (4, .int 0), (3, .ref 164), (2, .ref 136), (1, .ref 0), (0, .retAddr 0)], [.double FP.dconst0], _) _ _ _
  refine pt_s (pc1 := 2449) (lv1 := [(7, .double FP.dconst0), (5, .double FP.dconst0), (4, .int 0), (3, .ref 164), (2, .ref 136), (1, .ref 0), (0, .retAddr 0)]) (st1 := []) rfl rfl (fun _ => rfl) ?_
  refine pt_s (pc1 := 2451) (st1 := [.double FP.dconst0]) rfl rfl (fun _ => rfl) ?_
  refine pt_s (pc1 := 2453) (st1 := [.double FP.dconst0, .double FP.dconst0]) rfl rfl (fun _ => rfl) ?_
  refine pt_s (pc1 := 2454) (st1 := .int (Op.cmpValue (FP.dcmp FP.dconst0 FP.dconst0) .l) :: []) rfl rfl (fun _ => rfl) ?_
  rw [px_dcmp0]
  refine pt_bt (t := 2475) (off := 21) (bb := decide ((0 : Int32) = 0)) (st1 := []) rfl rfl rfl rfl rfl (by decide) ?_
  refine pt_s (pc1 := 2771) (st1 := []) rfl rfl (fun _ => rfl) ?_
  refine pt_s (pc1 := 2774) (lv1 := [(4, .int 6), (7, .double FP.dconst0), (5, .double FP.dconst0), (3, .ref 164), (2, .ref 136), (1, .ref 0), (0, .retAddr 0)]) (st1 := []) rfl rfl (fun _ => rfl) ?_
  refine pt_s (pc1 := 23) (st1 := []) rfl rfl (fun _ => rfl) ?_
  refine pt_s (pc1 := 25) (st1 := [.int 6]) rfl rfl (fun _ => rfl) ?_
  refine pt_s (pc1 := 26) (st1 := [.retAddr 0, .int 6]) rfl rfl (fun _ => rfl) ?_
  refine pt_s (pc1 := 27) (st1 := [.int 6, .int 6]) rfl rfl (fun _ => rfl) ?_
  refine pt_s (pc1 := 29) (st1 := [.int 6, .int 6, .int 6]) rfl rfl (fun _ => rfl) ?_
  refine pt_s (pc1 := 30) (st1 := [.int 0, .int 6]) rfl rfl (fun _ => rfl) ?_
  refine pt_bt (t := 2777) (off := 2747) (bb := decide ((0 : Int32) < (6 : Int32))) (st1 := []) rfl rfl rfl rfl rfl (by decide) ?_
  refine pt_s (pc1 := 2778) (st1 := [.int 1]) rfl rfl (fun _ => rfl) ?_
  exact pt_e rfl ⟨rfl, (rfl : px_ins pm_law 2778 = some (.ireturn, 1))⟩
set_option maxRecDepth 100000 in
set_option maxHeartbeats 40000000 in
theorem px_op_40 (a0 a1 a2 a3 a4 a5 : Int32) : px_T (some [a0, a1, a2, a3, a4, a5]) pm_law 2048 84000 (40, [(4, .int 0), (3, .ref 164), (2, .ref 136), (1, .ref 0), (0, .retAddr 0)], [.int 40], px_hs) 599837 7274195 (fun s1 => s1.2.2.1 = [.int 1] ∧ px_ins pm_law s1.1 = some (.ireturn, 1)) := by
  have ha1 : (-2147483648) ≤ a1.toInt ∧ a1.toInt ≤ 2147483647 := ⟨Int32.le_toInt a1, Int32.toInt_le a1⟩
  by_cases hs : a1.toInt < 1
  · have ha1 : (-2147483648) ≤ a1.toInt ∧ a1.toInt ≤ 0 := ⟨ha1.1, by omega⟩
    refine pt_s (pc1 := 2478) (st1 := []) rfl rfl (fun _ => rfl) ?_
    refine pt_s (pc1 := 2479) (st1 := [.ref 0]) rfl rfl (fun _ => rfl) ?_
    refine pt_s (pc1 := 2480) (st1 := [.retAddr 0, .ref 0]) rfl rfl (fun _ => rfl) ?_
    refine pt_s (pc1 := 2482) (st1 := [.int 0, .retAddr 0, .ref 0]) rfl rfl (fun _ => rfl) ?_
    refine pt_s (pc1 := 2483) (st1 := [.int 1, .int 0, .retAddr 0, .ref 0]) rfl rfl (fun _ => rfl) ?_
    refine pt_s (pc1 := 2484) (st1 := [.int 1, .retAddr 0, .ref 0]) rfl rfl (fun _ => rfl) ?_
    refine pt_s (pc1 := 2485) (st1 := [.int a1, .ref 0]) rfl rfl (fun _ => rfl) ?_
    refine pt_s (pc1 := 2486) (st1 := [.ref 164, .int a1, .ref 0]) rfl rfl (fun _ => rfl) ?_
    refine pt_callv (N := pm_L_factsBehind) (as := [.ref 0, .int a1, .ref 164]) (rest := []) (f := 2047) (l := 83977) (c1 := 1) (k1 := 6) (c2 := 599836) (k2 := 7274189) (v := some (.int 1)) (h1 := ph_1) rfl rfl (fun _ => rfl) ?_ (Nat.le_of_ble_eq_true rfl) (Nat.le_of_ble_eq_true rfl) ?_
    · refine px_C_of rfl ?_
      refine pr_s (pc1 := 1) (st1 := [.ref 164]) rfl (fun _ => rfl) ?_
      refine pr_s (pc1 := 2) (st1 := [.int 0, .ref 164]) rfl (fun _ => rfl) ?_
      refine pr_s (pc1 := 3) (st1 := [.ref 0, .int 0, .ref 164]) rfl (fun _ => rfl) ?_
      refine pr_s (pc1 := 4) (st1 := [.int a1, .ref 0, .int 0, .ref 164]) rfl (fun _ => rfl) ?_
      refine pr_callx (N := pm_X6_factsBehind) (as := [.ref 0, .int a1]) (rest := [.int 0, .ref 164]) (f := 2046) (l := 83956) (c1 := 1) (k1 := 6) (c2 := 0) (k2 := 0) (E := 12) (h1 := ph_1) (a := 12) (y1 := 3) (y2 := 1) rfl (fun ex => px_inv_hs ex rfl rfl rfl pg_0 rfl rfl rfl rfl) ?_ (Nat.le_of_ble_eq_true rfl) (Nat.le_of_ble_eq_true rfl) rfl rfl rfl rfl ?_
      · refine px_C_of rfl ?_
        refine pr_s (pc1 := 1) (st1 := [.int a1]) rfl (fun _ => rfl) ?_
        refine pr_callo (N := pm_X6_needMost) (as := [.int a1]) (rest := []) (f := 2045) (l := 83936) (E := 12) (h1 := ph_1) rfl (fun _ => rfl) ?_ rfl ⟨rfl, rfl⟩
        · refine px_C_of rfl ?_
          refine pr_s (pc1 := 1) (st1 := [.int a1]) rfl (fun _ => rfl) ?_
          refine pr_s (pc1 := 2) (st1 := [.int 1, .int a1]) rfl (fun _ => rfl) ?_
          refine pr_bt (t := 11) (off := 9) (bb := decide (a1 < 1)) (st1 := []) rfl rfl rfl rfl (pb_ltT ha1.2 (show 1 ≤ (1 : Int32).toInt by decide) (by decide)) ?_
          refine pr_mh (z1 := 1) (z2 := 6) (c1 := 0) (k1 := 0) (pc1 := 21) (n := 165) (r := []) (h1 := ph_1) (es := fun n => [.inr (12, [])]) rfl (fun _ => rfl) pl_0 rfl (Nat.le_of_ble_eq_true rfl) (Nat.le_of_ble_eq_true rfl) ?_
          exact pr_e rfl (fun _ => rfl) ⟨rfl, rfl⟩
      show px_R _ _ _ _ (13, [(0, .ref 0), (1, .int a1), (2, .ref 164)], [], _) _ _ _
      refine pr_s (pc1 := 14) (st1 := [.int 1]) rfl (fun _ => rfl) ?_
      exact pr_e rfl (fun _ => rfl) ⟨rfl, rfl⟩
    show px_T _ _ _ _ (2489, [(4, .int 0), (3, .ref 164), (2, .ref 136), (1, .ref 0), (0, .retAddr 0)], [.int 1], _) _ _ _
    refine pt_s (pc1 := 2491) (lv1 := [(5, .int 1), (4, .int 0), (3, .ref 164), (2, .ref 136), (1, .ref 0), (0, .retAddr 0)]) (st1 := []) rfl rfl (fun _ => rfl) ?_
    refine pt_s (pc1 := 2492) (st1 := [.ref 136]) rfl rfl (fun _ => rfl) ?_
    refine pt_s (pc1 := 2493) (st1 := [.retAddr 0, .ref 136]) rfl rfl (fun _ => rfl) ?_
    refine pt_s (pc1 := 2495) (st1 := [.int 0, .retAddr 0, .ref 136]) rfl rfl (fun _ => rfl) ?_
    refine pt_s (pc1 := 2496) (st1 := [.int 1, .int 0, .retAddr 0, .ref 136]) rfl rfl (fun _ => rfl) ?_
    refine pt_s (pc1 := 2497) (st1 := [.int 1, .retAddr 0, .ref 136]) rfl rfl (fun _ => rfl) ?_
    refine pt_s (pc1 := 2498) (st1 := [.int a1, .ref 136]) rfl rfl (fun _ => rfl) ?_
    refine pt_callv (N := pm_X10_factsBehind) (as := [.ref 136, .int a1]) (rest := []) (f := 2047) (l := 83979) (c1 := 0) (k1 := 0) (c2 := 599836) (k2 := 7274189) (v := some (.int 0)) (h1 := ph_2) rfl rfl (fun ex => px_inv_hs ex rfl rfl rfl pg_2 rfl rfl rfl rfl) ?_ (Nat.le_of_ble_eq_true rfl) (Nat.le_of_ble_eq_true rfl) ?_
    · refine px_C_of rfl ?_
      refine pr_s (pc1 := 1) (st1 := [.ref 136]) rfl (fun _ => rfl) ?_
      refine pr_s (pc1 := 2) (st1 := [.int 0, .ref 136]) rfl (fun _ => rfl) ?_
      refine pr_putf (pc1 := 5) (h1 := ph_1) rfl rfl pg_2 rfl rfl rfl rfl rfl (px_set_same pg_2 rfl) rfl ?_
      refine pr_s (pc1 := 6) (st1 := [.int a1]) rfl (fun _ => rfl) ?_
      refine pr_s (pc1 := 7) (st1 := [.int 1, .int a1]) rfl (fun _ => rfl) ?_
      refine pr_s (pc1 := 9) (st1 := [.int 20, .int 1, .int a1]) rfl (fun _ => rfl) ?_
      refine pr_callv (N := pm_X10_is) (as := [.int a1, .int 1, .int 20]) (rest := []) (f := 2046) (l := 83957) (c1 := 0) (k1 := 0) (c2 := 0) (k2 := 0) (v := some (.int 0)) (h1 := ph_1) rfl (fun _ => rfl) ?_ (Nat.le_of_ble_eq_true rfl) (Nat.le_of_ble_eq_true rfl) ?_
      · refine px_C_of rfl ?_
        refine pr_s (pc1 := 1) (st1 := [.int a1]) rfl (fun _ => rfl) ?_
        refine pr_s (pc1 := 2) (st1 := [.int 1, .int a1]) rfl (fun _ => rfl) ?_
        refine pr_bt (t := 14) (off := 12) (bb := decide (a1 < 1)) (st1 := []) rfl rfl rfl rfl (pb_ltT ha1.2 (show 1 ≤ (1 : Int32).toInt by decide) (by decide)) ?_
        refine pr_s (pc1 := 15) (st1 := [.int 0]) rfl (fun _ => rfl) ?_
        exact pr_e rfl (fun _ => rfl) ⟨rfl, rfl⟩
      show px_R _ _ _ _ (12, [(0, .ref 136), (1, .int a1)], [.int 0], _) _ _ _
      refine pr_bf (t := 21) (off := 9) (bb := !decide ((0 : Int32) = 0)) (st1 := []) rfl rfl rfl rfl (px_not_f (by decide)) ?_
      refine pr_s (pc1 := 16) (st1 := [.ref 136]) rfl (fun _ => rfl) ?_
      refine pr_s (pc1 := 17) (st1 := [.int 1, .ref 136]) rfl (fun _ => rfl) ?_
      refine pr_callv (N := pm_X10_refuse) (as := [.ref 136, .int 1]) (rest := []) (f := 2046) (l := 83958) (c1 := 0) (k1 := 0) (c2 := 0) (k2 := 0) (v := some (.int 0)) (h1 := ph_2) rfl (fun ex => px_inv_hs ex rfl rfl rfl pg_2 rfl rfl rfl rfl) ?_ (Nat.le_of_ble_eq_true rfl) (Nat.le_of_ble_eq_true rfl) ?_
      · refine px_C_of rfl ?_
        refine pr_s (pc1 := 1) (st1 := [.ref 136]) rfl (fun _ => rfl) ?_
        refine pr_s (pc1 := 2) (st1 := [.int 1, .ref 136]) rfl (fun _ => rfl) ?_
        refine pr_putf (pc1 := 5) (h1 := ph_2) rfl rfl pg_2 rfl rfl rfl rfl rfl rfl rfl ?_
        refine pr_s (pc1 := 6) (st1 := [.int 0]) rfl (fun _ => rfl) ?_
        exact pr_e rfl (fun _ => rfl) ⟨rfl, rfl⟩
      show px_R _ _ _ _ (20, [(0, .ref 136), (1, .int a1)], [.int 0], _) _ _ _
      exact pr_e rfl (fun _ => rfl) ⟨rfl, rfl⟩
    show px_T _ _ _ _ (2501, [(5, .int 1), (4, .int 0), (3, .ref 164), (2, .ref 136), (1, .ref 0), (0, .retAddr 0)], [.int 0], _) _ _ _
    refine pt_s (pc1 := 2503) (lv1 := [(6, .int 0), (5, .int 1), (4, .int 0), (3, .ref 164), (2, .ref 136), (1, .ref 0), (0, .retAddr 0)]) (st1 := []) rfl rfl (fun _ => rfl) ?_
    refine pt_s (pc1 := 2504) (st1 := [.ref 136]) rfl rfl (fun _ => rfl) ?_
    refine pt_callv (N := pm_X10_thrown) (as := [.ref 136]) (rest := []) (f := 2047) (l := 83980) (c1 := 0) (k1 := 0) (c2 := 599836) (k2 := 7274189) (v := some (.int 1)) (h1 := ph_2) rfl rfl (fun ex => px_inv_hs ex rfl rfl rfl pg_3 rfl rfl rfl rfl) ?_ (Nat.le_of_ble_eq_true rfl) (Nat.le_of_ble_eq_true rfl) ?_
    · refine px_C_of rfl ?_
      refine pr_s (pc1 := 1) (st1 := [.ref 136]) rfl (fun _ => rfl) ?_
      refine pr_getf (pc1 := 4) (v := .int 1) rfl rfl pg_3 rfl rfl ?_
      exact pr_e rfl (fun _ => rfl) ⟨rfl, rfl⟩
    show px_T _ _ _ _ (2507, [(6, .int 0), (5, .int 1), (4, .int 0), (3, .ref 164), (2, .ref 136), (1, .ref 0), (0, .retAddr 0)], [.int 1], _) _ _ _
    refine pt_s (pc1 := 2509) (st1 := [.int 1, .int 1]) rfl rfl (fun _ => rfl) ?_
    refine pt_bt (t := 2514) (off := 5) (bb := decide ((1 : Int32) = 1)) (st1 := []) rfl rfl rfl rfl rfl (by decide) ?_
    refine pt_s (pc1 := 2516) (st1 := [.int 1]) rfl rfl (fun _ => rfl) ?_
    refine pt_bt (t := 2531) (off := 15) (bb := !decide ((1 : Int32) = 0)) (st1 := []) rfl rfl rfl rfl rfl (px_not_t (by decide)) ?_
    refine pt_s (pc1 := 2771) (st1 := []) rfl rfl (fun _ => rfl) ?_
    refine pt_s (pc1 := 2774) (lv1 := [(4, .int 6), (6, .int 0), (5, .int 1), (3, .ref 164), (2, .ref 136), (1, .ref 0), (0, .retAddr 0)]) (st1 := []) rfl rfl (fun _ => rfl) ?_
    refine pt_s (pc1 := 23) (st1 := []) rfl rfl (fun _ => rfl) ?_
    refine pt_s (pc1 := 25) (st1 := [.int 6]) rfl rfl (fun _ => rfl) ?_
    refine pt_s (pc1 := 26) (st1 := [.retAddr 0, .int 6]) rfl rfl (fun _ => rfl) ?_
    refine pt_s (pc1 := 27) (st1 := [.int 6, .int 6]) rfl rfl (fun _ => rfl) ?_
    refine pt_s (pc1 := 29) (st1 := [.int 6, .int 6, .int 6]) rfl rfl (fun _ => rfl) ?_
    refine pt_s (pc1 := 30) (st1 := [.int 0, .int 6]) rfl rfl (fun _ => rfl) ?_
    refine pt_bt (t := 2777) (off := 2747) (bb := decide ((0 : Int32) < (6 : Int32))) (st1 := []) rfl rfl rfl rfl rfl (by decide) ?_
    refine pt_s (pc1 := 2778) (st1 := [.int 1]) rfl rfl (fun _ => rfl) ?_
    exact pt_e rfl ⟨rfl, (rfl : px_ins pm_law 2778 = some (.ireturn, 1))⟩
  · have ha1 : 1 ≤ a1.toInt ∧ a1.toInt ≤ 2147483647 := ⟨by omega, ha1.2⟩
    by_cases hs : a1.toInt < 21
    · have ha1 : 1 ≤ a1.toInt ∧ a1.toInt ≤ 20 := ⟨ha1.1, by omega⟩
      refine pt_s (pc1 := 2478) (st1 := []) rfl rfl (fun _ => rfl) ?_
      refine pt_s (pc1 := 2479) (st1 := [.ref 0]) rfl rfl (fun _ => rfl) ?_
      refine pt_s (pc1 := 2480) (st1 := [.retAddr 0, .ref 0]) rfl rfl (fun _ => rfl) ?_
      refine pt_s (pc1 := 2482) (st1 := [.int 0, .retAddr 0, .ref 0]) rfl rfl (fun _ => rfl) ?_
      refine pt_s (pc1 := 2483) (st1 := [.int 1, .int 0, .retAddr 0, .ref 0]) rfl rfl (fun _ => rfl) ?_
      refine pt_s (pc1 := 2484) (st1 := [.int 1, .retAddr 0, .ref 0]) rfl rfl (fun _ => rfl) ?_
      refine pt_s (pc1 := 2485) (st1 := [.int a1, .ref 0]) rfl rfl (fun _ => rfl) ?_
      refine pt_s (pc1 := 2486) (st1 := [.ref 164, .int a1, .ref 0]) rfl rfl (fun _ => rfl) ?_
      refine pt_callv (N := pm_L_factsBehind) (as := [.ref 0, .int a1, .ref 164]) (rest := []) (f := 2047) (l := 83977) (c1 := 0) (k1 := 0) (c2 := 599837) (k2 := 7274195) (v := some (.int 0)) (h1 := ph_192) rfl rfl (fun _ => rfl) ?_ (Nat.le_of_ble_eq_true rfl) (Nat.le_of_ble_eq_true rfl) ?_
      · refine px_C_of rfl ?_
        refine pr_s (pc1 := 1) (st1 := [.ref 164]) rfl (fun _ => rfl) ?_
        refine pr_s (pc1 := 2) (st1 := [.int 0, .ref 164]) rfl (fun _ => rfl) ?_
        refine pr_s (pc1 := 3) (st1 := [.ref 0, .int 0, .ref 164]) rfl (fun _ => rfl) ?_
        refine pr_s (pc1 := 4) (st1 := [.int a1, .ref 0, .int 0, .ref 164]) rfl (fun _ => rfl) ?_
        refine pr_callv (N := pm_X6_factsBehind) (as := [.ref 0, .int a1]) (rest := [.int 0, .ref 164]) (f := 2046) (l := 83956) (c1 := 0) (k1 := 0) (c2 := 0) (k2 := 0) (v := some (.int 0)) (h1 := px_hs) rfl (fun ex => px_inv_hs ex rfl rfl rfl pg_0 rfl rfl rfl rfl) ?_ (Nat.le_of_ble_eq_true rfl) (Nat.le_of_ble_eq_true rfl) ?_
        · refine px_C_of rfl ?_
          refine pr_s (pc1 := 1) (st1 := [.int a1]) rfl (fun _ => rfl) ?_
          refine pr_callv (N := pm_X6_needMost) (as := [.int a1]) (rest := []) (f := 2045) (l := 83936) (c1 := 0) (k1 := 0) (c2 := 0) (k2 := 0) (v := none) (h1 := px_hs) rfl (fun _ => rfl) ?_ (Nat.le_of_ble_eq_true rfl) (Nat.le_of_ble_eq_true rfl) ?_
          · refine px_C_of rfl ?_
            refine pr_s (pc1 := 1) (st1 := [.int a1]) rfl (fun _ => rfl) ?_
            refine pr_s (pc1 := 2) (st1 := [.int 1, .int a1]) rfl (fun _ => rfl) ?_
            refine pr_bf (t := 11) (off := 9) (bb := decide (a1 < 1)) (st1 := []) rfl rfl rfl rfl (pb_ltF ha1.1 (show (1 : Int32).toInt ≤ 1 by decide) (by decide)) ?_
            refine pr_s (pc1 := 6) (st1 := [.int a1]) rfl (fun _ => rfl) ?_
            refine pr_s (pc1 := 8) (st1 := [.int 20, .int a1]) rfl (fun _ => rfl) ?_
            refine pr_bt (t := 22) (off := 14) (bb := decide (a1 ≤ 20)) (st1 := []) rfl rfl rfl rfl (pb_leT ha1.2 (show 20 ≤ (20 : Int32).toInt by decide) (by decide)) ?_
            exact pr_e rfl (fun _ => rfl) ⟨rfl, rfl⟩
          show px_R _ _ _ _ (4, [(0, .ref 0), (1, .int a1)], [], _) _ _ _
          refine pr_s (pc1 := 5) (st1 := [.ref 0]) rfl (fun _ => rfl) ?_
          refine pr_getf (pc1 := 8) (v := .ref 114) rfl rfl pg_0 rfl rfl ?_
          refine pr_s (pc1 := 9) (st1 := [.ref 0, .ref 114]) rfl (fun _ => rfl) ?_
          refine pr_getf (pc1 := 12) (v := .ref 92) rfl rfl pg_0 rfl rfl ?_
          refine pr_callv (N := pm_X5_become) (as := [.ref 114, .ref 92]) (rest := []) (f := 2045) (l := 83935) (c1 := 0) (k1 := 0) (c2 := 0) (k2 := 0) (v := none) (h1 := px_hs) rfl (fun ex => px_inv_hs ex rfl rfl rfl pg_514 rfl rfl rfl rfl) ?_ (Nat.le_of_ble_eq_true rfl) (Nat.le_of_ble_eq_true rfl) ?_
          · exact px_C_mono pb_become (Nat.le_of_ble_eq_true rfl) (Nat.le_of_ble_eq_true rfl) (Nat.le_refl _) (Nat.le_refl _) (fun _ _ h => h)
          show px_R _ _ _ _ (15, [(0, .ref 0), (1, .int a1)], [], _) _ _ _
          refine pr_s (pc1 := 16) (st1 := [.ref 0]) rfl (fun _ => rfl) ?_
          refine pr_getf (pc1 := 19) (v := .ref 114) rfl rfl pg_0 rfl rfl ?_
          refine pr_s (pc1 := 20) (st1 := [.int a1, .ref 114]) rfl (fun _ => rfl) ?_
          refine pr_callv (N := pm_X5_fireUpTo) (as := [.ref 114, .int a1]) (rest := []) (f := 2045) (l := 83929) (c1 := 0) (k1 := 0) (c2 := 0) (k2 := 0) (v := some (.int 0)) (h1 := px_hs) rfl (fun ex => px_inv_hs ex rfl rfl rfl pg_514 rfl rfl rfl rfl) ?_ (Nat.le_of_ble_eq_true rfl) (Nat.le_of_ble_eq_true rfl) ?_
          · refine px_C_of rfl ?_
            refine pr_s (pc1 := 1) (st1 := [.int 0]) rfl (fun _ => rfl) ?_
            refine pr_s (pc1 := 2) (lv1 := [(2, .int 0), (0, .ref 114), (1, .int a1)]) (st1 := []) rfl (fun _ => rfl) ?_
            refine pr_s (pc1 := 3) (st1 := [.int 0]) rfl (fun _ => rfl) ?_
            refine pr_s (pc1 := 4) (st1 := [.int a1, .int 0]) rfl (fun _ => rfl) ?_
            refine pr_bf (t := 153) (off := 149) (bb := decide ((a1 : Int32) ≤ (0 : Int32))) (st1 := []) rfl rfl rfl rfl (pb_leF ha1.1 (show (0 : Int32).toInt ≤ 0 by decide) (by decide)) ?_
            refine pr_s (pc1 := 8) (st1 := [.ref 114]) rfl (fun _ => rfl) ?_
            refine pr_callv (N := pm_X5_firstWaiting) (as := [.ref 114]) (rest := []) (f := 2044) (l := 83905) (c1 := 0) (k1 := 0) (c2 := 0) (k2 := 0) (v := some (.int (-1))) (h1 := px_hs) rfl (fun ex => px_inv_hs ex rfl rfl rfl pg_514 rfl rfl rfl rfl) ?_ (Nat.le_of_ble_eq_true rfl) (Nat.le_of_ble_eq_true rfl) ?_
            · exact px_C_none pc_3 (Nat.le_of_ble_eq_true rfl) (Nat.le_of_ble_eq_true rfl) (Nat.le_of_ble_eq_true rfl) (Nat.le_of_ble_eq_true rfl)
            show px_R _ _ _ _ (11, [(2, .int 0), (0, .ref 114), (1, .int a1)], [.int (-1)], _) _ _ _
            refine pr_s (pc1 := 12) (lv1 := [(3, .int (-1)), (2, .int 0), (0, .ref 114), (1, .int a1)]) (st1 := []) rfl (fun _ => rfl) ?_
            refine pr_s (pc1 := 13) (st1 := [.int (-1)]) rfl (fun _ => rfl) ?_
            refine pr_bt (t := 23) (off := 10) (bb := decide (((-1) : Int32) < 0)) (st1 := []) rfl rfl rfl rfl (by decide) ?_
            refine pr_s (pc1 := 24) (st1 := [.int 0]) rfl (fun _ => rfl) ?_
            exact pr_e rfl (fun _ => rfl) ⟨rfl, rfl⟩
          show px_R _ _ _ _ (23, [(0, .ref 0), (1, .int a1)], [.int 0], _) _ _ _
          refine pr_s (pc1 := 24) (st1 := []) rfl (fun _ => rfl) ?_
          refine pr_s (pc1 := 25) (st1 := [.ref 0]) rfl (fun _ => rfl) ?_
          refine pr_getf (pc1 := 28) (v := .ref 114) rfl rfl pg_0 rfl rfl ?_
          refine pr_getf (pc1 := 31) (v := .ref 115) rfl rfl pg_514 rfl rfl ?_
          refine pr_getf (pc1 := 34) (v := .int 0) rfl rfl pg_515 rfl rfl ?_
          exact pr_e rfl (fun _ => rfl) ⟨rfl, rfl⟩
        show px_R _ _ _ _ (7, [(0, .ref 0), (1, .int a1), (2, .ref 164)], [.int 0, .int 0, .ref 164], _) _ _ _
        refine pr_s (pc1 := 8) (st1 := [.long 0, .int 0, .ref 164]) rfl (fun _ => rfl) ?_
        refine pr_last (pc1 := 9) (h1 := ph_192) rfl pg_8 rfl rfl rfl ?_
        refine pr_s (pc1 := 15) (st1 := []) rfl (fun _ => rfl) ?_
        refine pr_s (pc1 := 16) (st1 := [.int 0]) rfl (fun _ => rfl) ?_
        exact pr_e rfl (fun _ => rfl) ⟨rfl, rfl⟩
      show px_T _ _ _ _ (2489, [(4, .int 0), (3, .ref 164), (2, .ref 136), (1, .ref 0), (0, .retAddr 0)], [.int 0], _) _ _ _
      refine pt_s (pc1 := 2491) (lv1 := [(5, .int 0), (4, .int 0), (3, .ref 164), (2, .ref 136), (1, .ref 0), (0, .retAddr 0)]) (st1 := []) rfl rfl (fun _ => rfl) ?_
      refine pt_s (pc1 := 2492) (st1 := [.ref 136]) rfl rfl (fun _ => rfl) ?_
      refine pt_s (pc1 := 2493) (st1 := [.retAddr 0, .ref 136]) rfl rfl (fun _ => rfl) ?_
      refine pt_s (pc1 := 2495) (st1 := [.int 0, .retAddr 0, .ref 136]) rfl rfl (fun _ => rfl) ?_
      refine pt_s (pc1 := 2496) (st1 := [.int 1, .int 0, .retAddr 0, .ref 136]) rfl rfl (fun _ => rfl) ?_
      refine pt_s (pc1 := 2497) (st1 := [.int 1, .retAddr 0, .ref 136]) rfl rfl (fun _ => rfl) ?_
      refine pt_s (pc1 := 2498) (st1 := [.int a1, .ref 136]) rfl rfl (fun _ => rfl) ?_
      refine pt_callv (N := pm_X10_factsBehind) (as := [.ref 136, .int a1]) (rest := []) (f := 2047) (l := 83979) (c1 := 0) (k1 := 0) (c2 := 599837) (k2 := 7274195) (v := some (.int 0)) (h1 := ph_192) rfl rfl (fun ex => px_inv_hs ex rfl rfl rfl pg_508 rfl rfl rfl rfl) ?_ (Nat.le_of_ble_eq_true rfl) (Nat.le_of_ble_eq_true rfl) ?_
      · exact pq_87 a1 ha1
      show px_T _ _ _ _ (2501, [(5, .int 0), (4, .int 0), (3, .ref 164), (2, .ref 136), (1, .ref 0), (0, .retAddr 0)], [.int 0], _) _ _ _
      refine pt_s (pc1 := 2503) (lv1 := [(6, .int 0), (5, .int 0), (4, .int 0), (3, .ref 164), (2, .ref 136), (1, .ref 0), (0, .retAddr 0)]) (st1 := []) rfl rfl (fun _ => rfl) ?_
      refine pt_s (pc1 := 2504) (st1 := [.ref 136]) rfl rfl (fun _ => rfl) ?_
      refine pt_callv (N := pm_X10_thrown) (as := [.ref 136]) (rest := []) (f := 2047) (l := 83980) (c1 := 0) (k1 := 0) (c2 := 599837) (k2 := 7274195) (v := some (.int 0)) (h1 := ph_192) rfl rfl (fun ex => px_inv_hs ex rfl rfl rfl pg_508 rfl rfl rfl rfl) ?_ (Nat.le_of_ble_eq_true rfl) (Nat.le_of_ble_eq_true rfl) ?_
      · refine px_C_of rfl ?_
        refine pr_s (pc1 := 1) (st1 := [.ref 136]) rfl (fun _ => rfl) ?_
        refine pr_getf (pc1 := 4) (v := .int 0) rfl rfl pg_508 rfl rfl ?_
        exact pr_e rfl (fun _ => rfl) ⟨rfl, rfl⟩
      show px_T _ _ _ _ (2507, [(6, .int 0), (5, .int 0), (4, .int 0), (3, .ref 164), (2, .ref 136), (1, .ref 0), (0, .retAddr 0)], [.int 0], _) _ _ _
      refine pt_s (pc1 := 2509) (st1 := [.int 0, .int 0]) rfl rfl (fun _ => rfl) ?_
      refine pt_bt (t := 2514) (off := 5) (bb := decide ((0 : Int32) = 0)) (st1 := []) rfl rfl rfl rfl rfl (by decide) ?_
      refine pt_s (pc1 := 2516) (st1 := [.int 0]) rfl rfl (fun _ => rfl) ?_
      refine pt_bf (t := 2531) (off := 15) (bb := !decide ((0 : Int32) = 0)) (st1 := []) rfl rfl rfl rfl rfl (px_not_f (by decide)) ?_
      refine pt_s (pc1 := 2520) (st1 := [.ref 164]) rfl rfl (fun _ => rfl) ?_
      refine pt_s (pc1 := 2521) (st1 := [.int 0, .ref 164]) rfl rfl (fun _ => rfl) ?_
      refine pt_lald (pc1 := 2522) (x := 0) rfl pg_511 rfl rfl rfl ?_
      refine pt_s (pc1 := 2524) (st1 := [.int 0, .long 0]) rfl rfl (fun _ => rfl) ?_
      refine pt_s (pc1 := 2525) (st1 := [.long 0, .long 0]) rfl rfl (fun _ => rfl) ?_
      refine pt_s (pc1 := 2526) (st1 := [.int 0]) rfl rfl (fun _ => rfl) ?_
      refine pt_bt (t := 2531) (off := 5) (bb := decide ((0 : Int32) = 0)) (st1 := []) rfl rfl rfl rfl rfl (by decide) ?_
      refine pt_s (pc1 := 2771) (st1 := []) rfl rfl (fun _ => rfl) ?_
      refine pt_s (pc1 := 2774) (lv1 := [(4, .int 6), (6, .int 0), (5, .int 0), (3, .ref 164), (2, .ref 136), (1, .ref 0), (0, .retAddr 0)]) (st1 := []) rfl rfl (fun _ => rfl) ?_
      refine pt_s (pc1 := 23) (st1 := []) rfl rfl (fun _ => rfl) ?_
      refine pt_s (pc1 := 25) (st1 := [.int 6]) rfl rfl (fun _ => rfl) ?_
      refine pt_s (pc1 := 26) (st1 := [.retAddr 0, .int 6]) rfl rfl (fun _ => rfl) ?_
      refine pt_s (pc1 := 27) (st1 := [.int 6, .int 6]) rfl rfl (fun _ => rfl) ?_
      refine pt_s (pc1 := 29) (st1 := [.int 6, .int 6, .int 6]) rfl rfl (fun _ => rfl) ?_
      refine pt_s (pc1 := 30) (st1 := [.int 0, .int 6]) rfl rfl (fun _ => rfl) ?_
      refine pt_bt (t := 2777) (off := 2747) (bb := decide ((0 : Int32) < (6 : Int32))) (st1 := []) rfl rfl rfl rfl rfl (by decide) ?_
      refine pt_s (pc1 := 2778) (st1 := [.int 1]) rfl rfl (fun _ => rfl) ?_
      exact pt_e rfl ⟨rfl, (rfl : px_ins pm_law 2778 = some (.ireturn, 1))⟩
    · have ha1 : 21 ≤ a1.toInt ∧ a1.toInt ≤ 2147483647 := ⟨by omega, ha1.2⟩
      refine pt_s (pc1 := 2478) (st1 := []) rfl rfl (fun _ => rfl) ?_
      refine pt_s (pc1 := 2479) (st1 := [.ref 0]) rfl rfl (fun _ => rfl) ?_
      refine pt_s (pc1 := 2480) (st1 := [.retAddr 0, .ref 0]) rfl rfl (fun _ => rfl) ?_
      refine pt_s (pc1 := 2482) (st1 := [.int 0, .retAddr 0, .ref 0]) rfl rfl (fun _ => rfl) ?_
      refine pt_s (pc1 := 2483) (st1 := [.int 1, .int 0, .retAddr 0, .ref 0]) rfl rfl (fun _ => rfl) ?_
      refine pt_s (pc1 := 2484) (st1 := [.int 1, .retAddr 0, .ref 0]) rfl rfl (fun _ => rfl) ?_
      refine pt_s (pc1 := 2485) (st1 := [.int a1, .ref 0]) rfl rfl (fun _ => rfl) ?_
      refine pt_s (pc1 := 2486) (st1 := [.ref 164, .int a1, .ref 0]) rfl rfl (fun _ => rfl) ?_
      refine pt_callv (N := pm_L_factsBehind) (as := [.ref 0, .int a1, .ref 164]) (rest := []) (f := 2047) (l := 83977) (c1 := 1) (k1 := 6) (c2 := 599836) (k2 := 7274189) (v := some (.int 1)) (h1 := ph_1) rfl rfl (fun _ => rfl) ?_ (Nat.le_of_ble_eq_true rfl) (Nat.le_of_ble_eq_true rfl) ?_
      · refine px_C_of rfl ?_
        refine pr_s (pc1 := 1) (st1 := [.ref 164]) rfl (fun _ => rfl) ?_
        refine pr_s (pc1 := 2) (st1 := [.int 0, .ref 164]) rfl (fun _ => rfl) ?_
        refine pr_s (pc1 := 3) (st1 := [.ref 0, .int 0, .ref 164]) rfl (fun _ => rfl) ?_
        refine pr_s (pc1 := 4) (st1 := [.int a1, .ref 0, .int 0, .ref 164]) rfl (fun _ => rfl) ?_
        refine pr_callx (N := pm_X6_factsBehind) (as := [.ref 0, .int a1]) (rest := [.int 0, .ref 164]) (f := 2046) (l := 83956) (c1 := 1) (k1 := 6) (c2 := 0) (k2 := 0) (E := 12) (h1 := ph_1) (a := 12) (y1 := 3) (y2 := 1) rfl (fun ex => px_inv_hs ex rfl rfl rfl pg_0 rfl rfl rfl rfl) ?_ (Nat.le_of_ble_eq_true rfl) (Nat.le_of_ble_eq_true rfl) rfl rfl rfl rfl ?_
        · refine px_C_of rfl ?_
          refine pr_s (pc1 := 1) (st1 := [.int a1]) rfl (fun _ => rfl) ?_
          refine pr_callo (N := pm_X6_needMost) (as := [.int a1]) (rest := []) (f := 2045) (l := 83936) (E := 12) (h1 := ph_1) rfl (fun _ => rfl) ?_ rfl ⟨rfl, rfl⟩
          · refine px_C_of rfl ?_
            refine pr_s (pc1 := 1) (st1 := [.int a1]) rfl (fun _ => rfl) ?_
            refine pr_s (pc1 := 2) (st1 := [.int 1, .int a1]) rfl (fun _ => rfl) ?_
            refine pr_bf (t := 11) (off := 9) (bb := decide (a1 < 1)) (st1 := []) rfl rfl rfl rfl (pb_ltF ha1.1 (show (1 : Int32).toInt ≤ 1 by decide) (by decide)) ?_
            refine pr_s (pc1 := 6) (st1 := [.int a1]) rfl (fun _ => rfl) ?_
            refine pr_s (pc1 := 8) (st1 := [.int 20, .int a1]) rfl (fun _ => rfl) ?_
            refine pr_bf (t := 22) (off := 14) (bb := decide (a1 ≤ 20)) (st1 := []) rfl rfl rfl rfl (pb_leF ha1.1 (show (20 : Int32).toInt ≤ 20 by decide) (by decide)) ?_
            refine pr_mh (z1 := 1) (z2 := 6) (c1 := 0) (k1 := 0) (pc1 := 21) (n := 165) (r := []) (h1 := ph_1) (es := fun n => [.inr (12, [])]) rfl (fun _ => rfl) pl_0 rfl (Nat.le_of_ble_eq_true rfl) (Nat.le_of_ble_eq_true rfl) ?_
            exact pr_e rfl (fun _ => rfl) ⟨rfl, rfl⟩
        show px_R _ _ _ _ (13, [(0, .ref 0), (1, .int a1), (2, .ref 164)], [], _) _ _ _
        refine pr_s (pc1 := 14) (st1 := [.int 1]) rfl (fun _ => rfl) ?_
        exact pr_e rfl (fun _ => rfl) ⟨rfl, rfl⟩
      show px_T _ _ _ _ (2489, [(4, .int 0), (3, .ref 164), (2, .ref 136), (1, .ref 0), (0, .retAddr 0)], [.int 1], _) _ _ _
      refine pt_s (pc1 := 2491) (lv1 := [(5, .int 1), (4, .int 0), (3, .ref 164), (2, .ref 136), (1, .ref 0), (0, .retAddr 0)]) (st1 := []) rfl rfl (fun _ => rfl) ?_
      refine pt_s (pc1 := 2492) (st1 := [.ref 136]) rfl rfl (fun _ => rfl) ?_
      refine pt_s (pc1 := 2493) (st1 := [.retAddr 0, .ref 136]) rfl rfl (fun _ => rfl) ?_
      refine pt_s (pc1 := 2495) (st1 := [.int 0, .retAddr 0, .ref 136]) rfl rfl (fun _ => rfl) ?_
      refine pt_s (pc1 := 2496) (st1 := [.int 1, .int 0, .retAddr 0, .ref 136]) rfl rfl (fun _ => rfl) ?_
      refine pt_s (pc1 := 2497) (st1 := [.int 1, .retAddr 0, .ref 136]) rfl rfl (fun _ => rfl) ?_
      refine pt_s (pc1 := 2498) (st1 := [.int a1, .ref 136]) rfl rfl (fun _ => rfl) ?_
      refine pt_callv (N := pm_X10_factsBehind) (as := [.ref 136, .int a1]) (rest := []) (f := 2047) (l := 83979) (c1 := 0) (k1 := 0) (c2 := 599836) (k2 := 7274189) (v := some (.int 0)) (h1 := ph_2) rfl rfl (fun ex => px_inv_hs ex rfl rfl rfl pg_2 rfl rfl rfl rfl) ?_ (Nat.le_of_ble_eq_true rfl) (Nat.le_of_ble_eq_true rfl) ?_
      · refine px_C_of rfl ?_
        refine pr_s (pc1 := 1) (st1 := [.ref 136]) rfl (fun _ => rfl) ?_
        refine pr_s (pc1 := 2) (st1 := [.int 0, .ref 136]) rfl (fun _ => rfl) ?_
        refine pr_putf (pc1 := 5) (h1 := ph_1) rfl rfl pg_2 rfl rfl rfl rfl rfl (px_set_same pg_2 rfl) rfl ?_
        refine pr_s (pc1 := 6) (st1 := [.int a1]) rfl (fun _ => rfl) ?_
        refine pr_s (pc1 := 7) (st1 := [.int 1, .int a1]) rfl (fun _ => rfl) ?_
        refine pr_s (pc1 := 9) (st1 := [.int 20, .int 1, .int a1]) rfl (fun _ => rfl) ?_
        refine pr_callv (N := pm_X10_is) (as := [.int a1, .int 1, .int 20]) (rest := []) (f := 2046) (l := 83957) (c1 := 0) (k1 := 0) (c2 := 0) (k2 := 0) (v := some (.int 0)) (h1 := ph_1) rfl (fun _ => rfl) ?_ (Nat.le_of_ble_eq_true rfl) (Nat.le_of_ble_eq_true rfl) ?_
        · refine px_C_of rfl ?_
          refine pr_s (pc1 := 1) (st1 := [.int a1]) rfl (fun _ => rfl) ?_
          refine pr_s (pc1 := 2) (st1 := [.int 1, .int a1]) rfl (fun _ => rfl) ?_
          refine pr_bf (t := 14) (off := 12) (bb := decide (a1 < 1)) (st1 := []) rfl rfl rfl rfl (pb_ltF ha1.1 (show (1 : Int32).toInt ≤ 1 by decide) (by decide)) ?_
          refine pr_s (pc1 := 6) (st1 := [.int a1]) rfl (fun _ => rfl) ?_
          refine pr_s (pc1 := 7) (st1 := [.int 20, .int a1]) rfl (fun _ => rfl) ?_
          refine pr_bt (t := 14) (off := 7) (bb := decide ((20 : Int32) < a1)) (st1 := []) rfl rfl rfl rfl (pb_ltT (show (20 : Int32).toInt ≤ 20 by decide) ha1.1 (by decide)) ?_
          refine pr_s (pc1 := 15) (st1 := [.int 0]) rfl (fun _ => rfl) ?_
          exact pr_e rfl (fun _ => rfl) ⟨rfl, rfl⟩
        show px_R _ _ _ _ (12, [(0, .ref 136), (1, .int a1)], [.int 0], _) _ _ _
        refine pr_bf (t := 21) (off := 9) (bb := !decide ((0 : Int32) = 0)) (st1 := []) rfl rfl rfl rfl (px_not_f (by decide)) ?_
        refine pr_s (pc1 := 16) (st1 := [.ref 136]) rfl (fun _ => rfl) ?_
        refine pr_s (pc1 := 17) (st1 := [.int 1, .ref 136]) rfl (fun _ => rfl) ?_
        refine pr_callv (N := pm_X10_refuse) (as := [.ref 136, .int 1]) (rest := []) (f := 2046) (l := 83958) (c1 := 0) (k1 := 0) (c2 := 0) (k2 := 0) (v := some (.int 0)) (h1 := ph_2) rfl (fun ex => px_inv_hs ex rfl rfl rfl pg_2 rfl rfl rfl rfl) ?_ (Nat.le_of_ble_eq_true rfl) (Nat.le_of_ble_eq_true rfl) ?_
        · refine px_C_of rfl ?_
          refine pr_s (pc1 := 1) (st1 := [.ref 136]) rfl (fun _ => rfl) ?_
          refine pr_s (pc1 := 2) (st1 := [.int 1, .ref 136]) rfl (fun _ => rfl) ?_
          refine pr_putf (pc1 := 5) (h1 := ph_2) rfl rfl pg_2 rfl rfl rfl rfl rfl rfl rfl ?_
          refine pr_s (pc1 := 6) (st1 := [.int 0]) rfl (fun _ => rfl) ?_
          exact pr_e rfl (fun _ => rfl) ⟨rfl, rfl⟩
        show px_R _ _ _ _ (20, [(0, .ref 136), (1, .int a1)], [.int 0], _) _ _ _
        exact pr_e rfl (fun _ => rfl) ⟨rfl, rfl⟩
      show px_T _ _ _ _ (2501, [(5, .int 1), (4, .int 0), (3, .ref 164), (2, .ref 136), (1, .ref 0), (0, .retAddr 0)], [.int 0], _) _ _ _
      refine pt_s (pc1 := 2503) (lv1 := [(6, .int 0), (5, .int 1), (4, .int 0), (3, .ref 164), (2, .ref 136), (1, .ref 0), (0, .retAddr 0)]) (st1 := []) rfl rfl (fun _ => rfl) ?_
      refine pt_s (pc1 := 2504) (st1 := [.ref 136]) rfl rfl (fun _ => rfl) ?_
      refine pt_callv (N := pm_X10_thrown) (as := [.ref 136]) (rest := []) (f := 2047) (l := 83980) (c1 := 0) (k1 := 0) (c2 := 599836) (k2 := 7274189) (v := some (.int 1)) (h1 := ph_2) rfl rfl (fun ex => px_inv_hs ex rfl rfl rfl pg_3 rfl rfl rfl rfl) ?_ (Nat.le_of_ble_eq_true rfl) (Nat.le_of_ble_eq_true rfl) ?_
      · refine px_C_of rfl ?_
        refine pr_s (pc1 := 1) (st1 := [.ref 136]) rfl (fun _ => rfl) ?_
        refine pr_getf (pc1 := 4) (v := .int 1) rfl rfl pg_3 rfl rfl ?_
        exact pr_e rfl (fun _ => rfl) ⟨rfl, rfl⟩
      show px_T _ _ _ _ (2507, [(6, .int 0), (5, .int 1), (4, .int 0), (3, .ref 164), (2, .ref 136), (1, .ref 0), (0, .retAddr 0)], [.int 1], _) _ _ _
      refine pt_s (pc1 := 2509) (st1 := [.int 1, .int 1]) rfl rfl (fun _ => rfl) ?_
      refine pt_bt (t := 2514) (off := 5) (bb := decide ((1 : Int32) = 1)) (st1 := []) rfl rfl rfl rfl rfl (by decide) ?_
      refine pt_s (pc1 := 2516) (st1 := [.int 1]) rfl rfl (fun _ => rfl) ?_
      refine pt_bt (t := 2531) (off := 15) (bb := !decide ((1 : Int32) = 0)) (st1 := []) rfl rfl rfl rfl rfl (px_not_t (by decide)) ?_
      refine pt_s (pc1 := 2771) (st1 := []) rfl rfl (fun _ => rfl) ?_
      refine pt_s (pc1 := 2774) (lv1 := [(4, .int 6), (6, .int 0), (5, .int 1), (3, .ref 164), (2, .ref 136), (1, .ref 0), (0, .retAddr 0)]) (st1 := []) rfl rfl (fun _ => rfl) ?_
      refine pt_s (pc1 := 23) (st1 := []) rfl rfl (fun _ => rfl) ?_
      refine pt_s (pc1 := 25) (st1 := [.int 6]) rfl rfl (fun _ => rfl) ?_
      refine pt_s (pc1 := 26) (st1 := [.retAddr 0, .int 6]) rfl rfl (fun _ => rfl) ?_
      refine pt_s (pc1 := 27) (st1 := [.int 6, .int 6]) rfl rfl (fun _ => rfl) ?_
      refine pt_s (pc1 := 29) (st1 := [.int 6, .int 6, .int 6]) rfl rfl (fun _ => rfl) ?_
      refine pt_s (pc1 := 30) (st1 := [.int 0, .int 6]) rfl rfl (fun _ => rfl) ?_
      refine pt_bt (t := 2777) (off := 2747) (bb := decide ((0 : Int32) < (6 : Int32))) (st1 := []) rfl rfl rfl rfl rfl (by decide) ?_
      refine pt_s (pc1 := 2778) (st1 := [.int 1]) rfl rfl (fun _ => rfl) ?_
      exact pt_e rfl ⟨rfl, (rfl : px_ins pm_law 2778 = some (.ireturn, 1))⟩
