/-! THE LAW'S PURE RUN, FOR EVERY SCRIPT OF AT MOST 6 INTS (wip/gen) -/
def wph_0 : List px_E := px_h0 ++ ([.inr (10, [.null, .int 0, .int 0, .null, .null, .long 0])] : List px_E)
def wph_1 : List px_E := (([] : List px_E)) ++ ([.inr (6, [.null, .int 0, .null, .null])] : List px_E)
def wph_2 : List px_E := px_hm ++ ([.inl (2, .inr (.inl ([0])))] : List px_E)
set_option maxRecDepth 100000 in
theorem px_head {sx : Option (List Int32)} {P : px_St → Prop} (K : px_T sx pm_law 2048 84000 (23, [(4, .int 0), (3, .ref 164), (2, .ref 136), (1, .ref 0), (0, .retAddr 0)], [], px_hs) 599837 7274195 P) : px_T sx pm_law 2048 84000 (0, [(0, .retAddr 0)], [], []) 600002 7302232 P := by
  refine pt_m (z1 := 1) (z2 := 4) (c1 := 600001) (k1 := 7302228) (pc1 := 3) (st1 := [.ref 0]) (h1 := wph_1) rfl rfl (fun _ => rfl) (Nat.le_of_ble_eq_true rfl) (Nat.le_of_ble_eq_true rfl) ?_
  refine pt_s (pc1 := 4) (st1 := [.ref 0, .ref 0]) rfl rfl (fun _ => rfl) ?_
  refine pt_callv (N := pm_X6_init) (as := [.ref 0]) (rest := [.ref 0]) (f := 2047) (l := 83978) (c1 := 135) (k1 := 27288) (c2 := 599866) (k2 := 7274940) (v := none) (h1 := px_h0) rfl rfl (fun _ => rfl) ?_ (Nat.le_of_ble_eq_true rfl) (Nat.le_of_ble_eq_true rfl) ?_
  · exact px_C_none pc_x (Nat.le_of_ble_eq_true rfl) (Nat.le_of_ble_eq_true rfl) (Nat.le_of_ble_eq_true rfl) (Nat.le_of_ble_eq_true rfl)
  show px_T _ _ _ _ (7, [(0, .retAddr 0)], [.ref 0], _) _ _ _
  refine pt_s (pc1 := 8) (lv1 := [(1, .ref 0), (0, .retAddr 0)]) (st1 := []) rfl rfl (fun _ => rfl) ?_
  refine pt_m (z1 := 1) (z2 := 6) (c1 := 599865) (k1 := 7274934) (pc1 := 11) (st1 := [.ref 136]) (h1 := wph_0) rfl rfl (fun _ => rfl) (Nat.le_of_ble_eq_true rfl) (Nat.le_of_ble_eq_true rfl) ?_
  refine pt_s (pc1 := 12) (st1 := [.ref 136, .ref 136]) rfl rfl (fun _ => rfl) ?_
  refine pt_callv (N := pm_X10_init) (as := [.ref 136]) (rest := [.ref 136]) (f := 2047) (l := 83980) (c1 := 27) (k1 := 738) (c2 := 599838) (k2 := 7274196) (v := none) (h1 := px_hm) rfl rfl (fun _ => rfl) ?_ (Nat.le_of_ble_eq_true rfl) (Nat.le_of_ble_eq_true rfl) ?_
  · exact px_C_none pc_m (Nat.le_of_ble_eq_true rfl) (Nat.le_of_ble_eq_true rfl) (Nat.le_of_ble_eq_true rfl) (Nat.le_of_ble_eq_true rfl)
  show px_T _ _ _ _ (15, [(1, .ref 0), (0, .retAddr 0)], [.ref 136], _) _ _ _
  refine pt_s (pc1 := 16) (lv1 := [(2, .ref 136), (1, .ref 0), (0, .retAddr 0)]) (st1 := []) rfl rfl (fun _ => rfl) ?_
  refine pt_s (pc1 := 17) (st1 := [.int 1]) rfl rfl (fun _ => rfl) ?_
  refine pt_m (z1 := 1) (z2 := 1) (c1 := 599837) (k1 := 7274195) (pc1 := 19) (st1 := [.ref 164]) (h1 := wph_2) rfl rfl (fun _ => rfl) (Nat.le_of_ble_eq_true rfl) (Nat.le_of_ble_eq_true rfl) ?_
  refine pt_s (pc1 := 20) (lv1 := [(3, .ref 164), (2, .ref 136), (1, .ref 0), (0, .retAddr 0)]) (st1 := []) rfl rfl (fun _ => rfl) ?_
  refine pt_s (pc1 := 21) (st1 := [.int 0]) rfl rfl (fun _ => rfl) ?_
  refine pt_s (pc1 := 23) (lv1 := [(4, .int 0), (3, .ref 164), (2, .ref 136), (1, .ref 0), (0, .retAddr 0)]) (st1 := []) rfl rfl (fun _ => rfl) ?_
  exact K
abbrev px_POST : px_St → Prop := fun s1 => s1.2.2.1 = [.int 1] ∧ px_ins pm_law s1.1 = some (.ireturn, 1)
theorem px_len_0 : px_T (some []) pm_law 2048 84000 (23, [(4, .int 0), (3, .ref 164), (2, .ref 136), (1, .ref 0), (0, .retAddr 0)], [], px_hs) 599837 7274195 px_POST := by
  refine pt_s (pc1 := 25) (st1 := [.int 0]) rfl rfl (fun _ => rfl) ?_
  refine pt_s (pc1 := 26) (st1 := [.retAddr 0, .int 0]) rfl rfl (fun _ => rfl) ?_
  refine pt_s (pc1 := 27) (st1 := [.int 0, .int 0]) rfl rfl (fun _ => rfl) ?_
  refine pt_s (pc1 := 29) (st1 := [.int 6, .int 0, .int 0]) rfl rfl (fun _ => rfl) ?_
  refine pt_s (pc1 := 30) (st1 := [.int (-6), .int 0]) rfl rfl (fun _ => rfl) ?_
  refine pt_bt (t := 2777) (off := 2747) (bb := decide (((-6) : Int32) < (0 : Int32))) (st1 := []) rfl rfl rfl rfl rfl (by decide) ?_
  refine pt_s (pc1 := 2778) (st1 := [.int 1]) rfl rfl (fun _ => rfl) ?_
  exact pt_e rfl ⟨rfl, (rfl : px_ins pm_law 2778 = some (.ireturn, 1))⟩
theorem px_len_1 (a0 : Int32) : px_T (some [a0]) pm_law 2048 84000 (23, [(4, .int 0), (3, .ref 164), (2, .ref 136), (1, .ref 0), (0, .retAddr 0)], [], px_hs) 599837 7274195 px_POST := by
  refine pt_s (pc1 := 25) (st1 := [.int 0]) rfl rfl (fun _ => rfl) ?_
  refine pt_s (pc1 := 26) (st1 := [.retAddr 0, .int 0]) rfl rfl (fun _ => rfl) ?_
  refine pt_s (pc1 := 27) (st1 := [.int 1, .int 0]) rfl rfl (fun _ => rfl) ?_
  refine pt_s (pc1 := 29) (st1 := [.int 6, .int 1, .int 0]) rfl rfl (fun _ => rfl) ?_
  refine pt_s (pc1 := 30) (st1 := [.int (-5), .int 0]) rfl rfl (fun _ => rfl) ?_
  refine pt_bt (t := 2777) (off := 2747) (bb := decide (((-5) : Int32) < (0 : Int32))) (st1 := []) rfl rfl rfl rfl rfl (by decide) ?_
  refine pt_s (pc1 := 2778) (st1 := [.int 1]) rfl rfl (fun _ => rfl) ?_
  exact pt_e rfl ⟨rfl, (rfl : px_ins pm_law 2778 = some (.ireturn, 1))⟩
theorem px_len_2 (a0 a1 : Int32) : px_T (some [a0, a1]) pm_law 2048 84000 (23, [(4, .int 0), (3, .ref 164), (2, .ref 136), (1, .ref 0), (0, .retAddr 0)], [], px_hs) 599837 7274195 px_POST := by
  refine pt_s (pc1 := 25) (st1 := [.int 0]) rfl rfl (fun _ => rfl) ?_
  refine pt_s (pc1 := 26) (st1 := [.retAddr 0, .int 0]) rfl rfl (fun _ => rfl) ?_
  refine pt_s (pc1 := 27) (st1 := [.int 2, .int 0]) rfl rfl (fun _ => rfl) ?_
  refine pt_s (pc1 := 29) (st1 := [.int 6, .int 2, .int 0]) rfl rfl (fun _ => rfl) ?_
  refine pt_s (pc1 := 30) (st1 := [.int (-4), .int 0]) rfl rfl (fun _ => rfl) ?_
  refine pt_bt (t := 2777) (off := 2747) (bb := decide (((-4) : Int32) < (0 : Int32))) (st1 := []) rfl rfl rfl rfl rfl (by decide) ?_
  refine pt_s (pc1 := 2778) (st1 := [.int 1]) rfl rfl (fun _ => rfl) ?_
  exact pt_e rfl ⟨rfl, (rfl : px_ins pm_law 2778 = some (.ireturn, 1))⟩
theorem px_len_3 (a0 a1 a2 : Int32) : px_T (some [a0, a1, a2]) pm_law 2048 84000 (23, [(4, .int 0), (3, .ref 164), (2, .ref 136), (1, .ref 0), (0, .retAddr 0)], [], px_hs) 599837 7274195 px_POST := by
  refine pt_s (pc1 := 25) (st1 := [.int 0]) rfl rfl (fun _ => rfl) ?_
  refine pt_s (pc1 := 26) (st1 := [.retAddr 0, .int 0]) rfl rfl (fun _ => rfl) ?_
  refine pt_s (pc1 := 27) (st1 := [.int 3, .int 0]) rfl rfl (fun _ => rfl) ?_
  refine pt_s (pc1 := 29) (st1 := [.int 6, .int 3, .int 0]) rfl rfl (fun _ => rfl) ?_
  refine pt_s (pc1 := 30) (st1 := [.int (-3), .int 0]) rfl rfl (fun _ => rfl) ?_
  refine pt_bt (t := 2777) (off := 2747) (bb := decide (((-3) : Int32) < (0 : Int32))) (st1 := []) rfl rfl rfl rfl rfl (by decide) ?_
  refine pt_s (pc1 := 2778) (st1 := [.int 1]) rfl rfl (fun _ => rfl) ?_
  exact pt_e rfl ⟨rfl, (rfl : px_ins pm_law 2778 = some (.ireturn, 1))⟩
theorem px_len_4 (a0 a1 a2 a3 : Int32) : px_T (some [a0, a1, a2, a3]) pm_law 2048 84000 (23, [(4, .int 0), (3, .ref 164), (2, .ref 136), (1, .ref 0), (0, .retAddr 0)], [], px_hs) 599837 7274195 px_POST := by
  refine pt_s (pc1 := 25) (st1 := [.int 0]) rfl rfl (fun _ => rfl) ?_
  refine pt_s (pc1 := 26) (st1 := [.retAddr 0, .int 0]) rfl rfl (fun _ => rfl) ?_
  refine pt_s (pc1 := 27) (st1 := [.int 4, .int 0]) rfl rfl (fun _ => rfl) ?_
  refine pt_s (pc1 := 29) (st1 := [.int 6, .int 4, .int 0]) rfl rfl (fun _ => rfl) ?_
  refine pt_s (pc1 := 30) (st1 := [.int (-2), .int 0]) rfl rfl (fun _ => rfl) ?_
  refine pt_bt (t := 2777) (off := 2747) (bb := decide (((-2) : Int32) < (0 : Int32))) (st1 := []) rfl rfl rfl rfl rfl (by decide) ?_
  refine pt_s (pc1 := 2778) (st1 := [.int 1]) rfl rfl (fun _ => rfl) ?_
  exact pt_e rfl ⟨rfl, (rfl : px_ins pm_law 2778 = some (.ireturn, 1))⟩
theorem px_len_5 (a0 a1 a2 a3 a4 : Int32) : px_T (some [a0, a1, a2, a3, a4]) pm_law 2048 84000 (23, [(4, .int 0), (3, .ref 164), (2, .ref 136), (1, .ref 0), (0, .retAddr 0)], [], px_hs) 599837 7274195 px_POST := by
  refine pt_s (pc1 := 25) (st1 := [.int 0]) rfl rfl (fun _ => rfl) ?_
  refine pt_s (pc1 := 26) (st1 := [.retAddr 0, .int 0]) rfl rfl (fun _ => rfl) ?_
  refine pt_s (pc1 := 27) (st1 := [.int 5, .int 0]) rfl rfl (fun _ => rfl) ?_
  refine pt_s (pc1 := 29) (st1 := [.int 6, .int 5, .int 0]) rfl rfl (fun _ => rfl) ?_
  refine pt_s (pc1 := 30) (st1 := [.int (-1), .int 0]) rfl rfl (fun _ => rfl) ?_
  refine pt_bt (t := 2777) (off := 2747) (bb := decide (((-1) : Int32) < (0 : Int32))) (st1 := []) rfl rfl rfl rfl rfl (by decide) ?_
  refine pt_s (pc1 := 2778) (st1 := [.int 1]) rfl rfl (fun _ => rfl) ?_
  exact pt_e rfl ⟨rfl, (rfl : px_ins pm_law 2778 = some (.ireturn, 1))⟩
theorem px_and63 (a : Int32) : 0 ≤ (a &&& 63).toInt ∧ (a &&& 63).toInt ≤ 63 := by
  have h : (a &&& 63).toBitVec.toNat ≤ 63 := by
    rw [Int32.toBitVec_and, BitVec.toNat_and]
    exact Nat.and_le_right
  have h2 : (a &&& 63).toInt = ((a &&& 63).toBitVec.toNat : Int) := by
    show (a &&& 63).toBitVec.toInt = _
    rw [BitVec.toInt_eq_toNat_of_lt (by omega)]
  omega
theorem pt_sw {sx : Option (List Int32)} {M : px_M} {fr lo pc len c k t : Nat} {ins : Instr} {lv : px_L} {st st1 : List Value} {h : List px_E} {P : px_St → Prop} {bb : Bool} {A B : px_Nx} (hi : px_ins M pc = some (ins, len)) (hE : px_isE ins = false) (hs1 : px_g1 M ins len pc lv st h = none) (hs : px_g2 ins len pc lv st h = bif bb then A else B) (hb : bb = true) (hA : A = some (0, 0, .inl (t, lv, st1, h))) (K : px_T sx M fr lo (t, lv, st1, h) c k P) : px_T sx M fr lo (pc, lv, st, h) c k P :=
  pt_s hi hE (fun ex => by unfold px_step; rw [hs1, hs, hb, cond_true, hA]; rfl) K
theorem px_op_else (a0 a1 a2 a3 a4 a5 v : Int32) (hv : 45 ≤ v.toInt) : px_T (some [a0, a1, a2, a3, a4, a5]) pm_law 2048 84000 (40, [(4, .int 0), (3, .ref 164), (2, .ref 136), (1, .ref 0), (0, .retAddr 0)], [.int v], px_hs) 599837 7274195 px_POST := by
  refine pt_sw (bb := decide (v.toInt < 0) || decide (44 < v.toInt)) (t := 2771) (st1 := []) rfl rfl rfl rfl (by rw [decide_eq_true (show (44 : Int) < v.toInt by omega), Bool.or_true]) rfl ?_
  refine pt_s (pc1 := 2774) (lv1 := [(4, .int 6), (3, .ref 164), (2, .ref 136), (1, .ref 0), (0, .retAddr 0)]) (st1 := []) rfl rfl (fun _ => rfl) ?_
  refine pt_s (pc1 := 23) (st1 := []) rfl rfl (fun _ => rfl) ?_
  refine pt_s (pc1 := 25) (st1 := [.int 6]) rfl rfl (fun _ => rfl) ?_
  refine pt_s (pc1 := 26) (st1 := [.retAddr 0, .int 6]) rfl rfl (fun _ => rfl) ?_
  refine pt_s (pc1 := 27) (st1 := [.int 6, .int 6]) rfl rfl (fun _ => rfl) ?_
  refine pt_s (pc1 := 29) (st1 := [.int 6, .int 6, .int 6]) rfl rfl (fun _ => rfl) ?_
  refine pt_s (pc1 := 30) (st1 := [.int 0, .int 6]) rfl rfl (fun _ => rfl) ?_
  refine pt_bt (t := 2777) (off := 2747) (bb := decide ((0 : Int32) < (6 : Int32))) (st1 := []) rfl rfl rfl rfl rfl (by decide) ?_
  refine pt_s (pc1 := 2778) (st1 := [.int 1]) rfl rfl (fun _ => rfl) ?_
  exact pt_e rfl ⟨rfl, (rfl : px_ins pm_law 2778 = some (.ireturn, 1))⟩
theorem px_len_6 (a0 a1 a2 a3 a4 a5 : Int32) : px_T (some [a0, a1, a2, a3, a4, a5]) pm_law 2048 84000 (23, [(4, .int 0), (3, .ref 164), (2, .ref 136), (1, .ref 0), (0, .retAddr 0)], [], px_hs) 599837 7274195 px_POST := by
  refine pt_s (pc1 := 25) (st1 := [.int 0]) rfl rfl (fun _ => rfl) ?_
  refine pt_s (pc1 := 26) (st1 := [.retAddr 0, .int 0]) rfl rfl (fun _ => rfl) ?_
  refine pt_s (pc1 := 27) (st1 := [.int 6, .int 0]) rfl rfl (fun _ => rfl) ?_
  refine pt_s (pc1 := 29) (st1 := [.int 6, .int 6, .int 0]) rfl rfl (fun _ => rfl) ?_
  refine pt_s (pc1 := 30) (st1 := [.int 0, .int 0]) rfl rfl (fun _ => rfl) ?_
  refine pt_bf (t := 2777) (off := 2747) (bb := decide ((0 : Int32) < (0 : Int32))) (st1 := []) rfl rfl rfl rfl rfl (by decide) ?_
  refine pt_s (pc1 := 34) (st1 := [.retAddr 0]) rfl rfl (fun _ => rfl) ?_
  refine pt_s (pc1 := 36) (st1 := [.int 0, .retAddr 0]) rfl rfl (fun _ => rfl) ?_
  refine pt_s (pc1 := 37) (st1 := [.int a0]) rfl rfl (fun _ => rfl) ?_
  refine pt_s (pc1 := 39) (st1 := [.int 63, .int a0]) rfl rfl (fun _ => rfl) ?_
  refine pt_s (pc1 := 40) (st1 := [.int (a0 &&& 63)]) rfl rfl (fun _ => rfl) ?_
  have hw := px_and63 a0
  generalize a0 &&& 63 = v at hw ⊢
  have hc : v.toInt = 0 ∨ v.toInt = 1 ∨ v.toInt = 2 ∨ v.toInt = 3 ∨ v.toInt = 4 ∨ v.toInt = 5 ∨ v.toInt = 6 ∨ v.toInt = 7 ∨ v.toInt = 8 ∨ v.toInt = 9 ∨ v.toInt = 10 ∨ v.toInt = 11 ∨ v.toInt = 12 ∨ v.toInt = 13 ∨ v.toInt = 14 ∨ v.toInt = 15 ∨ v.toInt = 16 ∨ v.toInt = 17 ∨ v.toInt = 18 ∨ v.toInt = 19 ∨ v.toInt = 20 ∨ v.toInt = 21 ∨ v.toInt = 22 ∨ v.toInt = 23 ∨ v.toInt = 24 ∨ v.toInt = 25 ∨ v.toInt = 26 ∨ v.toInt = 27 ∨ v.toInt = 28 ∨ v.toInt = 29 ∨ v.toInt = 30 ∨ v.toInt = 31 ∨ v.toInt = 32 ∨ v.toInt = 33 ∨ v.toInt = 34 ∨ v.toInt = 35 ∨ v.toInt = 36 ∨ v.toInt = 37 ∨ v.toInt = 38 ∨ v.toInt = 39 ∨ v.toInt = 40 ∨ v.toInt = 41 ∨ v.toInt = 42 ∨ v.toInt = 43 ∨ v.toInt = 44 ∨ 45 ≤ v.toInt := by omega
  rcases hc with hc | hc | hc | hc | hc | hc | hc | hc | hc | hc | hc | hc | hc | hc | hc | hc | hc | hc | hc | hc | hc | hc | hc | hc | hc | hc | hc | hc | hc | hc | hc | hc | hc | hc | hc | hc | hc | hc | hc | hc | hc | hc | hc | hc | hc | hc
  · obtain rfl : v = 0 := Int32.toInt_inj.mp (hc.trans rfl)
    exact px_op_0 a0 a1 a2 a3 a4 a5
  · obtain rfl : v = 1 := Int32.toInt_inj.mp (hc.trans rfl)
    exact px_op_1 a0 a1 a2 a3 a4 a5
  · obtain rfl : v = 2 := Int32.toInt_inj.mp (hc.trans rfl)
    exact px_op_2 a0 a1 a2 a3 a4 a5
  · obtain rfl : v = 3 := Int32.toInt_inj.mp (hc.trans rfl)
    exact px_op_3 a0 a1 a2 a3 a4 a5
  · obtain rfl : v = 4 := Int32.toInt_inj.mp (hc.trans rfl)
    exact px_op_4 a0 a1 a2 a3 a4 a5
  · obtain rfl : v = 5 := Int32.toInt_inj.mp (hc.trans rfl)
    exact px_op_5 a0 a1 a2 a3 a4 a5
  · obtain rfl : v = 6 := Int32.toInt_inj.mp (hc.trans rfl)
    exact px_op_6 a0 a1 a2 a3 a4 a5
  · obtain rfl : v = 7 := Int32.toInt_inj.mp (hc.trans rfl)
    exact px_op_7 a0 a1 a2 a3 a4 a5
  · obtain rfl : v = 8 := Int32.toInt_inj.mp (hc.trans rfl)
    exact px_op_8 a0 a1 a2 a3 a4 a5
  · obtain rfl : v = 9 := Int32.toInt_inj.mp (hc.trans rfl)
    exact px_op_9 a0 a1 a2 a3 a4 a5
  · obtain rfl : v = 10 := Int32.toInt_inj.mp (hc.trans rfl)
    exact px_op_10 a0 a1 a2 a3 a4 a5
  · obtain rfl : v = 11 := Int32.toInt_inj.mp (hc.trans rfl)
    exact px_op_11 a0 a1 a2 a3 a4 a5
  · obtain rfl : v = 12 := Int32.toInt_inj.mp (hc.trans rfl)
    exact px_op_12 a0 a1 a2 a3 a4 a5
  · obtain rfl : v = 13 := Int32.toInt_inj.mp (hc.trans rfl)
    exact px_op_13 a0 a1 a2 a3 a4 a5
  · obtain rfl : v = 14 := Int32.toInt_inj.mp (hc.trans rfl)
    exact px_op_14 a0 a1 a2 a3 a4 a5
  · obtain rfl : v = 15 := Int32.toInt_inj.mp (hc.trans rfl)
    exact px_op_15 a0 a1 a2 a3 a4 a5
  · obtain rfl : v = 16 := Int32.toInt_inj.mp (hc.trans rfl)
    exact px_op_16 a0 a1 a2 a3 a4 a5
  · obtain rfl : v = 17 := Int32.toInt_inj.mp (hc.trans rfl)
    exact px_op_17 a0 a1 a2 a3 a4 a5
  · obtain rfl : v = 18 := Int32.toInt_inj.mp (hc.trans rfl)
    exact px_op_18 a0 a1 a2 a3 a4 a5
  · obtain rfl : v = 19 := Int32.toInt_inj.mp (hc.trans rfl)
    exact px_op_19 a0 a1 a2 a3 a4 a5
  · obtain rfl : v = 20 := Int32.toInt_inj.mp (hc.trans rfl)
    exact px_op_20 a0 a1 a2 a3 a4 a5
  · obtain rfl : v = 21 := Int32.toInt_inj.mp (hc.trans rfl)
    exact px_op_21 a0 a1 a2 a3 a4 a5
  · obtain rfl : v = 22 := Int32.toInt_inj.mp (hc.trans rfl)
    exact px_op_22 a0 a1 a2 a3 a4 a5
  · obtain rfl : v = 23 := Int32.toInt_inj.mp (hc.trans rfl)
    exact px_op_23 a0 a1 a2 a3 a4 a5
  · obtain rfl : v = 24 := Int32.toInt_inj.mp (hc.trans rfl)
    exact px_op_24 a0 a1 a2 a3 a4 a5
  · obtain rfl : v = 25 := Int32.toInt_inj.mp (hc.trans rfl)
    exact px_op_25 a0 a1 a2 a3 a4 a5
  · obtain rfl : v = 26 := Int32.toInt_inj.mp (hc.trans rfl)
    exact px_op_26 a0 a1 a2 a3 a4 a5
  · obtain rfl : v = 27 := Int32.toInt_inj.mp (hc.trans rfl)
    exact px_op_27 a0 a1 a2 a3 a4 a5
  · obtain rfl : v = 28 := Int32.toInt_inj.mp (hc.trans rfl)
    exact px_op_28 a0 a1 a2 a3 a4 a5
  · obtain rfl : v = 29 := Int32.toInt_inj.mp (hc.trans rfl)
    exact px_op_29 a0 a1 a2 a3 a4 a5
  · obtain rfl : v = 30 := Int32.toInt_inj.mp (hc.trans rfl)
    exact px_op_30 a0 a1 a2 a3 a4 a5
  · obtain rfl : v = 31 := Int32.toInt_inj.mp (hc.trans rfl)
    exact px_op_31 a0 a1 a2 a3 a4 a5
  · obtain rfl : v = 32 := Int32.toInt_inj.mp (hc.trans rfl)
    exact px_op_32 a0 a1 a2 a3 a4 a5
  · obtain rfl : v = 33 := Int32.toInt_inj.mp (hc.trans rfl)
    exact px_op_33 a0 a1 a2 a3 a4 a5
  · obtain rfl : v = 34 := Int32.toInt_inj.mp (hc.trans rfl)
    exact px_op_34 a0 a1 a2 a3 a4 a5
  · obtain rfl : v = 35 := Int32.toInt_inj.mp (hc.trans rfl)
    exact px_op_35 a0 a1 a2 a3 a4 a5
  · obtain rfl : v = 36 := Int32.toInt_inj.mp (hc.trans rfl)
    exact px_op_36 a0 a1 a2 a3 a4 a5
  · obtain rfl : v = 37 := Int32.toInt_inj.mp (hc.trans rfl)
    exact px_op_37 a0 a1 a2 a3 a4 a5
  · obtain rfl : v = 38 := Int32.toInt_inj.mp (hc.trans rfl)
    exact px_op_38 a0 a1 a2 a3 a4 a5
  · obtain rfl : v = 39 := Int32.toInt_inj.mp (hc.trans rfl)
    exact px_op_39 a0 a1 a2 a3 a4 a5
  · obtain rfl : v = 40 := Int32.toInt_inj.mp (hc.trans rfl)
    exact px_op_40 a0 a1 a2 a3 a4 a5
  · obtain rfl : v = 41 := Int32.toInt_inj.mp (hc.trans rfl)
    exact px_op_41 a0 a1 a2 a3 a4 a5
  · obtain rfl : v = 42 := Int32.toInt_inj.mp (hc.trans rfl)
    exact px_op_42 a0 a1 a2 a3 a4 a5
  · obtain rfl : v = 43 := Int32.toInt_inj.mp (hc.trans rfl)
    exact px_op_43 a0 a1 a2 a3 a4 a5
  · obtain rfl : v = 44 := Int32.toInt_inj.mp (hc.trans rfl)
    exact px_op_44 a0 a1 a2 a3 a4 a5
  · exact px_op_else a0 a1 a2 a3 a4 a5 v hc
theorem law_pure (xl : List Int32) (hL : xl.length ≤ 6) : ∃ n s1 cc sl, px_to (some xl) n pm_law 2048 84000 (0, [(0, .retAddr 0)], [], []) = some (s1, cc, sl) ∧ cc ≤ 600002 ∧ sl ≤ 7302232 ∧ px_ins pm_law s1.1 = some (.ireturn, 1) ∧ s1.2.2.1 = [.int 1] := by
  have key : px_T (some xl) pm_law 2048 84000 (0, [(0, .retAddr 0)], [], []) 600002 7302232 px_POST := by
    refine px_head ?_
    match xl, hL with
    | [], _ => exact px_len_0
    | [a0], _ => exact px_len_1 a0
    | [a0, a1], _ => exact px_len_2 a0 a1
    | [a0, a1, a2], _ => exact px_len_3 a0 a1 a2
    | [a0, a1, a2, a3], _ => exact px_len_4 a0 a1 a2 a3
    | [a0, a1, a2, a3, a4], _ => exact px_len_5 a0 a1 a2 a3 a4
    | [a0, a1, a2, a3, a4, a5], _ => exact px_len_6 a0 a1 a2 a3 a4 a5
    | _ :: _ :: _ :: _ :: _ :: _ :: _ :: _, h => exact absurd h (by simp only [List.length_cons]; omega)
  obtain ⟨n, s1, cc, sl, h1, h2, h3, h4, h5⟩ := key
  exact ⟨n, s1, cc, sl, h1, h2, h3, h5, h4⟩
