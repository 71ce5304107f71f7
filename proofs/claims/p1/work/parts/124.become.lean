/-! Matches.become, ITS LOOP BY INDUCTION; World.become -/
theorem px_set_same {h : List px_E} {a : Nat} {e e' : px_E} (hh : h[a]? = some e) (he : e' = e) : h.set a e' = h := by
  subst he
  refine List.ext_getElem? fun i => ?_
  by_cases hi : i = a
  · subst hi
    rw [List.getElem?_set_self (List.getElem?_eq_some_iff.mp hh).1, hh]
  · rw [List.getElem?_set_ne (Ne.symm hi)]
theorem px_copy_all {α : Type} {l g : List α} {n : Nat} (hl : l.length = n) (hg : g.length = n) : g.take 0 ++ ((l.drop 0).take n) ++ g.drop (0 + n) = l := by
  rw [List.take_zero, List.drop_zero, List.nil_append, Nat.zero_add, ← hg, List.drop_length, List.append_nil, hg, ← hl, List.take_length]
theorem pb_loop {sx : Option (List Int32)} {fr lo c k : Nat} {P : (Option Value ⊕ Nat) → List px_E → Prop} (K : px_R sx pm_X3_become fr lo (89, [(2, .int 1296), (0, .ref 121), (1, .ref 99)], [], px_hs) c k P) : ∀ (j i : Nat), i + j = 1296 → px_R sx pm_X3_become fr lo (64, [(2, .int (Int32.ofNat i)), (0, .ref 121), (1, .ref 99)], [], px_hs) c k P
  | 0, i, h => by
    obtain rfl : i = 1296 := by omega
    refine pr_s (pc1 := 65) (st1 := [.int 1296]) rfl (fun _ => rfl) ?_
    refine pr_s (pc1 := 68) (st1 := [.int 1296, .int 1296]) rfl (fun _ => rfl) ?_
    exact pr_bt (t := 89) (off := 21) (bb := decide ((1296 : Int32) ≤ 1296)) (st1 := []) rfl rfl rfl rfl (by decide) K
  | j + 1, i, h => by
    have hi : i < 1296 := by omega
    have hz : (Int32.ofNat i).toInt = (i : Int) := nI_toInt (by omega)
    have hcl : (Int32.ofNat i).toNatClampNeg = i := nI_clamp (by omega)
    have hin : px_in (Int32.ofNat i) (List.replicate 1296 (0 : Int32)).length = true := by
      unfold px_in
      rw [hcl, List.length_replicate, decide_eq_false (show ¬ Int32.ofNat i < 0 from nI_pos (by omega))]
      exact Nat.ble_eq_true_of_le hi
    refine pr_s (pc1 := 65) (st1 := [.int (Int32.ofNat i)]) rfl (fun _ => rfl) ?_
    refine pr_s (pc1 := 68) (st1 := [.int 1296, .int (Int32.ofNat i)]) rfl (fun _ => rfl) ?_
    refine pr_bf (t := 89) (off := 21) (bb := decide ((1296 : Int32) ≤ Int32.ofNat i)) (st1 := []) rfl rfl rfl rfl (decide_eq_false (fun q => absurd (Int32.le_iff_toInt_le.mp q) (by rw [hz]; show ¬ (1296 : Int) ≤ (i : Int); omega))) ?_
    refine pr_s (pc1 := 72) (st1 := [.ref 121]) rfl (fun _ => rfl) ?_
    refine pr_getf (pc1 := 75) (v := .ref 126) rfl rfl pg_524 rfl rfl ?_
    refine pr_s (pc1 := 76) (st1 := [.int (Int32.ofNat i), .ref 126]) rfl (fun _ => rfl) ?_
    refine pr_s (pc1 := 77) (st1 := [.ref 99, .int (Int32.ofNat i), .ref 126]) rfl (fun _ => rfl) ?_
    refine pr_getf (pc1 := 80) (v := .ref 104) rfl rfl pg_513 rfl rfl ?_
    refine pr_s (pc1 := 81) (st1 := [.int (Int32.ofNat i), .ref 104, .int (Int32.ofNat i), .ref 126]) rfl (fun _ => rfl) ?_
    refine pr_zald (pc1 := 82) (x := 0) rfl pg_539 hin (px_replD _ _ _) rfl ?_
    refine pr_zast (pc1 := 83) (h1 := px_hs) rfl pg_540 rfl hin (px_set_same pg_540 (by rw [List.set_replicate_self])) rfl ?_
    refine pr_s (pc1 := 86) (lv1 := [(2, .int (Int32.ofNat i + 1)), (0, .ref 121), (1, .ref 99)]) (st1 := []) rfl (fun _ => rfl) ?_
    refine pr_s (pc1 := 64) (st1 := []) rfl (fun _ => rfl) ?_
    rw [← show Int32.ofNat (i + 1) = Int32.ofNat i + 1 from nI_succ i]
    exact pb_loop K j (i + 1) (by omega)
theorem pb_3 {sx : Option (List Int32)} : px_C sx pm_X3_become [.ref 121, .ref 99] px_hs 57 3900 0 0 (fun r h' => r = .inl none ∧ h' = px_hs) := by
  refine px_C_of rfl ?_
  refine pr_s (pc1 := 1) (st1 := [.ref 99]) rfl (fun _ => rfl) ?_
  refine pr_getf (pc1 := 4) (v := .ref 100) rfl rfl pg_513 rfl rfl ?_
  refine pr_s (pc1 := 5) (st1 := [.int 0, .ref 100]) rfl (fun _ => rfl) ?_
  refine pr_s (pc1 := 6) (st1 := [.ref 121, .int 0, .ref 100]) rfl (fun _ => rfl) ?_
  refine pr_getf (pc1 := 9) (v := .ref 122) rfl rfl pg_524 rfl rfl ?_
  refine pr_s (pc1 := 10) (st1 := [.int 0, .ref 122, .int 0, .ref 100]) rfl (fun _ => rfl) ?_
  refine pr_s (pc1 := 12) (st1 := [.int 6, .int 0, .ref 122, .int 0, .ref 100]) rfl (fun _ => rfl) ?_
  refine pr_copy (pc1 := 15) (h1 := px_hs) rfl rfl pg_525 pg_526 rfl rfl rfl rfl rfl rfl rfl (px_set_same pg_526 (congrArg (fun l => (.inl (0, .inl l) : px_E)) (px_copy_all (α := Int32) (l := List.replicate 6 1) (g := List.replicate 6 1) (n := 6) rfl rfl))) rfl ?_
  refine pr_s (pc1 := 16) (st1 := [.ref 99]) rfl (fun _ => rfl) ?_
  refine pr_getf (pc1 := 19) (v := .ref 101) rfl rfl pg_513 rfl rfl ?_
  refine pr_s (pc1 := 20) (st1 := [.int 0, .ref 101]) rfl (fun _ => rfl) ?_
  refine pr_s (pc1 := 21) (st1 := [.ref 121, .int 0, .ref 101]) rfl (fun _ => rfl) ?_
  refine pr_getf (pc1 := 24) (v := .ref 123) rfl rfl pg_524 rfl rfl ?_
  refine pr_s (pc1 := 25) (st1 := [.int 0, .ref 123, .int 0, .ref 101]) rfl (fun _ => rfl) ?_
  refine pr_s (pc1 := 28) (st1 := [.int 1296, .int 0, .ref 123, .int 0, .ref 101]) rfl (fun _ => rfl) ?_
  refine pr_copy (pc1 := 31) (h1 := px_hs) rfl rfl pg_527 pg_528 rfl rfl (by rw [List.length_replicate]; rfl) (by rw [List.length_replicate]; rfl) rfl rfl rfl (px_set_same pg_528 (congrArg (fun l => (.inl (0, .inl l) : px_E)) (px_copy_all (α := Int32) (l := List.replicate 1296 0) (g := List.replicate 1296 0) (n := 1296) List.length_replicate List.length_replicate))) rfl ?_
  refine pr_s (pc1 := 32) (st1 := [.ref 99]) rfl (fun _ => rfl) ?_
  refine pr_getf (pc1 := 35) (v := .ref 102) rfl rfl pg_513 rfl rfl ?_
  refine pr_s (pc1 := 36) (st1 := [.int 0, .ref 102]) rfl (fun _ => rfl) ?_
  refine pr_s (pc1 := 37) (st1 := [.ref 121, .int 0, .ref 102]) rfl (fun _ => rfl) ?_
  refine pr_getf (pc1 := 40) (v := .ref 124) rfl rfl pg_524 rfl rfl ?_
  refine pr_s (pc1 := 41) (st1 := [.int 0, .ref 124, .int 0, .ref 102]) rfl (fun _ => rfl) ?_
  refine pr_s (pc1 := 43) (st1 := [.int 6, .int 0, .ref 124, .int 0, .ref 102]) rfl (fun _ => rfl) ?_
  refine pr_copy (pc1 := 46) (h1 := px_hs) rfl rfl pg_529 pg_530 rfl rfl rfl rfl rfl rfl rfl (px_set_same pg_530 (congrArg (fun l => (.inl (0, .inl l) : px_E)) (px_copy_all (α := Int32) (l := List.replicate 6 0) (g := List.replicate 6 0) (n := 6) rfl rfl))) rfl ?_
  refine pr_s (pc1 := 47) (st1 := [.ref 99]) rfl (fun _ => rfl) ?_
  refine pr_getf (pc1 := 50) (v := .ref 103) rfl rfl pg_513 rfl rfl ?_
  refine pr_s (pc1 := 51) (st1 := [.int 0, .ref 103]) rfl (fun _ => rfl) ?_
  refine pr_s (pc1 := 52) (st1 := [.ref 121, .int 0, .ref 103]) rfl (fun _ => rfl) ?_
  refine pr_getf (pc1 := 55) (v := .ref 125) rfl rfl pg_524 rfl rfl ?_
  refine pr_s (pc1 := 56) (st1 := [.int 0, .ref 125, .int 0, .ref 103]) rfl (fun _ => rfl) ?_
  refine pr_s (pc1 := 59) (st1 := [.int 1296, .int 0, .ref 125, .int 0, .ref 103]) rfl (fun _ => rfl) ?_
  refine pr_copy (pc1 := 62) (h1 := px_hs) rfl rfl pg_531 pg_532 rfl rfl (by rw [List.length_replicate]; rfl) (by rw [List.length_replicate]; rfl) rfl rfl rfl (px_set_same pg_532 (congrArg (fun l => (.inl (0, .inl l) : px_E)) (px_copy_all (α := Int32) (l := List.replicate 1296 0) (g := List.replicate 1296 0) (n := 1296) List.length_replicate List.length_replicate))) rfl ?_
  refine pr_s (pc1 := 63) (st1 := [.int 0]) rfl (fun _ => rfl) ?_
  refine pr_s (pc1 := 64) (lv1 := [(2, .int 0), (0, .ref 121), (1, .ref 99)]) (st1 := []) rfl (fun _ => rfl) ?_
  refine pb_loop ?_ 1296 0 rfl
  refine pr_s (pc1 := 90) (st1 := [.ref 99]) rfl (fun _ => rfl) ?_
  refine pr_getf (pc1 := 93) (v := .ref 105) rfl rfl pg_513 rfl rfl ?_
  refine pr_s (pc1 := 94) (st1 := [.int 0, .ref 105]) rfl (fun _ => rfl) ?_
  refine pr_s (pc1 := 95) (st1 := [.ref 121, .int 0, .ref 105]) rfl (fun _ => rfl) ?_
  refine pr_getf (pc1 := 98) (v := .ref 127) rfl rfl pg_524 rfl rfl ?_
  refine pr_s (pc1 := 99) (st1 := [.int 0, .ref 127, .int 0, .ref 105]) rfl (fun _ => rfl) ?_
  refine pr_s (pc1 := 102) (st1 := [.int 1296, .int 0, .ref 127, .int 0, .ref 105]) rfl (fun _ => rfl) ?_
  refine pr_copyl (pc1 := 105) (h1 := px_hs) rfl rfl pg_533 pg_534 rfl (by rw [List.length_replicate]; rfl) (by rw [List.length_replicate]; rfl) rfl rfl (px_set_same pg_534 (congrArg (fun l => (.inl (2, .inr (.inl l)) : px_E)) (px_copy_all (α := Int64) (l := List.replicate 1296 0) (g := List.replicate 1296 0) (n := 1296) List.length_replicate List.length_replicate))) rfl ?_
  refine pr_s (pc1 := 106) (st1 := [.ref 99]) rfl (fun _ => rfl) ?_
  refine pr_getf (pc1 := 109) (v := .ref 106) rfl rfl pg_513 rfl rfl ?_
  refine pr_s (pc1 := 110) (st1 := [.int 0, .ref 106]) rfl (fun _ => rfl) ?_
  refine pr_s (pc1 := 111) (st1 := [.ref 121, .int 0, .ref 106]) rfl (fun _ => rfl) ?_
  refine pr_getf (pc1 := 114) (v := .ref 128) rfl rfl pg_524 rfl rfl ?_
  refine pr_s (pc1 := 115) (st1 := [.int 0, .ref 128, .int 0, .ref 106]) rfl (fun _ => rfl) ?_
  refine pr_s (pc1 := 118) (st1 := [.int 3888, .int 0, .ref 128, .int 0, .ref 106]) rfl (fun _ => rfl) ?_
  refine pr_copy (pc1 := 121) (h1 := px_hs) rfl rfl pg_535 pg_536 rfl rfl (by rw [List.length_replicate]; rfl) (by rw [List.length_replicate]; rfl) rfl rfl rfl (px_set_same pg_536 (congrArg (fun l => (.inl (0, .inl l) : px_E)) (px_copy_all (α := Int32) (l := List.replicate 3888 0) (g := List.replicate 3888 0) (n := 3888) List.length_replicate List.length_replicate))) rfl ?_
  refine pr_s (pc1 := 122) (st1 := [.ref 99]) rfl (fun _ => rfl) ?_
  refine pr_getf (pc1 := 125) (v := .ref 107) rfl rfl pg_513 rfl rfl ?_
  refine pr_s (pc1 := 126) (st1 := [.int 0, .ref 107]) rfl (fun _ => rfl) ?_
  refine pr_s (pc1 := 127) (st1 := [.ref 121, .int 0, .ref 107]) rfl (fun _ => rfl) ?_
  refine pr_getf (pc1 := 130) (v := .ref 129) rfl rfl pg_524 rfl rfl ?_
  refine pr_s (pc1 := 131) (st1 := [.int 0, .ref 129, .int 0, .ref 107]) rfl (fun _ => rfl) ?_
  refine pr_s (pc1 := 134) (st1 := [.int 3888, .int 0, .ref 129, .int 0, .ref 107]) rfl (fun _ => rfl) ?_
  refine pr_copy (pc1 := 137) (h1 := px_hs) rfl rfl pg_537 pg_538 rfl rfl (by rw [List.length_replicate]; rfl) (by rw [List.length_replicate]; rfl) rfl rfl rfl (px_set_same pg_538 (congrArg (fun l => (.inl (0, .inl l) : px_E)) (px_copy_all (α := Int32) (l := List.replicate 3888 0) (g := List.replicate 3888 0) (n := 3888) List.length_replicate List.length_replicate))) rfl ?_
  exact pr_e rfl (fun _ => rfl) ⟨rfl, rfl⟩
theorem pb_become {sx : Option (List Int32)} : px_C sx pm_X5_become [.ref 114, .ref 92] px_hs 100 8000 0 0 (fun r h' => r = .inl none ∧ h' = px_hs) := by
  refine px_C_of rfl ?_
  refine pr_s (pc1 := 1) (st1 := [.ref 114]) rfl (fun _ => rfl) ?_
  refine pr_getf (pc1 := 4) (v := .ref 115) rfl rfl pg_514 rfl rfl ?_
  refine pr_s (pc1 := 5) (st1 := [.ref 92, .ref 115]) rfl (fun _ => rfl) ?_
  refine pr_getf (pc1 := 8) (v := .ref 93) rfl rfl pg_22 rfl rfl ?_
  refine pr_callv (N := pm_X2_become) (as := [.ref 115, .ref 93]) (rest := []) (f := 99) (l := 7978) (c1 := 0) (k1 := 0) (c2 := 0) (k2 := 0) (v := none) (h1 := px_hs) rfl (fun ex => px_inv_hs ex rfl rfl rfl pg_515 rfl rfl rfl rfl) ?_ (Nat.le_of_ble_eq_true rfl) (Nat.le_of_ble_eq_true rfl) ?_
  · exact px_C_none pc_7 (Nat.le_of_ble_eq_true rfl) (Nat.le_of_ble_eq_true rfl) (Nat.le_of_ble_eq_true rfl) (Nat.le_of_ble_eq_true rfl)
  show px_R _ _ _ _ (11, [(0, .ref 114), (1, .ref 92)], [], _) _ _ _
  refine pr_s (pc1 := 12) (st1 := [.ref 114]) rfl (fun _ => rfl) ?_
  refine pr_getf (pc1 := 15) (v := .ref 121) rfl rfl pg_514 rfl rfl ?_
  refine pr_s (pc1 := 16) (st1 := [.ref 92, .ref 121]) rfl (fun _ => rfl) ?_
  refine pr_getf (pc1 := 19) (v := .ref 99) rfl rfl pg_22 rfl rfl ?_
  refine pr_callv (N := pm_X3_become) (as := [.ref 121, .ref 99]) (rest := []) (f := 99) (l := 7978) (c1 := 0) (k1 := 0) (c2 := 0) (k2 := 0) (v := none) (h1 := px_hs) rfl (fun ex => px_inv_hs ex rfl rfl rfl pg_524 rfl rfl rfl rfl) ?_ (Nat.le_of_ble_eq_true rfl) (Nat.le_of_ble_eq_true rfl) ?_
  · exact px_C_mono pb_3 (Nat.le_of_ble_eq_true rfl) (Nat.le_of_ble_eq_true rfl) (Nat.le_refl _) (Nat.le_refl _) (fun _ _ h => h)
  show px_R _ _ _ _ (22, [(0, .ref 114), (1, .ref 92)], [], _) _ _ _
  refine pr_s (pc1 := 23) (st1 := [.ref 92]) rfl (fun _ => rfl) ?_
  refine pr_getf (pc1 := 26) (v := .ref 110) rfl rfl pg_22 rfl rfl ?_
  refine pr_s (pc1 := 27) (st1 := [.int 0, .ref 110]) rfl (fun _ => rfl) ?_
  refine pr_s (pc1 := 28) (st1 := [.ref 114, .int 0, .ref 110]) rfl (fun _ => rfl) ?_
  refine pr_getf (pc1 := 31) (v := .ref 132) rfl rfl pg_514 rfl rfl ?_
  refine pr_s (pc1 := 32) (st1 := [.int 0, .ref 132, .int 0, .ref 110]) rfl (fun _ => rfl) ?_
  refine pr_s (pc1 := 34) (st1 := [.int 6, .int 0, .ref 132, .int 0, .ref 110]) rfl (fun _ => rfl) ?_
  refine pr_copy (pc1 := 37) (h1 := px_hs) rfl rfl pg_541 pg_542 rfl rfl rfl rfl rfl rfl rfl (px_set_same pg_542 (congrArg (fun l => (.inl (0, .inl l) : px_E)) (px_copy_all (α := Int32) (l := List.replicate 6 0) (g := List.replicate 6 0) (n := 6) rfl rfl))) rfl ?_
  refine pr_s (pc1 := 38) (st1 := [.ref 114]) rfl (fun _ => rfl) ?_
  refine pr_s (pc1 := 39) (st1 := [.ref 92, .ref 114]) rfl (fun _ => rfl) ?_
  refine pr_getf (pc1 := 42) (v := .int 0) rfl rfl pg_22 rfl rfl ?_
  refine pr_putf (pc1 := 45) (h1 := px_hs) rfl rfl pg_514 rfl rfl rfl rfl rfl (px_set_same pg_514 rfl) rfl ?_
  exact pr_e rfl (fun _ => rfl) ⟨rfl, rfl⟩
