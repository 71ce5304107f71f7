set_option maxRecDepth 100000 in
theorem pl_0 : px_hs.length = 165 := rfl
set_option maxRecDepth 100000 in
theorem pg_0 : px_hs[0]? = some (.inr (6, [.ref 1, .int 0, .ref 92, .ref 114])) := rfl
set_option maxRecDepth 100000 in
theorem pg_1 : px_hs[136]? = some (.inr (10, [.ref 137, .int 0, .int 0, .ref 138, .ref 151, .long 0])) := rfl
set_option maxRecDepth 100000 in
theorem pg_2 : ph_1[136]? = some (.inr (10, [.ref 137, .int 0, .int 0, .ref 138, .ref 151, .long 0])) := (px_get_lt pl_0 (Nat.le_of_ble_eq_true rfl) pg_1)
set_option maxRecDepth 100000 in
theorem pl_1 : ph_1.length = 166 := px_len_app pl_0 rfl
set_option maxRecDepth 100000 in
theorem pg_3 : ph_2[136]? = some (.inr (10, [.ref 137, .int 0, .int 0, .ref 138, .ref 151, .long 0])) := (px_get_eq pl_1 (Nat.le_of_ble_eq_true rfl))
set_option maxRecDepth 100000 in
theorem pl_2 : ph_2.length = 166 := px_len_set pl_1
set_option maxRecDepth 100000 in
theorem pg_4 : ph_3[136]? = some (.inr (10, [.ref 137, .int 0, .int 1, .ref 138, .ref 151, .long 0])) := (px_get_eq pl_2 (Nat.le_of_ble_eq_true rfl))
set_option maxRecDepth 100000 in
theorem pg_5 : px_hs[1]? = some (.inl (3, .inr (.inr ([some 2, some 17, some 32, some 47, some 62, some 77])))) := rfl
set_option maxRecDepth 100000 in
theorem pg_6 : px_hs[2]? = some (.inr (4, [.int 0, .int 0, .ref 3, .ref 11])) := rfl
set_option maxRecDepth 100000 in
theorem pg_7 (a1 : Int32) : (ph_4 a1)[0]? = some (.inr (6, [.ref 1, .int 0, .ref 92, .ref 114])) := (px_get_ne (Nat.ne_of_beq_eq_false rfl) pg_0)
set_option maxRecDepth 100000 in
theorem pl_3 (a1 : Int32) : (ph_4 a1).length = 165 := px_len_set pl_0
set_option maxRecDepth 100000 in
theorem pg_8 (a1 : Int32) : (ph_5 a1)[0]? = some (.inr (6, [.ref 1, .int 1, .ref 92, .ref 114])) := (px_get_eq (pl_3 a1) (Nat.le_of_ble_eq_true rfl))
set_option maxRecDepth 100000 in
theorem pg_9 : px_hs[164]? = some (.inl (2, .inr (.inl ([0])))) := rfl
set_option maxRecDepth 100000 in
theorem pg_10 (a1 : Int32) : (ph_5 a1)[164]? = some (.inl (2, .inr (.inl ([0])))) := (px_get_ne (Nat.ne_of_beq_eq_false rfl) (px_get_ne (Nat.ne_of_beq_eq_false rfl) pg_9))
set_option maxRecDepth 100000 in
theorem pg_11 (a1 : Int32) : (ph_6 a1)[136]? = some (.inr (10, [.ref 137, .int 0, .int 0, .ref 138, .ref 151, .long 0])) := (px_get_ne (Nat.ne_of_beq_eq_false rfl) (px_get_ne (Nat.ne_of_beq_eq_false rfl) (px_get_ne (Nat.ne_of_beq_eq_false rfl) pg_1)))
set_option maxRecDepth 100000 in
theorem pl_4 (a1 : Int32) : (ph_5 a1).length = 165 := px_len_set (pl_3 a1)
set_option maxRecDepth 100000 in
theorem pl_5 (a1 : Int32) : (ph_6 a1).length = 165 := px_len_set (pl_4 a1)
set_option maxRecDepth 100000 in
theorem pg_12 (a1 : Int32) : (ph_7 a1)[136]? = some (.inr (10, [.ref 137, .int 0, .int 0, .ref 138, .ref 151, .long 0])) := (px_get_eq (pl_5 a1) (Nat.le_of_ble_eq_true rfl))
set_option maxRecDepth 100000 in
theorem pl_6 (a1 : Int32) : (ph_7 a1).length = 165 := px_len_set (pl_5 a1)
set_option maxRecDepth 100000 in
theorem pl_7 (a1 : Int32) : (ph_8 a1).length = 166 := px_len_app (pl_6 a1) rfl
set_option maxRecDepth 100000 in
theorem pg_13 (a1 : Int32) : (ph_9 a1)[165]? = some (.inr (8, [.int 0, .int 0, .int 0, .null, .null])) := (px_get_lt (pl_7 a1) (Nat.le_of_ble_eq_true rfl) (px_get_ge (k := 0) (pl_6 a1) rfl rfl))
set_option maxRecDepth 100000 in
theorem pl_8 (a1 : Int32) : (ph_9 a1).length = 171 := px_len_app (pl_7 a1) rfl
set_option maxRecDepth 100000 in
theorem pl_9 (a1 : Int32) : (ph_10 a1).length = 171 := px_len_set (pl_8 a1)
set_option maxRecDepth 100000 in
theorem pg_14 (a1 : Int32) : (ph_11 a1)[165]? = some (.inr (8, [.int 0, .int 0, .int 0, .ref 166, .null])) := (px_get_lt (pl_9 a1) (Nat.le_of_ble_eq_true rfl) (px_get_eq (pl_8 a1) (Nat.le_of_ble_eq_true rfl)))
set_option maxRecDepth 100000 in
theorem pl_10 (a1 : Int32) : (ph_11 a1).length = 175 := px_len_app (pl_9 a1) rfl
set_option maxRecDepth 100000 in
theorem pg_15 (a1 : Int32) : (ph_12 a1)[165]? = some (.inr (8, [.int 0, .int 0, .int 0, .ref 166, .ref 171])) := (px_get_eq (pl_10 a1) (Nat.le_of_ble_eq_true rfl))
set_option maxRecDepth 100000 in
theorem pg_16 : px_hs[137]? = some (.inl (4, .inr (.inr (List.replicate 6 none)))) := rfl
set_option maxRecDepth 100000 in
theorem pg_17 (a1 : Int32) : (ph_13 a1)[137]? = some (.inl (4, .inr (.inr (List.replicate 6 none)))) := (px_get_ne (Nat.ne_of_beq_eq_false rfl) (px_get_ne (Nat.ne_of_beq_eq_false rfl) (px_get_lt (pl_9 a1) (Nat.le_of_ble_eq_true rfl) (px_get_ne (Nat.ne_of_beq_eq_false rfl) (px_get_lt (pl_7 a1) (Nat.le_of_ble_eq_true rfl) (px_get_lt (pl_6 a1) (Nat.le_of_ble_eq_true rfl) (px_get_ne (Nat.ne_of_beq_eq_false rfl) (px_get_ne (Nat.ne_of_beq_eq_false rfl) (px_get_ne (Nat.ne_of_beq_eq_false rfl) (px_get_ne (Nat.ne_of_beq_eq_false rfl) pg_16))))))))))
set_option maxRecDepth 100000 in
theorem pl_11 (a1 : Int32) : (ph_12 a1).length = 175 := px_len_set (pl_10 a1)
set_option maxRecDepth 100000 in
theorem pg_18 (a1 : Int32) : (ph_13 a1)[165]? = some (.inr (8, [.int a1, .int 0, .int 0, .ref 166, .ref 171])) := (px_get_eq (pl_11 a1) (Nat.le_of_ble_eq_true rfl))
set_option maxRecDepth 100000 in
theorem pg_19 (a1 : Int32) : (ph_14 a1)[136]? = some (.inr (10, [.ref 137, .int 0, .int 0, .ref 138, .ref 151, .long 0])) := (px_get_ne (Nat.ne_of_beq_eq_false rfl) (px_get_ne (Nat.ne_of_beq_eq_false rfl) (px_get_ne (Nat.ne_of_beq_eq_false rfl) (px_get_lt (pl_9 a1) (Nat.le_of_ble_eq_true rfl) (px_get_ne (Nat.ne_of_beq_eq_false rfl) (px_get_lt (pl_7 a1) (Nat.le_of_ble_eq_true rfl) (px_get_lt (pl_6 a1) (Nat.le_of_ble_eq_true rfl) (pg_12 a1))))))))
set_option maxRecDepth 100000 in
theorem pl_12 (a1 : Int32) : (ph_13 a1).length = 175 := px_len_set (pl_11 a1)
set_option maxRecDepth 100000 in
theorem pl_13 (a1 : Int32) : (ph_14 a1).length = 175 := px_len_set (pl_12 a1)
set_option maxRecDepth 100000 in
theorem pg_20 (a1 : Int32) : (ph_15 a1)[136]? = some (.inr (10, [.ref 137, .int 1, .int 0, .ref 138, .ref 151, .long 0])) := (px_get_eq (pl_13 a1) (Nat.le_of_ble_eq_true rfl))
set_option maxRecDepth 100000 in
theorem pg_21 (a1 : Int32) : (ph_15 a1)[164]? = some (.inl (2, .inr (.inl ([0])))) := (px_get_ne (Nat.ne_of_beq_eq_false rfl) (px_get_ne (Nat.ne_of_beq_eq_false rfl) (px_get_ne (Nat.ne_of_beq_eq_false rfl) (px_get_ne (Nat.ne_of_beq_eq_false rfl) (px_get_lt (pl_9 a1) (Nat.le_of_ble_eq_true rfl) (px_get_ne (Nat.ne_of_beq_eq_false rfl) (px_get_lt (pl_7 a1) (Nat.le_of_ble_eq_true rfl) (px_get_lt (pl_6 a1) (Nat.le_of_ble_eq_true rfl) (px_get_ne (Nat.ne_of_beq_eq_false rfl) (px_get_eq (pl_4 a1) (Nat.le_of_ble_eq_true rfl)))))))))))
set_option maxRecDepth 100000 in
theorem pg_22 : ph_16[136]? = some (.inr (10, [.ref 137, .int 0, .int 0, .ref 138, .ref 151, .long 0])) := (px_get_lt pl_0 (Nat.le_of_ble_eq_true rfl) pg_1)
set_option maxRecDepth 100000 in
theorem pl_14 : ph_16.length = 166 := px_len_app pl_0 rfl
set_option maxRecDepth 100000 in
theorem pg_23 : ph_17[136]? = some (.inr (10, [.ref 137, .int 0, .int 0, .ref 138, .ref 151, .long 0])) := (px_get_eq pl_14 (Nat.le_of_ble_eq_true rfl))
set_option maxRecDepth 100000 in
theorem pl_15 : ph_17.length = 166 := px_len_set pl_14
set_option maxRecDepth 100000 in
theorem pg_24 : ph_18[136]? = some (.inr (10, [.ref 137, .int 0, .int 1, .ref 138, .ref 151, .long 0])) := (px_get_eq pl_15 (Nat.le_of_ble_eq_true rfl))
set_option maxRecDepth 100000 in
theorem pg_25 : px_hs[92]? = some (.inr (5, [.ref 1, .ref 93, .ref 99, .ref 110, .int 0, .ref 111, .ref 112, .ref 113])) := rfl
set_option maxRecDepth 100000 in
theorem pg_26 : px_hs[93]? = some (.inr (2, [.int 0, .int 0, .ref 94, .ref 95, .ref 96, .ref 97, .ref 98])) := rfl
set_option maxRecDepth 100000 in
theorem pg_27 : px_hs[94]? = some (.inl (0, .inl (List.replicate 48 (-1)))) := rfl
set_option maxRecDepth 100000 in
theorem pg_28 : px_hs[97]? = some (.inl (0, .inl (List.replicate 8 0))) := rfl
set_option maxRecDepth 100000 in
theorem pg_29 : ph_19[93]? = some (.inr (2, [.int 0, .int 0, .ref 94, .ref 95, .ref 96, .ref 97, .ref 98])) := (px_get_ne (Nat.ne_of_beq_eq_false rfl) pg_26)
set_option maxRecDepth 100000 in
theorem pl_16 : ph_19.length = 165 := px_len_set pl_0
set_option maxRecDepth 100000 in
theorem pg_30 : ph_20[93]? = some (.inr (2, [.int 1, .int 0, .ref 94, .ref 95, .ref 96, .ref 97, .ref 98])) := (px_get_eq pl_16 (Nat.le_of_ble_eq_true rfl))
set_option maxRecDepth 100000 in
theorem pl_17 : ph_20.length = 165 := px_len_set pl_16
set_option maxRecDepth 100000 in
theorem pg_31 : ph_21[93]? = some (.inr (2, [.int 1, .int 1, .ref 94, .ref 95, .ref 96, .ref 97, .ref 98])) := (px_get_eq pl_17 (Nat.le_of_ble_eq_true rfl))
set_option maxRecDepth 100000 in
theorem pg_32 : px_hs[95]? = some (.inl (1, .inl (List.replicate 48 0))) := rfl
set_option maxRecDepth 100000 in
theorem pg_33 : ph_21[95]? = some (.inl (1, .inl (List.replicate 48 0))) := (px_get_ne (Nat.ne_of_beq_eq_false rfl) (px_get_ne (Nat.ne_of_beq_eq_false rfl) (px_get_ne (Nat.ne_of_beq_eq_false rfl) pg_32)))
set_option maxRecDepth 100000 in
theorem pg_34 : ph_22[93]? = some (.inr (2, [.int 1, .int 1, .ref 94, .ref 95, .ref 96, .ref 97, .ref 98])) := (px_get_ne (Nat.ne_of_beq_eq_false rfl) pg_31)
set_option maxRecDepth 100000 in
theorem pg_35 : px_hs[96]? = some (.inl (0, .inl (List.replicate 144 0))) := rfl
set_option maxRecDepth 100000 in
theorem pg_36 : ph_22[96]? = some (.inl (0, .inl (List.replicate 144 0))) := (px_get_ne (Nat.ne_of_beq_eq_false rfl) (px_get_ne (Nat.ne_of_beq_eq_false rfl) (px_get_ne (Nat.ne_of_beq_eq_false rfl) (px_get_ne (Nat.ne_of_beq_eq_false rfl) pg_35))))
set_option maxRecDepth 100000 in
theorem pg_37 (a2 : Int32) : (ph_23 a2)[93]? = some (.inr (2, [.int 1, .int 1, .ref 94, .ref 95, .ref 96, .ref 97, .ref 98])) := (px_get_ne (Nat.ne_of_beq_eq_false rfl) pg_34)
set_option maxRecDepth 100000 in
theorem pl_18 : ph_21.length = 165 := px_len_set pl_17
set_option maxRecDepth 100000 in
theorem pl_19 : ph_22.length = 165 := px_len_set pl_18
set_option maxRecDepth 100000 in
theorem pg_38 (a2 : Int32) : (ph_23 a2)[96]? = some (.inl (0, .inl ([a2] ++ List.replicate 143 0))) := (px_get_eq pl_19 (Nat.le_of_ble_eq_true rfl))
set_option maxRecDepth 100000 in
theorem pg_39 (a2 a3 : Int32) : (ph_24 a2 a3)[93]? = some (.inr (2, [.int 1, .int 1, .ref 94, .ref 95, .ref 96, .ref 97, .ref 98])) := (px_get_ne (Nat.ne_of_beq_eq_false rfl) (pg_37 a2))
set_option maxRecDepth 100000 in
theorem pl_20 (a2 : Int32) : (ph_23 a2).length = 165 := px_len_set pl_19
set_option maxRecDepth 100000 in
theorem pg_40 (a2 a3 : Int32) : (ph_24 a2 a3)[96]? = some (.inl (0, .inl ([a2] ++ [a3] ++ List.replicate 142 0))) := (px_get_eq (pl_20 a2) (Nat.le_of_ble_eq_true rfl))
set_option maxRecDepth 100000 in
theorem pg_41 (a2 a3 a4 : Int32) : (ph_25 a2 a3 a4)[93]? = some (.inr (2, [.int 1, .int 1, .ref 94, .ref 95, .ref 96, .ref 97, .ref 98])) := (px_get_ne (Nat.ne_of_beq_eq_false rfl) (pg_39 a2 a3))
set_option maxRecDepth 100000 in
theorem pg_42 (a2 a3 a4 : Int32) : (ph_25 a2 a3 a4)[97]? = some (.inl (0, .inl (List.replicate 8 0))) := (px_get_ne (Nat.ne_of_beq_eq_false rfl) (px_get_ne (Nat.ne_of_beq_eq_false rfl) (px_get_ne (Nat.ne_of_beq_eq_false rfl) (px_get_ne (Nat.ne_of_beq_eq_false rfl) (px_get_ne (Nat.ne_of_beq_eq_false rfl) (px_get_ne (Nat.ne_of_beq_eq_false rfl) (px_get_ne (Nat.ne_of_beq_eq_false rfl) pg_28)))))))
set_option maxRecDepth 100000 in
theorem pg_43 : px_hs[98]? = some (.inl (0, .inl (List.replicate 48 0))) := rfl
set_option maxRecDepth 100000 in
theorem pg_44 (a2 a3 a4 : Int32) : (ph_25 a2 a3 a4)[98]? = some (.inl (0, .inl (List.replicate 48 0))) := (px_get_ne (Nat.ne_of_beq_eq_false rfl) (px_get_ne (Nat.ne_of_beq_eq_false rfl) (px_get_ne (Nat.ne_of_beq_eq_false rfl) (px_get_ne (Nat.ne_of_beq_eq_false rfl) (px_get_ne (Nat.ne_of_beq_eq_false rfl) (px_get_ne (Nat.ne_of_beq_eq_false rfl) (px_get_ne (Nat.ne_of_beq_eq_false rfl) pg_43)))))))
set_option maxRecDepth 100000 in
theorem pg_45 (a2 a3 a4 : Int32) : (ph_26 a2 a3 a4)[93]? = some (.inr (2, [.int 1, .int 1, .ref 94, .ref 95, .ref 96, .ref 97, .ref 98])) := (px_get_ne (Nat.ne_of_beq_eq_false rfl) (pg_41 a2 a3 a4))
set_option maxRecDepth 100000 in
theorem pg_46 (a2 a3 a4 : Int32) : (ph_26 a2 a3 a4)[97]? = some (.inl (0, .inl (List.replicate 8 0))) := (px_get_ne (Nat.ne_of_beq_eq_false rfl) (pg_42 a2 a3 a4))
set_option maxRecDepth 100000 in
theorem pg_47 (a2 a3 a4 : Int32) : (ph_27 a2 a3 a4)[92]? = some (.inr (5, [.ref 1, .ref 93, .ref 99, .ref 110, .int 0, .ref 111, .ref 112, .ref 113])) := (px_get_ne (Nat.ne_of_beq_eq_false rfl) (px_get_ne (Nat.ne_of_beq_eq_false rfl) (px_get_ne (Nat.ne_of_beq_eq_false rfl) (px_get_ne (Nat.ne_of_beq_eq_false rfl) (px_get_ne (Nat.ne_of_beq_eq_false rfl) (px_get_ne (Nat.ne_of_beq_eq_false rfl) (px_get_ne (Nat.ne_of_beq_eq_false rfl) (px_get_ne (Nat.ne_of_beq_eq_false rfl) (px_get_ne (Nat.ne_of_beq_eq_false rfl) pg_25)))))))))
set_option maxRecDepth 100000 in
theorem pg_48 (a2 a3 a4 : Int32) : (ph_27 a2 a3 a4)[93]? = some (.inr (2, [.int 1, .int 1, .ref 94, .ref 95, .ref 96, .ref 97, .ref 98])) := (px_get_ne (Nat.ne_of_beq_eq_false rfl) (pg_45 a2 a3 a4))
set_option maxRecDepth 100000 in
theorem pg_49 (a2 a3 a4 : Int32) : (ph_27 a2 a3 a4)[94]? = some (.inl (0, .inl ([0] ++ List.replicate 47 (-1)))) := (px_get_ne (Nat.ne_of_beq_eq_false rfl) (px_get_ne (Nat.ne_of_beq_eq_false rfl) (px_get_ne (Nat.ne_of_beq_eq_false rfl) (px_get_ne (Nat.ne_of_beq_eq_false rfl) (px_get_ne (Nat.ne_of_beq_eq_false rfl) (px_get_ne (Nat.ne_of_beq_eq_false rfl) (px_get_ne (Nat.ne_of_beq_eq_false rfl) (px_get_ne (Nat.ne_of_beq_eq_false rfl) (px_get_eq pl_0 (Nat.le_of_ble_eq_true rfl))))))))))
set_option maxRecDepth 100000 in
theorem pg_50 (a2 a3 a4 : Int32) : (ph_27 a2 a3 a4)[95]? = some (.inl (1, .inl (List.replicate 48 0))) := (px_get_ne (Nat.ne_of_beq_eq_false rfl) (px_get_ne (Nat.ne_of_beq_eq_false rfl) (px_get_ne (Nat.ne_of_beq_eq_false rfl) (px_get_ne (Nat.ne_of_beq_eq_false rfl) (px_get_ne (Nat.ne_of_beq_eq_false rfl) (px_get_eq pl_18 (Nat.le_of_ble_eq_true rfl)))))))
set_option maxRecDepth 100000 in
theorem pg_51 (a2 a3 a4 : Int32) : (ph_28 a2 a3 a4)[92]? = some (.inr (5, [.ref 1, .ref 93, .ref 99, .ref 110, .int 0, .ref 111, .ref 112, .ref 113])) := (px_get_ne (Nat.ne_of_beq_eq_false rfl) (pg_47 a2 a3 a4))
set_option maxRecDepth 100000 in
theorem pg_52 (a2 a3 a4 : Int32) : (ph_28 a2 a3 a4)[93]? = some (.inr (2, [.int 1, .int 1, .ref 94, .ref 95, .ref 96, .ref 97, .ref 98])) := (px_get_ne (Nat.ne_of_beq_eq_false rfl) (pg_48 a2 a3 a4))
set_option maxRecDepth 100000 in
theorem pg_53 (a2 a3 a4 : Int32) : (ph_28 a2 a3 a4)[1]? = some (.inl (3, .inr (.inr ([some 2, some 17, some 32, some 47, some 62, some 77])))) := (px_get_ne (Nat.ne_of_beq_eq_false rfl) (px_get_ne (Nat.ne_of_beq_eq_false rfl) (px_get_ne (Nat.ne_of_beq_eq_false rfl) (px_get_ne (Nat.ne_of_beq_eq_false rfl) (px_get_ne (Nat.ne_of_beq_eq_false rfl) (px_get_ne (Nat.ne_of_beq_eq_false rfl) (px_get_ne (Nat.ne_of_beq_eq_false rfl) (px_get_ne (Nat.ne_of_beq_eq_false rfl) (px_get_ne (Nat.ne_of_beq_eq_false rfl) (px_get_ne (Nat.ne_of_beq_eq_false rfl) pg_5))))))))))
set_option maxRecDepth 100000 in
theorem pg_54 (a2 a3 a4 : Int32) : (ph_28 a2 a3 a4)[2]? = some (.inr (4, [.int 0, .int 0, .ref 3, .ref 11])) := (px_get_ne (Nat.ne_of_beq_eq_false rfl) (px_get_ne (Nat.ne_of_beq_eq_false rfl) (px_get_ne (Nat.ne_of_beq_eq_false rfl) (px_get_ne (Nat.ne_of_beq_eq_false rfl) (px_get_ne (Nat.ne_of_beq_eq_false rfl) (px_get_ne (Nat.ne_of_beq_eq_false rfl) (px_get_ne (Nat.ne_of_beq_eq_false rfl) (px_get_ne (Nat.ne_of_beq_eq_false rfl) (px_get_ne (Nat.ne_of_beq_eq_false rfl) (px_get_ne (Nat.ne_of_beq_eq_false rfl) pg_6))))))))))
set_option maxRecDepth 100000 in
theorem pg_55 : px_hs[17]? = some (.inr (4, [.int 0, .int 0, .ref 18, .ref 26])) := rfl
set_option maxRecDepth 100000 in
theorem pg_56 (a2 a3 a4 : Int32) : (ph_28 a2 a3 a4)[17]? = some (.inr (4, [.int 0, .int 0, .ref 18, .ref 26])) := (px_get_ne (Nat.ne_of_beq_eq_false rfl) (px_get_ne (Nat.ne_of_beq_eq_false rfl) (px_get_ne (Nat.ne_of_beq_eq_false rfl) (px_get_ne (Nat.ne_of_beq_eq_false rfl) (px_get_ne (Nat.ne_of_beq_eq_false rfl) (px_get_ne (Nat.ne_of_beq_eq_false rfl) (px_get_ne (Nat.ne_of_beq_eq_false rfl) (px_get_ne (Nat.ne_of_beq_eq_false rfl) (px_get_ne (Nat.ne_of_beq_eq_false rfl) (px_get_ne (Nat.ne_of_beq_eq_false rfl) pg_55))))))))))
set_option maxRecDepth 100000 in
theorem pg_57 : px_hs[32]? = some (.inr (4, [.int 0, .int 0, .ref 33, .ref 41])) := rfl
set_option maxRecDepth 100000 in
theorem pg_58 (a2 a3 a4 : Int32) : (ph_28 a2 a3 a4)[32]? = some (.inr (4, [.int 0, .int 0, .ref 33, .ref 41])) := (px_get_ne (Nat.ne_of_beq_eq_false rfl) (px_get_ne (Nat.ne_of_beq_eq_false rfl) (px_get_ne (Nat.ne_of_beq_eq_false rfl) (px_get_ne (Nat.ne_of_beq_eq_false rfl) (px_get_ne (Nat.ne_of_beq_eq_false rfl) (px_get_ne (Nat.ne_of_beq_eq_false rfl) (px_get_ne (Nat.ne_of_beq_eq_false rfl) (px_get_ne (Nat.ne_of_beq_eq_false rfl) (px_get_ne (Nat.ne_of_beq_eq_false rfl) (px_get_ne (Nat.ne_of_beq_eq_false rfl) pg_57))))))))))
set_option maxRecDepth 100000 in
theorem pg_59 : px_hs[47]? = some (.inr (4, [.int 0, .int 0, .ref 48, .ref 56])) := rfl
set_option maxRecDepth 100000 in
theorem pg_60 (a2 a3 a4 : Int32) : (ph_28 a2 a3 a4)[47]? = some (.inr (4, [.int 0, .int 0, .ref 48, .ref 56])) := (px_get_ne (Nat.ne_of_beq_eq_false rfl) (px_get_ne (Nat.ne_of_beq_eq_false rfl) (px_get_ne (Nat.ne_of_beq_eq_false rfl) (px_get_ne (Nat.ne_of_beq_eq_false rfl) (px_get_ne (Nat.ne_of_beq_eq_false rfl) (px_get_ne (Nat.ne_of_beq_eq_false rfl) (px_get_ne (Nat.ne_of_beq_eq_false rfl) (px_get_ne (Nat.ne_of_beq_eq_false rfl) (px_get_ne (Nat.ne_of_beq_eq_false rfl) (px_get_ne (Nat.ne_of_beq_eq_false rfl) pg_59))))))))))
set_option maxRecDepth 100000 in
theorem pg_61 : px_hs[62]? = some (.inr (4, [.int 0, .int 0, .ref 63, .ref 71])) := rfl
set_option maxRecDepth 100000 in
theorem pg_62 (a2 a3 a4 : Int32) : (ph_28 a2 a3 a4)[62]? = some (.inr (4, [.int 0, .int 0, .ref 63, .ref 71])) := (px_get_ne (Nat.ne_of_beq_eq_false rfl) (px_get_ne (Nat.ne_of_beq_eq_false rfl) (px_get_ne (Nat.ne_of_beq_eq_false rfl) (px_get_ne (Nat.ne_of_beq_eq_false rfl) (px_get_ne (Nat.ne_of_beq_eq_false rfl) (px_get_ne (Nat.ne_of_beq_eq_false rfl) (px_get_ne (Nat.ne_of_beq_eq_false rfl) (px_get_ne (Nat.ne_of_beq_eq_false rfl) (px_get_ne (Nat.ne_of_beq_eq_false rfl) (px_get_ne (Nat.ne_of_beq_eq_false rfl) pg_61))))))))))
set_option maxRecDepth 100000 in
theorem pg_63 : px_hs[77]? = some (.inr (4, [.int 0, .int 0, .ref 78, .ref 86])) := rfl
set_option maxRecDepth 100000 in
theorem pg_64 (a2 a3 a4 : Int32) : (ph_28 a2 a3 a4)[77]? = some (.inr (4, [.int 0, .int 0, .ref 78, .ref 86])) := (px_get_ne (Nat.ne_of_beq_eq_false rfl) (px_get_ne (Nat.ne_of_beq_eq_false rfl) (px_get_ne (Nat.ne_of_beq_eq_false rfl) (px_get_ne (Nat.ne_of_beq_eq_false rfl) (px_get_ne (Nat.ne_of_beq_eq_false rfl) (px_get_ne (Nat.ne_of_beq_eq_false rfl) (px_get_ne (Nat.ne_of_beq_eq_false rfl) (px_get_ne (Nat.ne_of_beq_eq_false rfl) (px_get_ne (Nat.ne_of_beq_eq_false rfl) (px_get_ne (Nat.ne_of_beq_eq_false rfl) pg_63))))))))))
set_option maxRecDepth 100000 in
theorem pg_65 (a2 a3 a4 : Int32) : (ph_28 a2 a3 a4)[94]? = some (.inl (0, .inl ([0] ++ List.replicate 47 (-1)))) := (px_get_ne (Nat.ne_of_beq_eq_false rfl) (pg_49 a2 a3 a4))
set_option maxRecDepth 100000 in
theorem pl_21 (a2 a3 : Int32) : (ph_24 a2 a3).length = 165 := px_len_set (pl_20 a2)
set_option maxRecDepth 100000 in
theorem pl_22 (a2 a3 a4 : Int32) : (ph_25 a2 a3 a4).length = 165 := px_len_set (pl_21 a2 a3)
set_option maxRecDepth 100000 in
theorem pl_23 (a2 a3 a4 : Int32) : (ph_26 a2 a3 a4).length = 165 := px_len_set (pl_22 a2 a3 a4)
set_option maxRecDepth 100000 in
theorem pl_24 (a2 a3 a4 : Int32) : (ph_27 a2 a3 a4).length = 165 := px_len_set (pl_23 a2 a3 a4)
set_option maxRecDepth 100000 in
theorem pg_66 (a2 a3 a4 : Int32) : (ph_28 a2 a3 a4)[95]? = some (.inl (1, .inl ([1] ++ List.replicate 47 0))) := (px_get_eq (pl_24 a2 a3 a4) (Nat.le_of_ble_eq_true rfl))
set_option maxRecDepth 100000 in
theorem pg_67 (a2 a3 a4 : Int32) : (ph_28 a2 a3 a4)[164]? = some (.inl (2, .inr (.inl ([0])))) := (px_get_ne (Nat.ne_of_beq_eq_false rfl) (px_get_ne (Nat.ne_of_beq_eq_false rfl) (px_get_ne (Nat.ne_of_beq_eq_false rfl) (px_get_ne (Nat.ne_of_beq_eq_false rfl) (px_get_ne (Nat.ne_of_beq_eq_false rfl) (px_get_ne (Nat.ne_of_beq_eq_false rfl) (px_get_ne (Nat.ne_of_beq_eq_false rfl) (px_get_ne (Nat.ne_of_beq_eq_false rfl) (px_get_ne (Nat.ne_of_beq_eq_false rfl) (px_get_ne (Nat.ne_of_beq_eq_false rfl) pg_9))))))))))
set_option maxRecDepth 100000 in
theorem pg_68 (a2 a3 a4 : Int32) : (ph_29 a2 a3 a4)[136]? = some (.inr (10, [.ref 137, .int 0, .int 0, .ref 138, .ref 151, .long 0])) := (px_get_ne (Nat.ne_of_beq_eq_false rfl) (px_get_ne (Nat.ne_of_beq_eq_false rfl) (px_get_ne (Nat.ne_of_beq_eq_false rfl) (px_get_ne (Nat.ne_of_beq_eq_false rfl) (px_get_ne (Nat.ne_of_beq_eq_false rfl) (px_get_ne (Nat.ne_of_beq_eq_false rfl) (px_get_ne (Nat.ne_of_beq_eq_false rfl) (px_get_ne (Nat.ne_of_beq_eq_false rfl) (px_get_ne (Nat.ne_of_beq_eq_false rfl) (px_get_ne (Nat.ne_of_beq_eq_false rfl) (px_get_ne (Nat.ne_of_beq_eq_false rfl) pg_1)))))))))))
set_option maxRecDepth 100000 in
theorem pl_25 (a2 a3 a4 : Int32) : (ph_28 a2 a3 a4).length = 165 := px_len_set (pl_24 a2 a3 a4)
set_option maxRecDepth 100000 in
theorem pl_26 (a2 a3 a4 : Int32) : (ph_29 a2 a3 a4).length = 165 := px_len_set (pl_25 a2 a3 a4)
set_option maxRecDepth 100000 in
theorem pg_69 (a2 a3 a4 : Int32) : (ph_30 a2 a3 a4)[136]? = some (.inr (10, [.ref 137, .int 0, .int 0, .ref 138, .ref 151, .long 0])) := (px_get_eq (pl_26 a2 a3 a4) (Nat.le_of_ble_eq_true rfl))
set_option maxRecDepth 100000 in
theorem pg_70 : px_hs[138]? = some (.inr (9, [.int 0, .int 0, .int 0, .ref 139, .ref 140, .ref 141, .ref 143, .ref 145, .ref 147, .ref 149, .ref 150, .int 0, .ref 136])) := rfl
set_option maxRecDepth 100000 in
theorem pg_71 (a2 a3 a4 : Int32) : (ph_30 a2 a3 a4)[138]? = some (.inr (9, [.int 0, .int 0, .int 0, .ref 139, .ref 140, .ref 141, .ref 143, .ref 145, .ref 147, .ref 149, .ref 150, .int 0, .ref 136])) := (px_get_ne (Nat.ne_of_beq_eq_false rfl) (px_get_ne (Nat.ne_of_beq_eq_false rfl) (px_get_ne (Nat.ne_of_beq_eq_false rfl) (px_get_ne (Nat.ne_of_beq_eq_false rfl) (px_get_ne (Nat.ne_of_beq_eq_false rfl) (px_get_ne (Nat.ne_of_beq_eq_false rfl) (px_get_ne (Nat.ne_of_beq_eq_false rfl) (px_get_ne (Nat.ne_of_beq_eq_false rfl) (px_get_ne (Nat.ne_of_beq_eq_false rfl) (px_get_ne (Nat.ne_of_beq_eq_false rfl) (px_get_ne (Nat.ne_of_beq_eq_false rfl) (px_get_ne (Nat.ne_of_beq_eq_false rfl) pg_70))))))))))))
set_option maxRecDepth 100000 in
theorem pg_72 : px_hs[141]? = some (.inr (7, [.int 6, .int 0, .ref 142])) := rfl
set_option maxRecDepth 100000 in
theorem pg_73 (a2 a3 a4 : Int32) : (ph_30 a2 a3 a4)[141]? = some (.inr (7, [.int 6, .int 0, .ref 142])) := (px_get_ne (Nat.ne_of_beq_eq_false rfl) (px_get_ne (Nat.ne_of_beq_eq_false rfl) (px_get_ne (Nat.ne_of_beq_eq_false rfl) (px_get_ne (Nat.ne_of_beq_eq_false rfl) (px_get_ne (Nat.ne_of_beq_eq_false rfl) (px_get_ne (Nat.ne_of_beq_eq_false rfl) (px_get_ne (Nat.ne_of_beq_eq_false rfl) (px_get_ne (Nat.ne_of_beq_eq_false rfl) (px_get_ne (Nat.ne_of_beq_eq_false rfl) (px_get_ne (Nat.ne_of_beq_eq_false rfl) (px_get_ne (Nat.ne_of_beq_eq_false rfl) (px_get_ne (Nat.ne_of_beq_eq_false rfl) pg_72))))))))))))
set_option maxRecDepth 100000 in
theorem pl_27 (a2 a3 a4 : Int32) : (ph_30 a2 a3 a4).length = 165 := px_len_set (pl_26 a2 a3 a4)
set_option maxRecDepth 100000 in
theorem pg_74 (a2 a3 a4 : Int32) : (ph_31 a2 a3 a4)[138]? = some (.inr (9, [.int 0, .int 0, .int 0, .ref 139, .ref 140, .ref 141, .ref 143, .ref 145, .ref 147, .ref 149, .ref 150, .int 0, .ref 136])) := (px_get_lt (pl_27 a2 a3 a4) (Nat.le_of_ble_eq_true rfl) (pg_71 a2 a3 a4))
set_option maxRecDepth 100000 in
theorem pg_75 (a2 a3 a4 : Int32) : (ph_31 a2 a3 a4)[165]? = some (.inl (0, .inl (List.replicate 6 0))) := (px_get_ge (k := 0) (pl_27 a2 a3 a4) rfl rfl)
set_option maxRecDepth 100000 in
theorem pl_28 (a2 a3 a4 : Int32) : (ph_31 a2 a3 a4).length = 166 := px_len_app (pl_27 a2 a3 a4) rfl
set_option maxRecDepth 100000 in
theorem pg_76 (a2 a3 a4 : Int32) : (ph_32 a2 a3 a4)[165]? = some (.inl (0, .inl (List.replicate 6 0))) := (px_get_eq (pl_28 a2 a3 a4) (Nat.le_of_ble_eq_true rfl))
set_option maxRecDepth 100000 in
theorem pl_29 (a2 a3 a4 : Int32) : (ph_32 a2 a3 a4).length = 166 := px_len_set (pl_28 a2 a3 a4)
set_option maxRecDepth 100000 in
theorem pg_77 (a2 a3 a4 : Int32) : (ph_33 a2 a3 a4)[165]? = some (.inl (0, .inl (List.replicate 6 0))) := (px_get_eq (pl_29 a2 a3 a4) (Nat.le_of_ble_eq_true rfl))
set_option maxRecDepth 100000 in
theorem pl_30 (a2 a3 a4 : Int32) : (ph_33 a2 a3 a4).length = 166 := px_len_set (pl_29 a2 a3 a4)
set_option maxRecDepth 100000 in
theorem pg_78 (a2 a3 a4 : Int32) : (ph_34 a2 a3 a4)[165]? = some (.inl (0, .inl ([0, 0, a2, 0, 0, 0]))) := (px_get_eq (pl_30 a2 a3 a4) (Nat.le_of_ble_eq_true rfl))
set_option maxRecDepth 100000 in
theorem pl_31 (a2 a3 a4 : Int32) : (ph_34 a2 a3 a4).length = 166 := px_len_set (pl_30 a2 a3 a4)
set_option maxRecDepth 100000 in
theorem pg_79 (a2 a3 a4 : Int32) : (ph_35 a2 a3 a4)[165]? = some (.inl (0, .inl ([0, 0, a2, a3, 0, 0]))) := (px_get_eq (pl_31 a2 a3 a4) (Nat.le_of_ble_eq_true rfl))
set_option maxRecDepth 100000 in
theorem pl_32 (a2 a3 a4 : Int32) : (ph_35 a2 a3 a4).length = 166 := px_len_set (pl_31 a2 a3 a4)
set_option maxRecDepth 100000 in
theorem pg_80 (a2 a3 a4 : Int32) : (ph_36 a2 a3 a4)[165]? = some (.inl (0, .inl ([0, 0, a2, a3, a4, 0]))) := (px_get_eq (pl_32 a2 a3 a4) (Nat.le_of_ble_eq_true rfl))
set_option maxRecDepth 100000 in
theorem pg_81 (a2 a3 a4 : Int32) : (ph_37 a2 a3 a4)[141]? = some (.inr (7, [.int 6, .int 0, .ref 142])) := (px_get_ne (Nat.ne_of_beq_eq_false rfl) (px_get_ne (Nat.ne_of_beq_eq_false rfl) (px_get_ne (Nat.ne_of_beq_eq_false rfl) (px_get_ne (Nat.ne_of_beq_eq_false rfl) (px_get_ne (Nat.ne_of_beq_eq_false rfl) (px_get_ne (Nat.ne_of_beq_eq_false rfl) (px_get_lt (pl_27 a2 a3 a4) (Nat.le_of_ble_eq_true rfl) (pg_73 a2 a3 a4))))))))
set_option maxRecDepth 100000 in
theorem pg_82 : px_hs[142]? = some (.inl (0, .inl (List.replicate 96 0))) := rfl
set_option maxRecDepth 100000 in
theorem pg_83 (a2 a3 a4 : Int32) : (ph_37 a2 a3 a4)[142]? = some (.inl (0, .inl (List.replicate 96 0))) := (px_get_ne (Nat.ne_of_beq_eq_false rfl) (px_get_ne (Nat.ne_of_beq_eq_false rfl) (px_get_ne (Nat.ne_of_beq_eq_false rfl) (px_get_ne (Nat.ne_of_beq_eq_false rfl) (px_get_ne (Nat.ne_of_beq_eq_false rfl) (px_get_ne (Nat.ne_of_beq_eq_false rfl) (px_get_lt (pl_27 a2 a3 a4) (Nat.le_of_ble_eq_true rfl) (px_get_ne (Nat.ne_of_beq_eq_false rfl) (px_get_ne (Nat.ne_of_beq_eq_false rfl) (px_get_ne (Nat.ne_of_beq_eq_false rfl) (px_get_ne (Nat.ne_of_beq_eq_false rfl) (px_get_ne (Nat.ne_of_beq_eq_false rfl) (px_get_ne (Nat.ne_of_beq_eq_false rfl) (px_get_ne (Nat.ne_of_beq_eq_false rfl) (px_get_ne (Nat.ne_of_beq_eq_false rfl) (px_get_ne (Nat.ne_of_beq_eq_false rfl) (px_get_ne (Nat.ne_of_beq_eq_false rfl) (px_get_ne (Nat.ne_of_beq_eq_false rfl) (px_get_ne (Nat.ne_of_beq_eq_false rfl) pg_82)))))))))))))))))))
set_option maxRecDepth 100000 in
theorem pl_33 (a2 a3 a4 : Int32) : (ph_36 a2 a3 a4).length = 166 := px_len_set (pl_32 a2 a3 a4)
set_option maxRecDepth 100000 in
theorem pg_84 (a2 a3 a4 : Int32) : (ph_37 a2 a3 a4)[165]? = some (.inl (0, .inl ([0, 0, a2, a3, a4, 1]))) := (px_get_eq (pl_33 a2 a3 a4) (Nat.le_of_ble_eq_true rfl))
set_option maxRecDepth 100000 in
theorem pg_85 (a2 a3 a4 : Int32) : (ph_38 a2 a3 a4)[141]? = some (.inr (7, [.int 6, .int 0, .ref 142])) := (px_get_ne (Nat.ne_of_beq_eq_false rfl) (pg_81 a2 a3 a4))
set_option maxRecDepth 100000 in
theorem pg_86 (a2 a3 a4 : Int32) : (ph_39 a2 a3 a4)[138]? = some (.inr (9, [.int 0, .int 0, .int 0, .ref 139, .ref 140, .ref 141, .ref 143, .ref 145, .ref 147, .ref 149, .ref 150, .int 0, .ref 136])) := (px_get_ne (Nat.ne_of_beq_eq_false rfl) (px_get_ne (Nat.ne_of_beq_eq_false rfl) (px_get_ne (Nat.ne_of_beq_eq_false rfl) (px_get_ne (Nat.ne_of_beq_eq_false rfl) (px_get_ne (Nat.ne_of_beq_eq_false rfl) (px_get_ne (Nat.ne_of_beq_eq_false rfl) (px_get_ne (Nat.ne_of_beq_eq_false rfl) (px_get_ne (Nat.ne_of_beq_eq_false rfl) (pg_74 a2 a3 a4)))))))))
set_option maxRecDepth 100000 in
theorem pl_34 (a2 a3 a4 : Int32) : (ph_37 a2 a3 a4).length = 166 := px_len_set (pl_33 a2 a3 a4)
set_option maxRecDepth 100000 in
theorem pl_35 (a2 a3 a4 : Int32) : (ph_38 a2 a3 a4).length = 166 := px_len_set (pl_34 a2 a3 a4)
set_option maxRecDepth 100000 in
theorem pl_36 (a2 a3 a4 : Int32) : (ph_39 a2 a3 a4).length = 166 := px_len_set (pl_35 a2 a3 a4)
set_option maxRecDepth 100000 in
theorem pg_87 (a2 a3 a4 : Int32) : (ph_40 a2 a3 a4)[138]? = some (.inr (9, [.int 1, .int 0, .int 0, .ref 139, .ref 140, .ref 141, .ref 143, .ref 145, .ref 147, .ref 149, .ref 150, .int 0, .ref 136])) := (px_get_eq (pl_36 a2 a3 a4) (Nat.le_of_ble_eq_true rfl))
set_option maxRecDepth 100000 in
theorem pg_88 (a2 a3 a4 : Int32) : (ph_40 a2 a3 a4)[136]? = some (.inr (10, [.ref 137, .int 0, .int 0, .ref 138, .ref 151, .long 0])) := (px_get_ne (Nat.ne_of_beq_eq_false rfl) (px_get_ne (Nat.ne_of_beq_eq_false rfl) (px_get_ne (Nat.ne_of_beq_eq_false rfl) (px_get_ne (Nat.ne_of_beq_eq_false rfl) (px_get_ne (Nat.ne_of_beq_eq_false rfl) (px_get_ne (Nat.ne_of_beq_eq_false rfl) (px_get_ne (Nat.ne_of_beq_eq_false rfl) (px_get_ne (Nat.ne_of_beq_eq_false rfl) (px_get_ne (Nat.ne_of_beq_eq_false rfl) (px_get_lt (pl_27 a2 a3 a4) (Nat.le_of_ble_eq_true rfl) (pg_69 a2 a3 a4)))))))))))
set_option maxRecDepth 100000 in
theorem pg_89 : px_hs[147]? = some (.inr (7, [.int 6, .int 0, .ref 148])) := rfl
set_option maxRecDepth 100000 in
theorem pg_90 (a2 a3 a4 : Int32) : (ph_40 a2 a3 a4)[147]? = some (.inr (7, [.int 6, .int 0, .ref 148])) := (px_get_ne (Nat.ne_of_beq_eq_false rfl) (px_get_ne (Nat.ne_of_beq_eq_false rfl) (px_get_ne (Nat.ne_of_beq_eq_false rfl) (px_get_ne (Nat.ne_of_beq_eq_false rfl) (px_get_ne (Nat.ne_of_beq_eq_false rfl) (px_get_ne (Nat.ne_of_beq_eq_false rfl) (px_get_ne (Nat.ne_of_beq_eq_false rfl) (px_get_ne (Nat.ne_of_beq_eq_false rfl) (px_get_ne (Nat.ne_of_beq_eq_false rfl) (px_get_lt (pl_27 a2 a3 a4) (Nat.le_of_ble_eq_true rfl) (px_get_ne (Nat.ne_of_beq_eq_false rfl) (px_get_ne (Nat.ne_of_beq_eq_false rfl) (px_get_ne (Nat.ne_of_beq_eq_false rfl) (px_get_ne (Nat.ne_of_beq_eq_false rfl) (px_get_ne (Nat.ne_of_beq_eq_false rfl) (px_get_ne (Nat.ne_of_beq_eq_false rfl) (px_get_ne (Nat.ne_of_beq_eq_false rfl) (px_get_ne (Nat.ne_of_beq_eq_false rfl) (px_get_ne (Nat.ne_of_beq_eq_false rfl) (px_get_ne (Nat.ne_of_beq_eq_false rfl) (px_get_ne (Nat.ne_of_beq_eq_false rfl) (px_get_ne (Nat.ne_of_beq_eq_false rfl) pg_89))))))))))))))))))))))
set_option maxRecDepth 100000 in
theorem pg_91 (a2 a3 a4 : Int32) : (ph_41 a2 a3 a4)[138]? = some (.inr (9, [.int 1, .int 0, .int 0, .ref 139, .ref 140, .ref 141, .ref 143, .ref 145, .ref 147, .ref 149, .ref 150, .int 0, .ref 136])) := (px_get_ne (Nat.ne_of_beq_eq_false rfl) (pg_87 a2 a3 a4))
set_option maxRecDepth 100000 in
theorem pl_37 (a2 a3 a4 : Int32) : (ph_40 a2 a3 a4).length = 166 := px_len_set (pl_36 a2 a3 a4)
set_option maxRecDepth 100000 in
theorem pl_38 (a2 a3 a4 : Int32) : (ph_41 a2 a3 a4).length = 166 := px_len_set (pl_37 a2 a3 a4)
set_option maxRecDepth 100000 in
theorem pg_92 (a2 a3 a4 : Int32) : (ph_42 a2 a3 a4)[138]? = some (.inr (9, [.int 1, .int 0, .int 0, .ref 139, .ref 140, .ref 141, .ref 143, .ref 145, .ref 147, .ref 149, .ref 150, .int 0, .ref 136])) := (px_get_eq (pl_38 a2 a3 a4) (Nat.le_of_ble_eq_true rfl))
set_option maxRecDepth 100000 in
theorem pg_93 (a2 a3 a4 : Int32) : (ph_42 a2 a3 a4)[136]? = some (.inr (10, [.ref 137, .int 0, .int 0, .ref 138, .ref 151, .long 0])) := (px_get_ne (Nat.ne_of_beq_eq_false rfl) (px_get_ne (Nat.ne_of_beq_eq_false rfl) (pg_88 a2 a3 a4)))
set_option maxRecDepth 100000 in
theorem pg_94 (a2 a3 a4 : Int32) : (ph_42 a2 a3 a4)[147]? = some (.inr (7, [.int 6, .int 0, .ref 148])) := (px_get_ne (Nat.ne_of_beq_eq_false rfl) (px_get_eq (pl_37 a2 a3 a4) (Nat.le_of_ble_eq_true rfl)))
set_option maxRecDepth 100000 in
theorem pg_95 : px_hs[143]? = some (.inr (7, [.int 6, .int 0, .ref 144])) := rfl
set_option maxRecDepth 100000 in
theorem pg_96 (a2 a3 a4 : Int32) : (ph_42 a2 a3 a4)[143]? = some (.inr (7, [.int 6, .int 0, .ref 144])) := (px_get_ne (Nat.ne_of_beq_eq_false rfl) (px_get_ne (Nat.ne_of_beq_eq_false rfl) (px_get_ne (Nat.ne_of_beq_eq_false rfl) (px_get_ne (Nat.ne_of_beq_eq_false rfl) (px_get_ne (Nat.ne_of_beq_eq_false rfl) (px_get_ne (Nat.ne_of_beq_eq_false rfl) (px_get_ne (Nat.ne_of_beq_eq_false rfl) (px_get_ne (Nat.ne_of_beq_eq_false rfl) (px_get_ne (Nat.ne_of_beq_eq_false rfl) (px_get_ne (Nat.ne_of_beq_eq_false rfl) (px_get_ne (Nat.ne_of_beq_eq_false rfl) (px_get_lt (pl_27 a2 a3 a4) (Nat.le_of_ble_eq_true rfl) (px_get_ne (Nat.ne_of_beq_eq_false rfl) (px_get_ne (Nat.ne_of_beq_eq_false rfl) (px_get_ne (Nat.ne_of_beq_eq_false rfl) (px_get_ne (Nat.ne_of_beq_eq_false rfl) (px_get_ne (Nat.ne_of_beq_eq_false rfl) (px_get_ne (Nat.ne_of_beq_eq_false rfl) (px_get_ne (Nat.ne_of_beq_eq_false rfl) (px_get_ne (Nat.ne_of_beq_eq_false rfl) (px_get_ne (Nat.ne_of_beq_eq_false rfl) (px_get_ne (Nat.ne_of_beq_eq_false rfl) (px_get_ne (Nat.ne_of_beq_eq_false rfl) (px_get_ne (Nat.ne_of_beq_eq_false rfl) pg_95))))))))))))))))))))))))
set_option maxRecDepth 100000 in
theorem pl_39 (a2 a3 a4 : Int32) : (ph_42 a2 a3 a4).length = 166 := px_len_set (pl_38 a2 a3 a4)
set_option maxRecDepth 100000 in
theorem pg_97 (a2 a3 a4 : Int32) : (ph_43 a2 a3 a4)[143]? = some (.inr (7, [.int 6, .int 0, .ref 144])) := (px_get_eq (pl_39 a2 a3 a4) (Nat.le_of_ble_eq_true rfl))
set_option maxRecDepth 100000 in
theorem pg_98 : px_hs[144]? = some (.inl (0, .inl (List.replicate 96 0))) := rfl
set_option maxRecDepth 100000 in
theorem pg_99 (a2 a3 a4 : Int32) : (ph_43 a2 a3 a4)[144]? = some (.inl (0, .inl (List.replicate 96 0))) := (px_get_ne (Nat.ne_of_beq_eq_false rfl) (px_get_ne (Nat.ne_of_beq_eq_false rfl) (px_get_ne (Nat.ne_of_beq_eq_false rfl) (px_get_ne (Nat.ne_of_beq_eq_false rfl) (px_get_ne (Nat.ne_of_beq_eq_false rfl) (px_get_ne (Nat.ne_of_beq_eq_false rfl) (px_get_ne (Nat.ne_of_beq_eq_false rfl) (px_get_ne (Nat.ne_of_beq_eq_false rfl) (px_get_ne (Nat.ne_of_beq_eq_false rfl) (px_get_ne (Nat.ne_of_beq_eq_false rfl) (px_get_ne (Nat.ne_of_beq_eq_false rfl) (px_get_ne (Nat.ne_of_beq_eq_false rfl) (px_get_lt (pl_27 a2 a3 a4) (Nat.le_of_ble_eq_true rfl) (px_get_ne (Nat.ne_of_beq_eq_false rfl) (px_get_ne (Nat.ne_of_beq_eq_false rfl) (px_get_ne (Nat.ne_of_beq_eq_false rfl) (px_get_ne (Nat.ne_of_beq_eq_false rfl) (px_get_ne (Nat.ne_of_beq_eq_false rfl) (px_get_ne (Nat.ne_of_beq_eq_false rfl) (px_get_ne (Nat.ne_of_beq_eq_false rfl) (px_get_ne (Nat.ne_of_beq_eq_false rfl) (px_get_ne (Nat.ne_of_beq_eq_false rfl) (px_get_ne (Nat.ne_of_beq_eq_false rfl) (px_get_ne (Nat.ne_of_beq_eq_false rfl) (px_get_ne (Nat.ne_of_beq_eq_false rfl) pg_98)))))))))))))))))))))))))
set_option maxRecDepth 100000 in
theorem pg_100 (a2 a3 a4 : Int32) : (ph_43 a2 a3 a4)[147]? = some (.inr (7, [.int 6, .int 0, .ref 148])) := (px_get_ne (Nat.ne_of_beq_eq_false rfl) (pg_94 a2 a3 a4))
set_option maxRecDepth 100000 in
theorem pg_101 : px_hs[148]? = some (.inl (0, .inl (List.replicate 96 0))) := rfl
set_option maxRecDepth 100000 in
theorem pg_102 (a2 a3 a4 : Int32) : (ph_43 a2 a3 a4)[148]? = some (.inl (0, .inl (List.replicate 96 0))) := (px_get_ne (Nat.ne_of_beq_eq_false rfl) (px_get_ne (Nat.ne_of_beq_eq_false rfl) (px_get_ne (Nat.ne_of_beq_eq_false rfl) (px_get_ne (Nat.ne_of_beq_eq_false rfl) (px_get_ne (Nat.ne_of_beq_eq_false rfl) (px_get_ne (Nat.ne_of_beq_eq_false rfl) (px_get_ne (Nat.ne_of_beq_eq_false rfl) (px_get_ne (Nat.ne_of_beq_eq_false rfl) (px_get_ne (Nat.ne_of_beq_eq_false rfl) (px_get_ne (Nat.ne_of_beq_eq_false rfl) (px_get_ne (Nat.ne_of_beq_eq_false rfl) (px_get_ne (Nat.ne_of_beq_eq_false rfl) (px_get_lt (pl_27 a2 a3 a4) (Nat.le_of_ble_eq_true rfl) (px_get_ne (Nat.ne_of_beq_eq_false rfl) (px_get_ne (Nat.ne_of_beq_eq_false rfl) (px_get_ne (Nat.ne_of_beq_eq_false rfl) (px_get_ne (Nat.ne_of_beq_eq_false rfl) (px_get_ne (Nat.ne_of_beq_eq_false rfl) (px_get_ne (Nat.ne_of_beq_eq_false rfl) (px_get_ne (Nat.ne_of_beq_eq_false rfl) (px_get_ne (Nat.ne_of_beq_eq_false rfl) (px_get_ne (Nat.ne_of_beq_eq_false rfl) (px_get_ne (Nat.ne_of_beq_eq_false rfl) (px_get_ne (Nat.ne_of_beq_eq_false rfl) (px_get_ne (Nat.ne_of_beq_eq_false rfl) pg_101)))))))))))))))))))))))))
set_option maxRecDepth 100000 in
theorem pg_103 (a2 a3 a4 : Int32) : (ph_44 a2 a3 a4)[138]? = some (.inr (9, [.int 1, .int 0, .int 0, .ref 139, .ref 140, .ref 141, .ref 143, .ref 145, .ref 147, .ref 149, .ref 150, .int 0, .ref 136])) := (px_get_ne (Nat.ne_of_beq_eq_false rfl) (px_get_ne (Nat.ne_of_beq_eq_false rfl) (pg_92 a2 a3 a4)))
set_option maxRecDepth 100000 in
theorem pg_104 : px_hs[145]? = some (.inr (7, [.int 2, .int 0, .ref 146])) := rfl
set_option maxRecDepth 100000 in
theorem pg_105 (a2 a3 a4 : Int32) : (ph_44 a2 a3 a4)[145]? = some (.inr (7, [.int 2, .int 0, .ref 146])) := (px_get_ne (Nat.ne_of_beq_eq_false rfl) (px_get_ne (Nat.ne_of_beq_eq_false rfl) (px_get_ne (Nat.ne_of_beq_eq_false rfl) (px_get_ne (Nat.ne_of_beq_eq_false rfl) (px_get_ne (Nat.ne_of_beq_eq_false rfl) (px_get_ne (Nat.ne_of_beq_eq_false rfl) (px_get_ne (Nat.ne_of_beq_eq_false rfl) (px_get_ne (Nat.ne_of_beq_eq_false rfl) (px_get_ne (Nat.ne_of_beq_eq_false rfl) (px_get_ne (Nat.ne_of_beq_eq_false rfl) (px_get_ne (Nat.ne_of_beq_eq_false rfl) (px_get_ne (Nat.ne_of_beq_eq_false rfl) (px_get_ne (Nat.ne_of_beq_eq_false rfl) (px_get_lt (pl_27 a2 a3 a4) (Nat.le_of_ble_eq_true rfl) (px_get_ne (Nat.ne_of_beq_eq_false rfl) (px_get_ne (Nat.ne_of_beq_eq_false rfl) (px_get_ne (Nat.ne_of_beq_eq_false rfl) (px_get_ne (Nat.ne_of_beq_eq_false rfl) (px_get_ne (Nat.ne_of_beq_eq_false rfl) (px_get_ne (Nat.ne_of_beq_eq_false rfl) (px_get_ne (Nat.ne_of_beq_eq_false rfl) (px_get_ne (Nat.ne_of_beq_eq_false rfl) (px_get_ne (Nat.ne_of_beq_eq_false rfl) (px_get_ne (Nat.ne_of_beq_eq_false rfl) (px_get_ne (Nat.ne_of_beq_eq_false rfl) (px_get_ne (Nat.ne_of_beq_eq_false rfl) pg_104))))))))))))))))))))))))))
set_option maxRecDepth 100000 in
theorem pg_106 (a2 a3 a4 : Int32) : (ph_44 a2 a3 a4)[141]? = some (.inr (7, [.int 6, .int 1, .ref 142])) := (px_get_ne (Nat.ne_of_beq_eq_false rfl) (px_get_ne (Nat.ne_of_beq_eq_false rfl) (px_get_ne (Nat.ne_of_beq_eq_false rfl) (px_get_ne (Nat.ne_of_beq_eq_false rfl) (px_get_ne (Nat.ne_of_beq_eq_false rfl) (px_get_eq (pl_35 a2 a3 a4) (Nat.le_of_ble_eq_true rfl)))))))
set_option maxRecDepth 100000 in
theorem pg_107 (a2 a3 a4 : Int32) : (ph_44 a2 a3 a4)[142]? = some (.inl (0, .inl ([0, 0] ++ [a2] ++ [a3] ++ [a4] ++ [1] ++ List.replicate 90 0))) := (px_get_ne (Nat.ne_of_beq_eq_false rfl) (px_get_ne (Nat.ne_of_beq_eq_false rfl) (px_get_ne (Nat.ne_of_beq_eq_false rfl) (px_get_ne (Nat.ne_of_beq_eq_false rfl) (px_get_ne (Nat.ne_of_beq_eq_false rfl) (px_get_ne (Nat.ne_of_beq_eq_false rfl) (px_get_eq (pl_34 a2 a3 a4) (Nat.le_of_ble_eq_true rfl))))))))
set_option maxRecDepth 100000 in
theorem pg_108 (a2 a3 a4 : Int32) : (ph_44 a2 a3 a4)[136]? = some (.inr (10, [.ref 137, .int 0, .int 0, .ref 138, .ref 151, .long 0])) := (px_get_ne (Nat.ne_of_beq_eq_false rfl) (px_get_ne (Nat.ne_of_beq_eq_false rfl) (pg_93 a2 a3 a4)))
set_option maxRecDepth 100000 in
theorem pg_109 (a2 a3 a4 : Int32) : (ph_44 a2 a3 a4)[164]? = some (.inl (2, .inr (.inl ([0])))) := (px_get_ne (Nat.ne_of_beq_eq_false rfl) (px_get_ne (Nat.ne_of_beq_eq_false rfl) (px_get_ne (Nat.ne_of_beq_eq_false rfl) (px_get_ne (Nat.ne_of_beq_eq_false rfl) (px_get_ne (Nat.ne_of_beq_eq_false rfl) (px_get_ne (Nat.ne_of_beq_eq_false rfl) (px_get_ne (Nat.ne_of_beq_eq_false rfl) (px_get_ne (Nat.ne_of_beq_eq_false rfl) (px_get_ne (Nat.ne_of_beq_eq_false rfl) (px_get_ne (Nat.ne_of_beq_eq_false rfl) (px_get_ne (Nat.ne_of_beq_eq_false rfl) (px_get_ne (Nat.ne_of_beq_eq_false rfl) (px_get_ne (Nat.ne_of_beq_eq_false rfl) (px_get_lt (pl_27 a2 a3 a4) (Nat.le_of_ble_eq_true rfl) (px_get_ne (Nat.ne_of_beq_eq_false rfl) (px_get_eq (pl_25 a2 a3 a4) (Nat.le_of_ble_eq_true rfl)))))))))))))))))
set_option maxRecDepth 100000 in
theorem pg_110 : ph_45[93]? = some (.inr (2, [.int 0, .int 0, .ref 94, .ref 95, .ref 96, .ref 97, .ref 98])) := (px_get_ne (Nat.ne_of_beq_eq_false rfl) pg_26)
set_option maxRecDepth 100000 in
theorem pl_40 : ph_45.length = 165 := px_len_set pl_0
set_option maxRecDepth 100000 in
theorem pg_111 : ph_46[93]? = some (.inr (2, [.int 1, .int 0, .ref 94, .ref 95, .ref 96, .ref 97, .ref 98])) := (px_get_eq pl_40 (Nat.le_of_ble_eq_true rfl))
set_option maxRecDepth 100000 in
theorem pl_41 : ph_46.length = 165 := px_len_set pl_40
set_option maxRecDepth 100000 in
theorem pg_112 : ph_47[93]? = some (.inr (2, [.int 1, .int 1, .ref 94, .ref 95, .ref 96, .ref 97, .ref 98])) := (px_get_eq pl_41 (Nat.le_of_ble_eq_true rfl))
set_option maxRecDepth 100000 in
theorem pg_113 : ph_47[95]? = some (.inl (1, .inl (List.replicate 48 0))) := (px_get_ne (Nat.ne_of_beq_eq_false rfl) (px_get_ne (Nat.ne_of_beq_eq_false rfl) (px_get_ne (Nat.ne_of_beq_eq_false rfl) pg_32)))
set_option maxRecDepth 100000 in
theorem pg_114 : ph_48[93]? = some (.inr (2, [.int 1, .int 1, .ref 94, .ref 95, .ref 96, .ref 97, .ref 98])) := (px_get_ne (Nat.ne_of_beq_eq_false rfl) pg_112)
set_option maxRecDepth 100000 in
theorem pg_115 : ph_48[96]? = some (.inl (0, .inl (List.replicate 144 0))) := (px_get_ne (Nat.ne_of_beq_eq_false rfl) (px_get_ne (Nat.ne_of_beq_eq_false rfl) (px_get_ne (Nat.ne_of_beq_eq_false rfl) (px_get_ne (Nat.ne_of_beq_eq_false rfl) pg_35))))
set_option maxRecDepth 100000 in
theorem pg_116 (a2 : Int32) : (ph_49 a2)[93]? = some (.inr (2, [.int 1, .int 1, .ref 94, .ref 95, .ref 96, .ref 97, .ref 98])) := (px_get_ne (Nat.ne_of_beq_eq_false rfl) pg_114)
set_option maxRecDepth 100000 in
theorem pl_42 : ph_47.length = 165 := px_len_set pl_41
set_option maxRecDepth 100000 in
theorem pl_43 : ph_48.length = 165 := px_len_set pl_42
set_option maxRecDepth 100000 in
theorem pg_117 (a2 : Int32) : (ph_49 a2)[96]? = some (.inl (0, .inl (List.replicate 18 0 ++ [a2] ++ List.replicate 125 0))) := (px_get_eq pl_43 (Nat.le_of_ble_eq_true rfl))
set_option maxRecDepth 100000 in
theorem pg_118 (a2 a3 : Int32) : (ph_50 a2 a3)[93]? = some (.inr (2, [.int 1, .int 1, .ref 94, .ref 95, .ref 96, .ref 97, .ref 98])) := (px_get_ne (Nat.ne_of_beq_eq_false rfl) (pg_116 a2))
set_option maxRecDepth 100000 in
theorem pl_44 (a2 : Int32) : (ph_49 a2).length = 165 := px_len_set pl_43
set_option maxRecDepth 100000 in
theorem pg_119 (a2 a3 : Int32) : (ph_50 a2 a3)[96]? = some (.inl (0, .inl (List.replicate 18 0 ++ [a2] ++ [a3] ++ List.replicate 124 0))) := (px_get_eq (pl_44 a2) (Nat.le_of_ble_eq_true rfl))
set_option maxRecDepth 100000 in
theorem pg_120 (a2 a3 a4 : Int32) : (ph_51 a2 a3 a4)[93]? = some (.inr (2, [.int 1, .int 1, .ref 94, .ref 95, .ref 96, .ref 97, .ref 98])) := (px_get_ne (Nat.ne_of_beq_eq_false rfl) (pg_118 a2 a3))
set_option maxRecDepth 100000 in
theorem pg_121 (a2 a3 a4 : Int32) : (ph_51 a2 a3 a4)[97]? = some (.inl (0, .inl (List.replicate 8 0))) := (px_get_ne (Nat.ne_of_beq_eq_false rfl) (px_get_ne (Nat.ne_of_beq_eq_false rfl) (px_get_ne (Nat.ne_of_beq_eq_false rfl) (px_get_ne (Nat.ne_of_beq_eq_false rfl) (px_get_ne (Nat.ne_of_beq_eq_false rfl) (px_get_ne (Nat.ne_of_beq_eq_false rfl) (px_get_ne (Nat.ne_of_beq_eq_false rfl) pg_28)))))))
set_option maxRecDepth 100000 in
theorem pg_122 (a2 a3 a4 : Int32) : (ph_51 a2 a3 a4)[98]? = some (.inl (0, .inl (List.replicate 48 0))) := (px_get_ne (Nat.ne_of_beq_eq_false rfl) (px_get_ne (Nat.ne_of_beq_eq_false rfl) (px_get_ne (Nat.ne_of_beq_eq_false rfl) (px_get_ne (Nat.ne_of_beq_eq_false rfl) (px_get_ne (Nat.ne_of_beq_eq_false rfl) (px_get_ne (Nat.ne_of_beq_eq_false rfl) (px_get_ne (Nat.ne_of_beq_eq_false rfl) pg_43)))))))
set_option maxRecDepth 100000 in
theorem pg_123 (a2 a3 a4 : Int32) : (ph_52 a2 a3 a4)[93]? = some (.inr (2, [.int 1, .int 1, .ref 94, .ref 95, .ref 96, .ref 97, .ref 98])) := (px_get_ne (Nat.ne_of_beq_eq_false rfl) (pg_120 a2 a3 a4))
set_option maxRecDepth 100000 in
theorem pg_124 (a2 a3 a4 : Int32) : (ph_52 a2 a3 a4)[97]? = some (.inl (0, .inl (List.replicate 8 0))) := (px_get_ne (Nat.ne_of_beq_eq_false rfl) (pg_121 a2 a3 a4))
set_option maxRecDepth 100000 in
theorem pg_125 (a2 a3 a4 : Int32) : (ph_53 a2 a3 a4)[92]? = some (.inr (5, [.ref 1, .ref 93, .ref 99, .ref 110, .int 0, .ref 111, .ref 112, .ref 113])) := (px_get_ne (Nat.ne_of_beq_eq_false rfl) (px_get_ne (Nat.ne_of_beq_eq_false rfl) (px_get_ne (Nat.ne_of_beq_eq_false rfl) (px_get_ne (Nat.ne_of_beq_eq_false rfl) (px_get_ne (Nat.ne_of_beq_eq_false rfl) (px_get_ne (Nat.ne_of_beq_eq_false rfl) (px_get_ne (Nat.ne_of_beq_eq_false rfl) (px_get_ne (Nat.ne_of_beq_eq_false rfl) (px_get_ne (Nat.ne_of_beq_eq_false rfl) pg_25)))))))))
set_option maxRecDepth 100000 in
theorem pg_126 (a2 a3 a4 : Int32) : (ph_53 a2 a3 a4)[93]? = some (.inr (2, [.int 1, .int 1, .ref 94, .ref 95, .ref 96, .ref 97, .ref 98])) := (px_get_ne (Nat.ne_of_beq_eq_false rfl) (pg_123 a2 a3 a4))
set_option maxRecDepth 100000 in
theorem pg_127 (a2 a3 a4 : Int32) : (ph_53 a2 a3 a4)[94]? = some (.inl (0, .inl (List.replicate 6 (-1) ++ [0] ++ List.replicate 41 (-1)))) := (px_get_ne (Nat.ne_of_beq_eq_false rfl) (px_get_ne (Nat.ne_of_beq_eq_false rfl) (px_get_ne (Nat.ne_of_beq_eq_false rfl) (px_get_ne (Nat.ne_of_beq_eq_false rfl) (px_get_ne (Nat.ne_of_beq_eq_false rfl) (px_get_ne (Nat.ne_of_beq_eq_false rfl) (px_get_ne (Nat.ne_of_beq_eq_false rfl) (px_get_ne (Nat.ne_of_beq_eq_false rfl) (px_get_eq pl_0 (Nat.le_of_ble_eq_true rfl))))))))))
set_option maxRecDepth 100000 in
theorem pg_128 (a2 a3 a4 : Int32) : (ph_53 a2 a3 a4)[95]? = some (.inl (1, .inl (List.replicate 48 0))) := (px_get_ne (Nat.ne_of_beq_eq_false rfl) (px_get_ne (Nat.ne_of_beq_eq_false rfl) (px_get_ne (Nat.ne_of_beq_eq_false rfl) (px_get_ne (Nat.ne_of_beq_eq_false rfl) (px_get_ne (Nat.ne_of_beq_eq_false rfl) (px_get_eq pl_42 (Nat.le_of_ble_eq_true rfl)))))))
set_option maxRecDepth 100000 in
theorem pg_129 (a2 a3 a4 : Int32) : (ph_54 a2 a3 a4)[92]? = some (.inr (5, [.ref 1, .ref 93, .ref 99, .ref 110, .int 0, .ref 111, .ref 112, .ref 113])) := (px_get_ne (Nat.ne_of_beq_eq_false rfl) (pg_125 a2 a3 a4))
set_option maxRecDepth 100000 in
theorem pg_130 (a2 a3 a4 : Int32) : (ph_54 a2 a3 a4)[93]? = some (.inr (2, [.int 1, .int 1, .ref 94, .ref 95, .ref 96, .ref 97, .ref 98])) := (px_get_ne (Nat.ne_of_beq_eq_false rfl) (pg_126 a2 a3 a4))
set_option maxRecDepth 100000 in
theorem pg_131 (a2 a3 a4 : Int32) : (ph_54 a2 a3 a4)[1]? = some (.inl (3, .inr (.inr ([some 2, some 17, some 32, some 47, some 62, some 77])))) := (px_get_ne (Nat.ne_of_beq_eq_false rfl) (px_get_ne (Nat.ne_of_beq_eq_false rfl) (px_get_ne (Nat.ne_of_beq_eq_false rfl) (px_get_ne (Nat.ne_of_beq_eq_false rfl) (px_get_ne (Nat.ne_of_beq_eq_false rfl) (px_get_ne (Nat.ne_of_beq_eq_false rfl) (px_get_ne (Nat.ne_of_beq_eq_false rfl) (px_get_ne (Nat.ne_of_beq_eq_false rfl) (px_get_ne (Nat.ne_of_beq_eq_false rfl) (px_get_ne (Nat.ne_of_beq_eq_false rfl) pg_5))))))))))
set_option maxRecDepth 100000 in
theorem pg_132 (a2 a3 a4 : Int32) : (ph_54 a2 a3 a4)[2]? = some (.inr (4, [.int 0, .int 0, .ref 3, .ref 11])) := (px_get_ne (Nat.ne_of_beq_eq_false rfl) (px_get_ne (Nat.ne_of_beq_eq_false rfl) (px_get_ne (Nat.ne_of_beq_eq_false rfl) (px_get_ne (Nat.ne_of_beq_eq_false rfl) (px_get_ne (Nat.ne_of_beq_eq_false rfl) (px_get_ne (Nat.ne_of_beq_eq_false rfl) (px_get_ne (Nat.ne_of_beq_eq_false rfl) (px_get_ne (Nat.ne_of_beq_eq_false rfl) (px_get_ne (Nat.ne_of_beq_eq_false rfl) (px_get_ne (Nat.ne_of_beq_eq_false rfl) pg_6))))))))))
set_option maxRecDepth 100000 in
theorem pg_133 (a2 a3 a4 : Int32) : (ph_54 a2 a3 a4)[17]? = some (.inr (4, [.int 0, .int 0, .ref 18, .ref 26])) := (px_get_ne (Nat.ne_of_beq_eq_false rfl) (px_get_ne (Nat.ne_of_beq_eq_false rfl) (px_get_ne (Nat.ne_of_beq_eq_false rfl) (px_get_ne (Nat.ne_of_beq_eq_false rfl) (px_get_ne (Nat.ne_of_beq_eq_false rfl) (px_get_ne (Nat.ne_of_beq_eq_false rfl) (px_get_ne (Nat.ne_of_beq_eq_false rfl) (px_get_ne (Nat.ne_of_beq_eq_false rfl) (px_get_ne (Nat.ne_of_beq_eq_false rfl) (px_get_ne (Nat.ne_of_beq_eq_false rfl) pg_55))))))))))
set_option maxRecDepth 100000 in
theorem pg_134 (a2 a3 a4 : Int32) : (ph_54 a2 a3 a4)[32]? = some (.inr (4, [.int 0, .int 0, .ref 33, .ref 41])) := (px_get_ne (Nat.ne_of_beq_eq_false rfl) (px_get_ne (Nat.ne_of_beq_eq_false rfl) (px_get_ne (Nat.ne_of_beq_eq_false rfl) (px_get_ne (Nat.ne_of_beq_eq_false rfl) (px_get_ne (Nat.ne_of_beq_eq_false rfl) (px_get_ne (Nat.ne_of_beq_eq_false rfl) (px_get_ne (Nat.ne_of_beq_eq_false rfl) (px_get_ne (Nat.ne_of_beq_eq_false rfl) (px_get_ne (Nat.ne_of_beq_eq_false rfl) (px_get_ne (Nat.ne_of_beq_eq_false rfl) pg_57))))))))))
set_option maxRecDepth 100000 in
theorem pg_135 (a2 a3 a4 : Int32) : (ph_54 a2 a3 a4)[47]? = some (.inr (4, [.int 0, .int 0, .ref 48, .ref 56])) := (px_get_ne (Nat.ne_of_beq_eq_false rfl) (px_get_ne (Nat.ne_of_beq_eq_false rfl) (px_get_ne (Nat.ne_of_beq_eq_false rfl) (px_get_ne (Nat.ne_of_beq_eq_false rfl) (px_get_ne (Nat.ne_of_beq_eq_false rfl) (px_get_ne (Nat.ne_of_beq_eq_false rfl) (px_get_ne (Nat.ne_of_beq_eq_false rfl) (px_get_ne (Nat.ne_of_beq_eq_false rfl) (px_get_ne (Nat.ne_of_beq_eq_false rfl) (px_get_ne (Nat.ne_of_beq_eq_false rfl) pg_59))))))))))
set_option maxRecDepth 100000 in
theorem pg_136 (a2 a3 a4 : Int32) : (ph_54 a2 a3 a4)[62]? = some (.inr (4, [.int 0, .int 0, .ref 63, .ref 71])) := (px_get_ne (Nat.ne_of_beq_eq_false rfl) (px_get_ne (Nat.ne_of_beq_eq_false rfl) (px_get_ne (Nat.ne_of_beq_eq_false rfl) (px_get_ne (Nat.ne_of_beq_eq_false rfl) (px_get_ne (Nat.ne_of_beq_eq_false rfl) (px_get_ne (Nat.ne_of_beq_eq_false rfl) (px_get_ne (Nat.ne_of_beq_eq_false rfl) (px_get_ne (Nat.ne_of_beq_eq_false rfl) (px_get_ne (Nat.ne_of_beq_eq_false rfl) (px_get_ne (Nat.ne_of_beq_eq_false rfl) pg_61))))))))))
set_option maxRecDepth 100000 in
theorem pg_137 (a2 a3 a4 : Int32) : (ph_54 a2 a3 a4)[77]? = some (.inr (4, [.int 0, .int 0, .ref 78, .ref 86])) := (px_get_ne (Nat.ne_of_beq_eq_false rfl) (px_get_ne (Nat.ne_of_beq_eq_false rfl) (px_get_ne (Nat.ne_of_beq_eq_false rfl) (px_get_ne (Nat.ne_of_beq_eq_false rfl) (px_get_ne (Nat.ne_of_beq_eq_false rfl) (px_get_ne (Nat.ne_of_beq_eq_false rfl) (px_get_ne (Nat.ne_of_beq_eq_false rfl) (px_get_ne (Nat.ne_of_beq_eq_false rfl) (px_get_ne (Nat.ne_of_beq_eq_false rfl) (px_get_ne (Nat.ne_of_beq_eq_false rfl) pg_63))))))))))
set_option maxRecDepth 100000 in
theorem pg_138 (a2 a3 a4 : Int32) : (ph_54 a2 a3 a4)[94]? = some (.inl (0, .inl (List.replicate 6 (-1) ++ [0] ++ List.replicate 41 (-1)))) := (px_get_ne (Nat.ne_of_beq_eq_false rfl) (pg_127 a2 a3 a4))
set_option maxRecDepth 100000 in
theorem pl_45 (a2 a3 : Int32) : (ph_50 a2 a3).length = 165 := px_len_set (pl_44 a2)
set_option maxRecDepth 100000 in
theorem pl_46 (a2 a3 a4 : Int32) : (ph_51 a2 a3 a4).length = 165 := px_len_set (pl_45 a2 a3)
set_option maxRecDepth 100000 in
theorem pl_47 (a2 a3 a4 : Int32) : (ph_52 a2 a3 a4).length = 165 := px_len_set (pl_46 a2 a3 a4)
set_option maxRecDepth 100000 in
theorem pl_48 (a2 a3 a4 : Int32) : (ph_53 a2 a3 a4).length = 165 := px_len_set (pl_47 a2 a3 a4)
set_option maxRecDepth 100000 in
theorem pg_139 (a2 a3 a4 : Int32) : (ph_54 a2 a3 a4)[95]? = some (.inl (1, .inl (List.replicate 6 0 ++ [1] ++ List.replicate 41 0))) := (px_get_eq (pl_48 a2 a3 a4) (Nat.le_of_ble_eq_true rfl))
set_option maxRecDepth 100000 in
theorem pg_140 (a2 a3 a4 : Int32) : (ph_54 a2 a3 a4)[164]? = some (.inl (2, .inr (.inl ([0])))) := (px_get_ne (Nat.ne_of_beq_eq_false rfl) (px_get_ne (Nat.ne_of_beq_eq_false rfl) (px_get_ne (Nat.ne_of_beq_eq_false rfl) (px_get_ne (Nat.ne_of_beq_eq_false rfl) (px_get_ne (Nat.ne_of_beq_eq_false rfl) (px_get_ne (Nat.ne_of_beq_eq_false rfl) (px_get_ne (Nat.ne_of_beq_eq_false rfl) (px_get_ne (Nat.ne_of_beq_eq_false rfl) (px_get_ne (Nat.ne_of_beq_eq_false rfl) (px_get_ne (Nat.ne_of_beq_eq_false rfl) pg_9))))))))))
set_option maxRecDepth 100000 in
theorem pg_141 (a2 a3 a4 : Int32) : (ph_55 a2 a3 a4)[136]? = some (.inr (10, [.ref 137, .int 0, .int 0, .ref 138, .ref 151, .long 0])) := (px_get_ne (Nat.ne_of_beq_eq_false rfl) (px_get_ne (Nat.ne_of_beq_eq_false rfl) (px_get_ne (Nat.ne_of_beq_eq_false rfl) (px_get_ne (Nat.ne_of_beq_eq_false rfl) (px_get_ne (Nat.ne_of_beq_eq_false rfl) (px_get_ne (Nat.ne_of_beq_eq_false rfl) (px_get_ne (Nat.ne_of_beq_eq_false rfl) (px_get_ne (Nat.ne_of_beq_eq_false rfl) (px_get_ne (Nat.ne_of_beq_eq_false rfl) (px_get_ne (Nat.ne_of_beq_eq_false rfl) (px_get_ne (Nat.ne_of_beq_eq_false rfl) pg_1)))))))))))
set_option maxRecDepth 100000 in
theorem pl_49 (a2 a3 a4 : Int32) : (ph_54 a2 a3 a4).length = 165 := px_len_set (pl_48 a2 a3 a4)
set_option maxRecDepth 100000 in
theorem pl_50 (a2 a3 a4 : Int32) : (ph_55 a2 a3 a4).length = 165 := px_len_set (pl_49 a2 a3 a4)
set_option maxRecDepth 100000 in
theorem pg_142 (a2 a3 a4 : Int32) : (ph_56 a2 a3 a4)[136]? = some (.inr (10, [.ref 137, .int 0, .int 0, .ref 138, .ref 151, .long 0])) := (px_get_eq (pl_50 a2 a3 a4) (Nat.le_of_ble_eq_true rfl))
set_option maxRecDepth 100000 in
theorem pg_143 (a2 a3 a4 : Int32) : (ph_56 a2 a3 a4)[138]? = some (.inr (9, [.int 0, .int 0, .int 0, .ref 139, .ref 140, .ref 141, .ref 143, .ref 145, .ref 147, .ref 149, .ref 150, .int 0, .ref 136])) := (px_get_ne (Nat.ne_of_beq_eq_false rfl) (px_get_ne (Nat.ne_of_beq_eq_false rfl) (px_get_ne (Nat.ne_of_beq_eq_false rfl) (px_get_ne (Nat.ne_of_beq_eq_false rfl) (px_get_ne (Nat.ne_of_beq_eq_false rfl) (px_get_ne (Nat.ne_of_beq_eq_false rfl) (px_get_ne (Nat.ne_of_beq_eq_false rfl) (px_get_ne (Nat.ne_of_beq_eq_false rfl) (px_get_ne (Nat.ne_of_beq_eq_false rfl) (px_get_ne (Nat.ne_of_beq_eq_false rfl) (px_get_ne (Nat.ne_of_beq_eq_false rfl) (px_get_ne (Nat.ne_of_beq_eq_false rfl) pg_70))))))))))))
set_option maxRecDepth 100000 in
theorem pg_144 (a2 a3 a4 : Int32) : (ph_56 a2 a3 a4)[141]? = some (.inr (7, [.int 6, .int 0, .ref 142])) := (px_get_ne (Nat.ne_of_beq_eq_false rfl) (px_get_ne (Nat.ne_of_beq_eq_false rfl) (px_get_ne (Nat.ne_of_beq_eq_false rfl) (px_get_ne (Nat.ne_of_beq_eq_false rfl) (px_get_ne (Nat.ne_of_beq_eq_false rfl) (px_get_ne (Nat.ne_of_beq_eq_false rfl) (px_get_ne (Nat.ne_of_beq_eq_false rfl) (px_get_ne (Nat.ne_of_beq_eq_false rfl) (px_get_ne (Nat.ne_of_beq_eq_false rfl) (px_get_ne (Nat.ne_of_beq_eq_false rfl) (px_get_ne (Nat.ne_of_beq_eq_false rfl) (px_get_ne (Nat.ne_of_beq_eq_false rfl) pg_72))))))))))))
set_option maxRecDepth 100000 in
theorem pl_51 (a2 a3 a4 : Int32) : (ph_56 a2 a3 a4).length = 165 := px_len_set (pl_50 a2 a3 a4)
set_option maxRecDepth 100000 in
theorem pg_145 (a2 a3 a4 : Int32) : (ph_57 a2 a3 a4)[138]? = some (.inr (9, [.int 0, .int 0, .int 0, .ref 139, .ref 140, .ref 141, .ref 143, .ref 145, .ref 147, .ref 149, .ref 150, .int 0, .ref 136])) := (px_get_lt (pl_51 a2 a3 a4) (Nat.le_of_ble_eq_true rfl) (pg_143 a2 a3 a4))
set_option maxRecDepth 100000 in
theorem pg_146 (a2 a3 a4 : Int32) : (ph_57 a2 a3 a4)[165]? = some (.inl (0, .inl (List.replicate 6 0))) := (px_get_ge (k := 0) (pl_51 a2 a3 a4) rfl rfl)
set_option maxRecDepth 100000 in
theorem pl_52 (a2 a3 a4 : Int32) : (ph_57 a2 a3 a4).length = 166 := px_len_app (pl_51 a2 a3 a4) rfl
set_option maxRecDepth 100000 in
theorem pg_147 (a2 a3 a4 : Int32) : (ph_58 a2 a3 a4)[165]? = some (.inl (0, .inl (List.replicate 6 0))) := (px_get_eq (pl_52 a2 a3 a4) (Nat.le_of_ble_eq_true rfl))
set_option maxRecDepth 100000 in
theorem pl_53 (a2 a3 a4 : Int32) : (ph_58 a2 a3 a4).length = 166 := px_len_set (pl_52 a2 a3 a4)
set_option maxRecDepth 100000 in
theorem pg_148 (a2 a3 a4 : Int32) : (ph_59 a2 a3 a4)[165]? = some (.inl (0, .inl ([0, 1, 0, 0, 0, 0]))) := (px_get_eq (pl_53 a2 a3 a4) (Nat.le_of_ble_eq_true rfl))
set_option maxRecDepth 100000 in
theorem pl_54 (a2 a3 a4 : Int32) : (ph_59 a2 a3 a4).length = 166 := px_len_set (pl_53 a2 a3 a4)
set_option maxRecDepth 100000 in
theorem pg_149 (a2 a3 a4 : Int32) : (ph_60 a2 a3 a4)[165]? = some (.inl (0, .inl ([0, 1, a2, 0, 0, 0]))) := (px_get_eq (pl_54 a2 a3 a4) (Nat.le_of_ble_eq_true rfl))
set_option maxRecDepth 100000 in
theorem pl_55 (a2 a3 a4 : Int32) : (ph_60 a2 a3 a4).length = 166 := px_len_set (pl_54 a2 a3 a4)
set_option maxRecDepth 100000 in
theorem pg_150 (a2 a3 a4 : Int32) : (ph_61 a2 a3 a4)[165]? = some (.inl (0, .inl ([0, 1, a2, a3, 0, 0]))) := (px_get_eq (pl_55 a2 a3 a4) (Nat.le_of_ble_eq_true rfl))
set_option maxRecDepth 100000 in
theorem pl_56 (a2 a3 a4 : Int32) : (ph_61 a2 a3 a4).length = 166 := px_len_set (pl_55 a2 a3 a4)
set_option maxRecDepth 100000 in
theorem pg_151 (a2 a3 a4 : Int32) : (ph_62 a2 a3 a4)[165]? = some (.inl (0, .inl ([0, 1, a2, a3, a4, 0]))) := (px_get_eq (pl_56 a2 a3 a4) (Nat.le_of_ble_eq_true rfl))
set_option maxRecDepth 100000 in
theorem pg_152 (a2 a3 a4 : Int32) : (ph_63 a2 a3 a4)[141]? = some (.inr (7, [.int 6, .int 0, .ref 142])) := (px_get_ne (Nat.ne_of_beq_eq_false rfl) (px_get_ne (Nat.ne_of_beq_eq_false rfl) (px_get_ne (Nat.ne_of_beq_eq_false rfl) (px_get_ne (Nat.ne_of_beq_eq_false rfl) (px_get_ne (Nat.ne_of_beq_eq_false rfl) (px_get_ne (Nat.ne_of_beq_eq_false rfl) (px_get_lt (pl_51 a2 a3 a4) (Nat.le_of_ble_eq_true rfl) (pg_144 a2 a3 a4))))))))
set_option maxRecDepth 100000 in
theorem pg_153 (a2 a3 a4 : Int32) : (ph_63 a2 a3 a4)[142]? = some (.inl (0, .inl (List.replicate 96 0))) := (px_get_ne (Nat.ne_of_beq_eq_false rfl) (px_get_ne (Nat.ne_of_beq_eq_false rfl) (px_get_ne (Nat.ne_of_beq_eq_false rfl) (px_get_ne (Nat.ne_of_beq_eq_false rfl) (px_get_ne (Nat.ne_of_beq_eq_false rfl) (px_get_ne (Nat.ne_of_beq_eq_false rfl) (px_get_lt (pl_51 a2 a3 a4) (Nat.le_of_ble_eq_true rfl) (px_get_ne (Nat.ne_of_beq_eq_false rfl) (px_get_ne (Nat.ne_of_beq_eq_false rfl) (px_get_ne (Nat.ne_of_beq_eq_false rfl) (px_get_ne (Nat.ne_of_beq_eq_false rfl) (px_get_ne (Nat.ne_of_beq_eq_false rfl) (px_get_ne (Nat.ne_of_beq_eq_false rfl) (px_get_ne (Nat.ne_of_beq_eq_false rfl) (px_get_ne (Nat.ne_of_beq_eq_false rfl) (px_get_ne (Nat.ne_of_beq_eq_false rfl) (px_get_ne (Nat.ne_of_beq_eq_false rfl) (px_get_ne (Nat.ne_of_beq_eq_false rfl) (px_get_ne (Nat.ne_of_beq_eq_false rfl) pg_82)))))))))))))))))))
set_option maxRecDepth 100000 in
theorem pl_57 (a2 a3 a4 : Int32) : (ph_62 a2 a3 a4).length = 166 := px_len_set (pl_56 a2 a3 a4)
set_option maxRecDepth 100000 in
theorem pg_154 (a2 a3 a4 : Int32) : (ph_63 a2 a3 a4)[165]? = some (.inl (0, .inl ([0, 1, a2, a3, a4, 1]))) := (px_get_eq (pl_57 a2 a3 a4) (Nat.le_of_ble_eq_true rfl))
set_option maxRecDepth 100000 in
theorem pg_155 (a2 a3 a4 : Int32) : (ph_64 a2 a3 a4)[141]? = some (.inr (7, [.int 6, .int 0, .ref 142])) := (px_get_ne (Nat.ne_of_beq_eq_false rfl) (pg_152 a2 a3 a4))
set_option maxRecDepth 100000 in
theorem pg_156 (a2 a3 a4 : Int32) : (ph_65 a2 a3 a4)[138]? = some (.inr (9, [.int 0, .int 0, .int 0, .ref 139, .ref 140, .ref 141, .ref 143, .ref 145, .ref 147, .ref 149, .ref 150, .int 0, .ref 136])) := (px_get_ne (Nat.ne_of_beq_eq_false rfl) (px_get_ne (Nat.ne_of_beq_eq_false rfl) (px_get_ne (Nat.ne_of_beq_eq_false rfl) (px_get_ne (Nat.ne_of_beq_eq_false rfl) (px_get_ne (Nat.ne_of_beq_eq_false rfl) (px_get_ne (Nat.ne_of_beq_eq_false rfl) (px_get_ne (Nat.ne_of_beq_eq_false rfl) (px_get_ne (Nat.ne_of_beq_eq_false rfl) (pg_145 a2 a3 a4)))))))))
set_option maxRecDepth 100000 in
theorem pl_58 (a2 a3 a4 : Int32) : (ph_63 a2 a3 a4).length = 166 := px_len_set (pl_57 a2 a3 a4)
set_option maxRecDepth 100000 in
theorem pl_59 (a2 a3 a4 : Int32) : (ph_64 a2 a3 a4).length = 166 := px_len_set (pl_58 a2 a3 a4)
set_option maxRecDepth 100000 in
theorem pl_60 (a2 a3 a4 : Int32) : (ph_65 a2 a3 a4).length = 166 := px_len_set (pl_59 a2 a3 a4)
set_option maxRecDepth 100000 in
theorem pg_157 (a2 a3 a4 : Int32) : (ph_66 a2 a3 a4)[138]? = some (.inr (9, [.int 1, .int 0, .int 0, .ref 139, .ref 140, .ref 141, .ref 143, .ref 145, .ref 147, .ref 149, .ref 150, .int 0, .ref 136])) := (px_get_eq (pl_60 a2 a3 a4) (Nat.le_of_ble_eq_true rfl))
set_option maxRecDepth 100000 in
theorem pg_158 (a2 a3 a4 : Int32) : (ph_66 a2 a3 a4)[136]? = some (.inr (10, [.ref 137, .int 0, .int 0, .ref 138, .ref 151, .long 0])) := (px_get_ne (Nat.ne_of_beq_eq_false rfl) (px_get_ne (Nat.ne_of_beq_eq_false rfl) (px_get_ne (Nat.ne_of_beq_eq_false rfl) (px_get_ne (Nat.ne_of_beq_eq_false rfl) (px_get_ne (Nat.ne_of_beq_eq_false rfl) (px_get_ne (Nat.ne_of_beq_eq_false rfl) (px_get_ne (Nat.ne_of_beq_eq_false rfl) (px_get_ne (Nat.ne_of_beq_eq_false rfl) (px_get_ne (Nat.ne_of_beq_eq_false rfl) (px_get_lt (pl_51 a2 a3 a4) (Nat.le_of_ble_eq_true rfl) (pg_142 a2 a3 a4)))))))))))
set_option maxRecDepth 100000 in
theorem pg_159 (a2 a3 a4 : Int32) : (ph_66 a2 a3 a4)[147]? = some (.inr (7, [.int 6, .int 0, .ref 148])) := (px_get_ne (Nat.ne_of_beq_eq_false rfl) (px_get_ne (Nat.ne_of_beq_eq_false rfl) (px_get_ne (Nat.ne_of_beq_eq_false rfl) (px_get_ne (Nat.ne_of_beq_eq_false rfl) (px_get_ne (Nat.ne_of_beq_eq_false rfl) (px_get_ne (Nat.ne_of_beq_eq_false rfl) (px_get_ne (Nat.ne_of_beq_eq_false rfl) (px_get_ne (Nat.ne_of_beq_eq_false rfl) (px_get_ne (Nat.ne_of_beq_eq_false rfl) (px_get_lt (pl_51 a2 a3 a4) (Nat.le_of_ble_eq_true rfl) (px_get_ne (Nat.ne_of_beq_eq_false rfl) (px_get_ne (Nat.ne_of_beq_eq_false rfl) (px_get_ne (Nat.ne_of_beq_eq_false rfl) (px_get_ne (Nat.ne_of_beq_eq_false rfl) (px_get_ne (Nat.ne_of_beq_eq_false rfl) (px_get_ne (Nat.ne_of_beq_eq_false rfl) (px_get_ne (Nat.ne_of_beq_eq_false rfl) (px_get_ne (Nat.ne_of_beq_eq_false rfl) (px_get_ne (Nat.ne_of_beq_eq_false rfl) (px_get_ne (Nat.ne_of_beq_eq_false rfl) (px_get_ne (Nat.ne_of_beq_eq_false rfl) (px_get_ne (Nat.ne_of_beq_eq_false rfl) pg_89))))))))))))))))))))))
set_option maxRecDepth 100000 in
theorem pg_160 (a2 a3 a4 : Int32) : (ph_67 a2 a3 a4)[138]? = some (.inr (9, [.int 1, .int 0, .int 0, .ref 139, .ref 140, .ref 141, .ref 143, .ref 145, .ref 147, .ref 149, .ref 150, .int 0, .ref 136])) := (px_get_ne (Nat.ne_of_beq_eq_false rfl) (pg_157 a2 a3 a4))
set_option maxRecDepth 100000 in
theorem pl_61 (a2 a3 a4 : Int32) : (ph_66 a2 a3 a4).length = 166 := px_len_set (pl_60 a2 a3 a4)
set_option maxRecDepth 100000 in
theorem pl_62 (a2 a3 a4 : Int32) : (ph_67 a2 a3 a4).length = 166 := px_len_set (pl_61 a2 a3 a4)
set_option maxRecDepth 100000 in
theorem pg_161 (a2 a3 a4 : Int32) : (ph_68 a2 a3 a4)[138]? = some (.inr (9, [.int 1, .int 0, .int 0, .ref 139, .ref 140, .ref 141, .ref 143, .ref 145, .ref 147, .ref 149, .ref 150, .int 0, .ref 136])) := (px_get_eq (pl_62 a2 a3 a4) (Nat.le_of_ble_eq_true rfl))
set_option maxRecDepth 100000 in
theorem pg_162 (a2 a3 a4 : Int32) : (ph_68 a2 a3 a4)[136]? = some (.inr (10, [.ref 137, .int 0, .int 0, .ref 138, .ref 151, .long 0])) := (px_get_ne (Nat.ne_of_beq_eq_false rfl) (px_get_ne (Nat.ne_of_beq_eq_false rfl) (pg_158 a2 a3 a4)))
set_option maxRecDepth 100000 in
theorem pg_163 (a2 a3 a4 : Int32) : (ph_68 a2 a3 a4)[147]? = some (.inr (7, [.int 6, .int 0, .ref 148])) := (px_get_ne (Nat.ne_of_beq_eq_false rfl) (px_get_eq (pl_61 a2 a3 a4) (Nat.le_of_ble_eq_true rfl)))
set_option maxRecDepth 100000 in
theorem pg_164 (a2 a3 a4 : Int32) : (ph_68 a2 a3 a4)[143]? = some (.inr (7, [.int 6, .int 0, .ref 144])) := (px_get_ne (Nat.ne_of_beq_eq_false rfl) (px_get_ne (Nat.ne_of_beq_eq_false rfl) (px_get_ne (Nat.ne_of_beq_eq_false rfl) (px_get_ne (Nat.ne_of_beq_eq_false rfl) (px_get_ne (Nat.ne_of_beq_eq_false rfl) (px_get_ne (Nat.ne_of_beq_eq_false rfl) (px_get_ne (Nat.ne_of_beq_eq_false rfl) (px_get_ne (Nat.ne_of_beq_eq_false rfl) (px_get_ne (Nat.ne_of_beq_eq_false rfl) (px_get_ne (Nat.ne_of_beq_eq_false rfl) (px_get_ne (Nat.ne_of_beq_eq_false rfl) (px_get_lt (pl_51 a2 a3 a4) (Nat.le_of_ble_eq_true rfl) (px_get_ne (Nat.ne_of_beq_eq_false rfl) (px_get_ne (Nat.ne_of_beq_eq_false rfl) (px_get_ne (Nat.ne_of_beq_eq_false rfl) (px_get_ne (Nat.ne_of_beq_eq_false rfl) (px_get_ne (Nat.ne_of_beq_eq_false rfl) (px_get_ne (Nat.ne_of_beq_eq_false rfl) (px_get_ne (Nat.ne_of_beq_eq_false rfl) (px_get_ne (Nat.ne_of_beq_eq_false rfl) (px_get_ne (Nat.ne_of_beq_eq_false rfl) (px_get_ne (Nat.ne_of_beq_eq_false rfl) (px_get_ne (Nat.ne_of_beq_eq_false rfl) (px_get_ne (Nat.ne_of_beq_eq_false rfl) pg_95))))))))))))))))))))))))
set_option maxRecDepth 100000 in
theorem pl_63 (a2 a3 a4 : Int32) : (ph_68 a2 a3 a4).length = 166 := px_len_set (pl_62 a2 a3 a4)
set_option maxRecDepth 100000 in
theorem pg_165 (a2 a3 a4 : Int32) : (ph_69 a2 a3 a4)[143]? = some (.inr (7, [.int 6, .int 0, .ref 144])) := (px_get_eq (pl_63 a2 a3 a4) (Nat.le_of_ble_eq_true rfl))
set_option maxRecDepth 100000 in
theorem pg_166 (a2 a3 a4 : Int32) : (ph_69 a2 a3 a4)[144]? = some (.inl (0, .inl (List.replicate 96 0))) := (px_get_ne (Nat.ne_of_beq_eq_false rfl) (px_get_ne (Nat.ne_of_beq_eq_false rfl) (px_get_ne (Nat.ne_of_beq_eq_false rfl) (px_get_ne (Nat.ne_of_beq_eq_false rfl) (px_get_ne (Nat.ne_of_beq_eq_false rfl) (px_get_ne (Nat.ne_of_beq_eq_false rfl) (px_get_ne (Nat.ne_of_beq_eq_false rfl) (px_get_ne (Nat.ne_of_beq_eq_false rfl) (px_get_ne (Nat.ne_of_beq_eq_false rfl) (px_get_ne (Nat.ne_of_beq_eq_false rfl) (px_get_ne (Nat.ne_of_beq_eq_false rfl) (px_get_ne (Nat.ne_of_beq_eq_false rfl) (px_get_lt (pl_51 a2 a3 a4) (Nat.le_of_ble_eq_true rfl) (px_get_ne (Nat.ne_of_beq_eq_false rfl) (px_get_ne (Nat.ne_of_beq_eq_false rfl) (px_get_ne (Nat.ne_of_beq_eq_false rfl) (px_get_ne (Nat.ne_of_beq_eq_false rfl) (px_get_ne (Nat.ne_of_beq_eq_false rfl) (px_get_ne (Nat.ne_of_beq_eq_false rfl) (px_get_ne (Nat.ne_of_beq_eq_false rfl) (px_get_ne (Nat.ne_of_beq_eq_false rfl) (px_get_ne (Nat.ne_of_beq_eq_false rfl) (px_get_ne (Nat.ne_of_beq_eq_false rfl) (px_get_ne (Nat.ne_of_beq_eq_false rfl) (px_get_ne (Nat.ne_of_beq_eq_false rfl) pg_98)))))))))))))))))))))))))
set_option maxRecDepth 100000 in
theorem pg_167 (a2 a3 a4 : Int32) : (ph_69 a2 a3 a4)[147]? = some (.inr (7, [.int 6, .int 0, .ref 148])) := (px_get_ne (Nat.ne_of_beq_eq_false rfl) (pg_163 a2 a3 a4))
set_option maxRecDepth 100000 in
theorem pg_168 (a2 a3 a4 : Int32) : (ph_69 a2 a3 a4)[148]? = some (.inl (0, .inl (List.replicate 96 0))) := (px_get_ne (Nat.ne_of_beq_eq_false rfl) (px_get_ne (Nat.ne_of_beq_eq_false rfl) (px_get_ne (Nat.ne_of_beq_eq_false rfl) (px_get_ne (Nat.ne_of_beq_eq_false rfl) (px_get_ne (Nat.ne_of_beq_eq_false rfl) (px_get_ne (Nat.ne_of_beq_eq_false rfl) (px_get_ne (Nat.ne_of_beq_eq_false rfl) (px_get_ne (Nat.ne_of_beq_eq_false rfl) (px_get_ne (Nat.ne_of_beq_eq_false rfl) (px_get_ne (Nat.ne_of_beq_eq_false rfl) (px_get_ne (Nat.ne_of_beq_eq_false rfl) (px_get_ne (Nat.ne_of_beq_eq_false rfl) (px_get_lt (pl_51 a2 a3 a4) (Nat.le_of_ble_eq_true rfl) (px_get_ne (Nat.ne_of_beq_eq_false rfl) (px_get_ne (Nat.ne_of_beq_eq_false rfl) (px_get_ne (Nat.ne_of_beq_eq_false rfl) (px_get_ne (Nat.ne_of_beq_eq_false rfl) (px_get_ne (Nat.ne_of_beq_eq_false rfl) (px_get_ne (Nat.ne_of_beq_eq_false rfl) (px_get_ne (Nat.ne_of_beq_eq_false rfl) (px_get_ne (Nat.ne_of_beq_eq_false rfl) (px_get_ne (Nat.ne_of_beq_eq_false rfl) (px_get_ne (Nat.ne_of_beq_eq_false rfl) (px_get_ne (Nat.ne_of_beq_eq_false rfl) (px_get_ne (Nat.ne_of_beq_eq_false rfl) pg_101)))))))))))))))))))))))))
set_option maxRecDepth 100000 in
theorem pg_169 (a2 a3 a4 : Int32) : (ph_70 a2 a3 a4)[138]? = some (.inr (9, [.int 1, .int 0, .int 0, .ref 139, .ref 140, .ref 141, .ref 143, .ref 145, .ref 147, .ref 149, .ref 150, .int 0, .ref 136])) := (px_get_ne (Nat.ne_of_beq_eq_false rfl) (px_get_ne (Nat.ne_of_beq_eq_false rfl) (pg_161 a2 a3 a4)))
set_option maxRecDepth 100000 in
theorem pg_170 (a2 a3 a4 : Int32) : (ph_70 a2 a3 a4)[145]? = some (.inr (7, [.int 2, .int 0, .ref 146])) := (px_get_ne (Nat.ne_of_beq_eq_false rfl) (px_get_ne (Nat.ne_of_beq_eq_false rfl) (px_get_ne (Nat.ne_of_beq_eq_false rfl) (px_get_ne (Nat.ne_of_beq_eq_false rfl) (px_get_ne (Nat.ne_of_beq_eq_false rfl) (px_get_ne (Nat.ne_of_beq_eq_false rfl) (px_get_ne (Nat.ne_of_beq_eq_false rfl) (px_get_ne (Nat.ne_of_beq_eq_false rfl) (px_get_ne (Nat.ne_of_beq_eq_false rfl) (px_get_ne (Nat.ne_of_beq_eq_false rfl) (px_get_ne (Nat.ne_of_beq_eq_false rfl) (px_get_ne (Nat.ne_of_beq_eq_false rfl) (px_get_ne (Nat.ne_of_beq_eq_false rfl) (px_get_lt (pl_51 a2 a3 a4) (Nat.le_of_ble_eq_true rfl) (px_get_ne (Nat.ne_of_beq_eq_false rfl) (px_get_ne (Nat.ne_of_beq_eq_false rfl) (px_get_ne (Nat.ne_of_beq_eq_false rfl) (px_get_ne (Nat.ne_of_beq_eq_false rfl) (px_get_ne (Nat.ne_of_beq_eq_false rfl) (px_get_ne (Nat.ne_of_beq_eq_false rfl) (px_get_ne (Nat.ne_of_beq_eq_false rfl) (px_get_ne (Nat.ne_of_beq_eq_false rfl) (px_get_ne (Nat.ne_of_beq_eq_false rfl) (px_get_ne (Nat.ne_of_beq_eq_false rfl) (px_get_ne (Nat.ne_of_beq_eq_false rfl) (px_get_ne (Nat.ne_of_beq_eq_false rfl) pg_104))))))))))))))))))))))))))
set_option maxRecDepth 100000 in
theorem pg_171 (a2 a3 a4 : Int32) : (ph_70 a2 a3 a4)[141]? = some (.inr (7, [.int 6, .int 1, .ref 142])) := (px_get_ne (Nat.ne_of_beq_eq_false rfl) (px_get_ne (Nat.ne_of_beq_eq_false rfl) (px_get_ne (Nat.ne_of_beq_eq_false rfl) (px_get_ne (Nat.ne_of_beq_eq_false rfl) (px_get_ne (Nat.ne_of_beq_eq_false rfl) (px_get_eq (pl_59 a2 a3 a4) (Nat.le_of_ble_eq_true rfl)))))))
set_option maxRecDepth 100000 in
theorem pg_172 (a2 a3 a4 : Int32) : (ph_70 a2 a3 a4)[142]? = some (.inl (0, .inl ([0] ++ [1] ++ [a2] ++ [a3] ++ [a4] ++ [1] ++ List.replicate 90 0))) := (px_get_ne (Nat.ne_of_beq_eq_false rfl) (px_get_ne (Nat.ne_of_beq_eq_false rfl) (px_get_ne (Nat.ne_of_beq_eq_false rfl) (px_get_ne (Nat.ne_of_beq_eq_false rfl) (px_get_ne (Nat.ne_of_beq_eq_false rfl) (px_get_ne (Nat.ne_of_beq_eq_false rfl) (px_get_eq (pl_58 a2 a3 a4) (Nat.le_of_ble_eq_true rfl))))))))
set_option maxRecDepth 100000 in
theorem pg_173 (a2 a3 a4 : Int32) : (ph_70 a2 a3 a4)[136]? = some (.inr (10, [.ref 137, .int 0, .int 0, .ref 138, .ref 151, .long 0])) := (px_get_ne (Nat.ne_of_beq_eq_false rfl) (px_get_ne (Nat.ne_of_beq_eq_false rfl) (pg_162 a2 a3 a4)))
set_option maxRecDepth 100000 in
theorem pg_174 (a2 a3 a4 : Int32) : (ph_70 a2 a3 a4)[164]? = some (.inl (2, .inr (.inl ([0])))) := (px_get_ne (Nat.ne_of_beq_eq_false rfl) (px_get_ne (Nat.ne_of_beq_eq_false rfl) (px_get_ne (Nat.ne_of_beq_eq_false rfl) (px_get_ne (Nat.ne_of_beq_eq_false rfl) (px_get_ne (Nat.ne_of_beq_eq_false rfl) (px_get_ne (Nat.ne_of_beq_eq_false rfl) (px_get_ne (Nat.ne_of_beq_eq_false rfl) (px_get_ne (Nat.ne_of_beq_eq_false rfl) (px_get_ne (Nat.ne_of_beq_eq_false rfl) (px_get_ne (Nat.ne_of_beq_eq_false rfl) (px_get_ne (Nat.ne_of_beq_eq_false rfl) (px_get_ne (Nat.ne_of_beq_eq_false rfl) (px_get_ne (Nat.ne_of_beq_eq_false rfl) (px_get_lt (pl_51 a2 a3 a4) (Nat.le_of_ble_eq_true rfl) (px_get_ne (Nat.ne_of_beq_eq_false rfl) (px_get_eq (pl_49 a2 a3 a4) (Nat.le_of_ble_eq_true rfl)))))))))))))))))
set_option maxRecDepth 100000 in
theorem pg_175 : ph_71[93]? = some (.inr (2, [.int 0, .int 0, .ref 94, .ref 95, .ref 96, .ref 97, .ref 98])) := (px_get_ne (Nat.ne_of_beq_eq_false rfl) pg_26)
set_option maxRecDepth 100000 in
theorem pl_64 : ph_71.length = 165 := px_len_set pl_0
set_option maxRecDepth 100000 in
theorem pg_176 : ph_72[93]? = some (.inr (2, [.int 1, .int 0, .ref 94, .ref 95, .ref 96, .ref 97, .ref 98])) := (px_get_eq pl_64 (Nat.le_of_ble_eq_true rfl))
set_option maxRecDepth 100000 in
theorem pl_65 : ph_72.length = 165 := px_len_set pl_64
set_option maxRecDepth 100000 in
theorem pg_177 : ph_73[93]? = some (.inr (2, [.int 1, .int 1, .ref 94, .ref 95, .ref 96, .ref 97, .ref 98])) := (px_get_eq pl_65 (Nat.le_of_ble_eq_true rfl))
set_option maxRecDepth 100000 in
theorem pg_178 : ph_73[95]? = some (.inl (1, .inl (List.replicate 48 0))) := (px_get_ne (Nat.ne_of_beq_eq_false rfl) (px_get_ne (Nat.ne_of_beq_eq_false rfl) (px_get_ne (Nat.ne_of_beq_eq_false rfl) pg_32)))
set_option maxRecDepth 100000 in
theorem pg_179 : ph_74[93]? = some (.inr (2, [.int 1, .int 1, .ref 94, .ref 95, .ref 96, .ref 97, .ref 98])) := (px_get_ne (Nat.ne_of_beq_eq_false rfl) pg_177)
set_option maxRecDepth 100000 in
theorem pg_180 : ph_74[96]? = some (.inl (0, .inl (List.replicate 144 0))) := (px_get_ne (Nat.ne_of_beq_eq_false rfl) (px_get_ne (Nat.ne_of_beq_eq_false rfl) (px_get_ne (Nat.ne_of_beq_eq_false rfl) (px_get_ne (Nat.ne_of_beq_eq_false rfl) pg_35))))
set_option maxRecDepth 100000 in
theorem pg_181 (a2 : Int32) : (ph_75 a2)[93]? = some (.inr (2, [.int 1, .int 1, .ref 94, .ref 95, .ref 96, .ref 97, .ref 98])) := (px_get_ne (Nat.ne_of_beq_eq_false rfl) pg_179)
set_option maxRecDepth 100000 in
theorem pl_66 : ph_73.length = 165 := px_len_set pl_65
set_option maxRecDepth 100000 in
theorem pl_67 : ph_74.length = 165 := px_len_set pl_66
set_option maxRecDepth 100000 in
theorem pg_182 (a2 : Int32) : (ph_75 a2)[96]? = some (.inl (0, .inl (List.replicate 36 0 ++ [a2] ++ List.replicate 107 0))) := (px_get_eq pl_67 (Nat.le_of_ble_eq_true rfl))
set_option maxRecDepth 100000 in
theorem pg_183 (a2 a3 : Int32) : (ph_76 a2 a3)[93]? = some (.inr (2, [.int 1, .int 1, .ref 94, .ref 95, .ref 96, .ref 97, .ref 98])) := (px_get_ne (Nat.ne_of_beq_eq_false rfl) (pg_181 a2))
set_option maxRecDepth 100000 in
theorem pl_68 (a2 : Int32) : (ph_75 a2).length = 165 := px_len_set pl_67
set_option maxRecDepth 100000 in
theorem pg_184 (a2 a3 : Int32) : (ph_76 a2 a3)[96]? = some (.inl (0, .inl (List.replicate 36 0 ++ [a2] ++ [a3] ++ List.replicate 106 0))) := (px_get_eq (pl_68 a2) (Nat.le_of_ble_eq_true rfl))
set_option maxRecDepth 100000 in
theorem pg_185 (a2 a3 a4 : Int32) : (ph_77 a2 a3 a4)[93]? = some (.inr (2, [.int 1, .int 1, .ref 94, .ref 95, .ref 96, .ref 97, .ref 98])) := (px_get_ne (Nat.ne_of_beq_eq_false rfl) (pg_183 a2 a3))
set_option maxRecDepth 100000 in
theorem pg_186 (a2 a3 a4 : Int32) : (ph_77 a2 a3 a4)[97]? = some (.inl (0, .inl (List.replicate 8 0))) := (px_get_ne (Nat.ne_of_beq_eq_false rfl) (px_get_ne (Nat.ne_of_beq_eq_false rfl) (px_get_ne (Nat.ne_of_beq_eq_false rfl) (px_get_ne (Nat.ne_of_beq_eq_false rfl) (px_get_ne (Nat.ne_of_beq_eq_false rfl) (px_get_ne (Nat.ne_of_beq_eq_false rfl) (px_get_ne (Nat.ne_of_beq_eq_false rfl) pg_28)))))))
set_option maxRecDepth 100000 in
theorem pg_187 (a2 a3 a4 : Int32) : (ph_77 a2 a3 a4)[98]? = some (.inl (0, .inl (List.replicate 48 0))) := (px_get_ne (Nat.ne_of_beq_eq_false rfl) (px_get_ne (Nat.ne_of_beq_eq_false rfl) (px_get_ne (Nat.ne_of_beq_eq_false rfl) (px_get_ne (Nat.ne_of_beq_eq_false rfl) (px_get_ne (Nat.ne_of_beq_eq_false rfl) (px_get_ne (Nat.ne_of_beq_eq_false rfl) (px_get_ne (Nat.ne_of_beq_eq_false rfl) pg_43)))))))
set_option maxRecDepth 100000 in
theorem pg_188 (a2 a3 a4 : Int32) : (ph_78 a2 a3 a4)[93]? = some (.inr (2, [.int 1, .int 1, .ref 94, .ref 95, .ref 96, .ref 97, .ref 98])) := (px_get_ne (Nat.ne_of_beq_eq_false rfl) (pg_185 a2 a3 a4))
set_option maxRecDepth 100000 in
theorem pg_189 (a2 a3 a4 : Int32) : (ph_78 a2 a3 a4)[97]? = some (.inl (0, .inl (List.replicate 8 0))) := (px_get_ne (Nat.ne_of_beq_eq_false rfl) (pg_186 a2 a3 a4))
set_option maxRecDepth 100000 in
theorem pg_190 (a2 a3 a4 : Int32) : (ph_79 a2 a3 a4)[92]? = some (.inr (5, [.ref 1, .ref 93, .ref 99, .ref 110, .int 0, .ref 111, .ref 112, .ref 113])) := (px_get_ne (Nat.ne_of_beq_eq_false rfl) (px_get_ne (Nat.ne_of_beq_eq_false rfl) (px_get_ne (Nat.ne_of_beq_eq_false rfl) (px_get_ne (Nat.ne_of_beq_eq_false rfl) (px_get_ne (Nat.ne_of_beq_eq_false rfl) (px_get_ne (Nat.ne_of_beq_eq_false rfl) (px_get_ne (Nat.ne_of_beq_eq_false rfl) (px_get_ne (Nat.ne_of_beq_eq_false rfl) (px_get_ne (Nat.ne_of_beq_eq_false rfl) pg_25)))))))))
set_option maxRecDepth 100000 in
theorem pg_191 (a2 a3 a4 : Int32) : (ph_79 a2 a3 a4)[93]? = some (.inr (2, [.int 1, .int 1, .ref 94, .ref 95, .ref 96, .ref 97, .ref 98])) := (px_get_ne (Nat.ne_of_beq_eq_false rfl) (pg_188 a2 a3 a4))
set_option maxRecDepth 100000 in
theorem pg_192 (a2 a3 a4 : Int32) : (ph_79 a2 a3 a4)[94]? = some (.inl (0, .inl (List.replicate 12 (-1) ++ [0] ++ List.replicate 35 (-1)))) := (px_get_ne (Nat.ne_of_beq_eq_false rfl) (px_get_ne (Nat.ne_of_beq_eq_false rfl) (px_get_ne (Nat.ne_of_beq_eq_false rfl) (px_get_ne (Nat.ne_of_beq_eq_false rfl) (px_get_ne (Nat.ne_of_beq_eq_false rfl) (px_get_ne (Nat.ne_of_beq_eq_false rfl) (px_get_ne (Nat.ne_of_beq_eq_false rfl) (px_get_ne (Nat.ne_of_beq_eq_false rfl) (px_get_eq pl_0 (Nat.le_of_ble_eq_true rfl))))))))))
set_option maxRecDepth 100000 in
theorem pg_193 (a2 a3 a4 : Int32) : (ph_79 a2 a3 a4)[95]? = some (.inl (1, .inl (List.replicate 48 0))) := (px_get_ne (Nat.ne_of_beq_eq_false rfl) (px_get_ne (Nat.ne_of_beq_eq_false rfl) (px_get_ne (Nat.ne_of_beq_eq_false rfl) (px_get_ne (Nat.ne_of_beq_eq_false rfl) (px_get_ne (Nat.ne_of_beq_eq_false rfl) (px_get_eq pl_66 (Nat.le_of_ble_eq_true rfl)))))))
set_option maxRecDepth 100000 in
theorem pg_194 (a2 a3 a4 : Int32) : (ph_80 a2 a3 a4)[92]? = some (.inr (5, [.ref 1, .ref 93, .ref 99, .ref 110, .int 0, .ref 111, .ref 112, .ref 113])) := (px_get_ne (Nat.ne_of_beq_eq_false rfl) (pg_190 a2 a3 a4))
set_option maxRecDepth 100000 in
theorem pg_195 (a2 a3 a4 : Int32) : (ph_80 a2 a3 a4)[93]? = some (.inr (2, [.int 1, .int 1, .ref 94, .ref 95, .ref 96, .ref 97, .ref 98])) := (px_get_ne (Nat.ne_of_beq_eq_false rfl) (pg_191 a2 a3 a4))
set_option maxRecDepth 100000 in
theorem pg_196 (a2 a3 a4 : Int32) : (ph_80 a2 a3 a4)[1]? = some (.inl (3, .inr (.inr ([some 2, some 17, some 32, some 47, some 62, some 77])))) := (px_get_ne (Nat.ne_of_beq_eq_false rfl) (px_get_ne (Nat.ne_of_beq_eq_false rfl) (px_get_ne (Nat.ne_of_beq_eq_false rfl) (px_get_ne (Nat.ne_of_beq_eq_false rfl) (px_get_ne (Nat.ne_of_beq_eq_false rfl) (px_get_ne (Nat.ne_of_beq_eq_false rfl) (px_get_ne (Nat.ne_of_beq_eq_false rfl) (px_get_ne (Nat.ne_of_beq_eq_false rfl) (px_get_ne (Nat.ne_of_beq_eq_false rfl) (px_get_ne (Nat.ne_of_beq_eq_false rfl) pg_5))))))))))
set_option maxRecDepth 100000 in
theorem pg_197 (a2 a3 a4 : Int32) : (ph_80 a2 a3 a4)[2]? = some (.inr (4, [.int 0, .int 0, .ref 3, .ref 11])) := (px_get_ne (Nat.ne_of_beq_eq_false rfl) (px_get_ne (Nat.ne_of_beq_eq_false rfl) (px_get_ne (Nat.ne_of_beq_eq_false rfl) (px_get_ne (Nat.ne_of_beq_eq_false rfl) (px_get_ne (Nat.ne_of_beq_eq_false rfl) (px_get_ne (Nat.ne_of_beq_eq_false rfl) (px_get_ne (Nat.ne_of_beq_eq_false rfl) (px_get_ne (Nat.ne_of_beq_eq_false rfl) (px_get_ne (Nat.ne_of_beq_eq_false rfl) (px_get_ne (Nat.ne_of_beq_eq_false rfl) pg_6))))))))))
set_option maxRecDepth 100000 in
theorem pg_198 (a2 a3 a4 : Int32) : (ph_80 a2 a3 a4)[17]? = some (.inr (4, [.int 0, .int 0, .ref 18, .ref 26])) := (px_get_ne (Nat.ne_of_beq_eq_false rfl) (px_get_ne (Nat.ne_of_beq_eq_false rfl) (px_get_ne (Nat.ne_of_beq_eq_false rfl) (px_get_ne (Nat.ne_of_beq_eq_false rfl) (px_get_ne (Nat.ne_of_beq_eq_false rfl) (px_get_ne (Nat.ne_of_beq_eq_false rfl) (px_get_ne (Nat.ne_of_beq_eq_false rfl) (px_get_ne (Nat.ne_of_beq_eq_false rfl) (px_get_ne (Nat.ne_of_beq_eq_false rfl) (px_get_ne (Nat.ne_of_beq_eq_false rfl) pg_55))))))))))
set_option maxRecDepth 100000 in
theorem pg_199 (a2 a3 a4 : Int32) : (ph_80 a2 a3 a4)[32]? = some (.inr (4, [.int 0, .int 0, .ref 33, .ref 41])) := (px_get_ne (Nat.ne_of_beq_eq_false rfl) (px_get_ne (Nat.ne_of_beq_eq_false rfl) (px_get_ne (Nat.ne_of_beq_eq_false rfl) (px_get_ne (Nat.ne_of_beq_eq_false rfl) (px_get_ne (Nat.ne_of_beq_eq_false rfl) (px_get_ne (Nat.ne_of_beq_eq_false rfl) (px_get_ne (Nat.ne_of_beq_eq_false rfl) (px_get_ne (Nat.ne_of_beq_eq_false rfl) (px_get_ne (Nat.ne_of_beq_eq_false rfl) (px_get_ne (Nat.ne_of_beq_eq_false rfl) pg_57))))))))))
set_option maxRecDepth 100000 in
theorem pg_200 (a2 a3 a4 : Int32) : (ph_80 a2 a3 a4)[47]? = some (.inr (4, [.int 0, .int 0, .ref 48, .ref 56])) := (px_get_ne (Nat.ne_of_beq_eq_false rfl) (px_get_ne (Nat.ne_of_beq_eq_false rfl) (px_get_ne (Nat.ne_of_beq_eq_false rfl) (px_get_ne (Nat.ne_of_beq_eq_false rfl) (px_get_ne (Nat.ne_of_beq_eq_false rfl) (px_get_ne (Nat.ne_of_beq_eq_false rfl) (px_get_ne (Nat.ne_of_beq_eq_false rfl) (px_get_ne (Nat.ne_of_beq_eq_false rfl) (px_get_ne (Nat.ne_of_beq_eq_false rfl) (px_get_ne (Nat.ne_of_beq_eq_false rfl) pg_59))))))))))
set_option maxRecDepth 100000 in
theorem pg_201 (a2 a3 a4 : Int32) : (ph_80 a2 a3 a4)[62]? = some (.inr (4, [.int 0, .int 0, .ref 63, .ref 71])) := (px_get_ne (Nat.ne_of_beq_eq_false rfl) (px_get_ne (Nat.ne_of_beq_eq_false rfl) (px_get_ne (Nat.ne_of_beq_eq_false rfl) (px_get_ne (Nat.ne_of_beq_eq_false rfl) (px_get_ne (Nat.ne_of_beq_eq_false rfl) (px_get_ne (Nat.ne_of_beq_eq_false rfl) (px_get_ne (Nat.ne_of_beq_eq_false rfl) (px_get_ne (Nat.ne_of_beq_eq_false rfl) (px_get_ne (Nat.ne_of_beq_eq_false rfl) (px_get_ne (Nat.ne_of_beq_eq_false rfl) pg_61))))))))))
set_option maxRecDepth 100000 in
theorem pg_202 (a2 a3 a4 : Int32) : (ph_80 a2 a3 a4)[77]? = some (.inr (4, [.int 0, .int 0, .ref 78, .ref 86])) := (px_get_ne (Nat.ne_of_beq_eq_false rfl) (px_get_ne (Nat.ne_of_beq_eq_false rfl) (px_get_ne (Nat.ne_of_beq_eq_false rfl) (px_get_ne (Nat.ne_of_beq_eq_false rfl) (px_get_ne (Nat.ne_of_beq_eq_false rfl) (px_get_ne (Nat.ne_of_beq_eq_false rfl) (px_get_ne (Nat.ne_of_beq_eq_false rfl) (px_get_ne (Nat.ne_of_beq_eq_false rfl) (px_get_ne (Nat.ne_of_beq_eq_false rfl) (px_get_ne (Nat.ne_of_beq_eq_false rfl) pg_63))))))))))
set_option maxRecDepth 100000 in
theorem pg_203 (a2 a3 a4 : Int32) : (ph_80 a2 a3 a4)[94]? = some (.inl (0, .inl (List.replicate 12 (-1) ++ [0] ++ List.replicate 35 (-1)))) := (px_get_ne (Nat.ne_of_beq_eq_false rfl) (pg_192 a2 a3 a4))
set_option maxRecDepth 100000 in
theorem pl_69 (a2 a3 : Int32) : (ph_76 a2 a3).length = 165 := px_len_set (pl_68 a2)
set_option maxRecDepth 100000 in
theorem pl_70 (a2 a3 a4 : Int32) : (ph_77 a2 a3 a4).length = 165 := px_len_set (pl_69 a2 a3)
set_option maxRecDepth 100000 in
theorem pl_71 (a2 a3 a4 : Int32) : (ph_78 a2 a3 a4).length = 165 := px_len_set (pl_70 a2 a3 a4)
set_option maxRecDepth 100000 in
theorem pl_72 (a2 a3 a4 : Int32) : (ph_79 a2 a3 a4).length = 165 := px_len_set (pl_71 a2 a3 a4)
set_option maxRecDepth 100000 in
theorem pg_204 (a2 a3 a4 : Int32) : (ph_80 a2 a3 a4)[95]? = some (.inl (1, .inl (List.replicate 12 0 ++ [1] ++ List.replicate 35 0))) := (px_get_eq (pl_72 a2 a3 a4) (Nat.le_of_ble_eq_true rfl))
set_option maxRecDepth 100000 in
theorem pg_205 (a2 a3 a4 : Int32) : (ph_80 a2 a3 a4)[164]? = some (.inl (2, .inr (.inl ([0])))) := (px_get_ne (Nat.ne_of_beq_eq_false rfl) (px_get_ne (Nat.ne_of_beq_eq_false rfl) (px_get_ne (Nat.ne_of_beq_eq_false rfl) (px_get_ne (Nat.ne_of_beq_eq_false rfl) (px_get_ne (Nat.ne_of_beq_eq_false rfl) (px_get_ne (Nat.ne_of_beq_eq_false rfl) (px_get_ne (Nat.ne_of_beq_eq_false rfl) (px_get_ne (Nat.ne_of_beq_eq_false rfl) (px_get_ne (Nat.ne_of_beq_eq_false rfl) (px_get_ne (Nat.ne_of_beq_eq_false rfl) pg_9))))))))))
set_option maxRecDepth 100000 in
theorem pg_206 (a2 a3 a4 : Int32) : (ph_81 a2 a3 a4)[136]? = some (.inr (10, [.ref 137, .int 0, .int 0, .ref 138, .ref 151, .long 0])) := (px_get_ne (Nat.ne_of_beq_eq_false rfl) (px_get_ne (Nat.ne_of_beq_eq_false rfl) (px_get_ne (Nat.ne_of_beq_eq_false rfl) (px_get_ne (Nat.ne_of_beq_eq_false rfl) (px_get_ne (Nat.ne_of_beq_eq_false rfl) (px_get_ne (Nat.ne_of_beq_eq_false rfl) (px_get_ne (Nat.ne_of_beq_eq_false rfl) (px_get_ne (Nat.ne_of_beq_eq_false rfl) (px_get_ne (Nat.ne_of_beq_eq_false rfl) (px_get_ne (Nat.ne_of_beq_eq_false rfl) (px_get_ne (Nat.ne_of_beq_eq_false rfl) pg_1)))))))))))
set_option maxRecDepth 100000 in
theorem pl_73 (a2 a3 a4 : Int32) : (ph_80 a2 a3 a4).length = 165 := px_len_set (pl_72 a2 a3 a4)
set_option maxRecDepth 100000 in
theorem pl_74 (a2 a3 a4 : Int32) : (ph_81 a2 a3 a4).length = 165 := px_len_set (pl_73 a2 a3 a4)
set_option maxRecDepth 100000 in
theorem pg_207 (a2 a3 a4 : Int32) : (ph_82 a2 a3 a4)[136]? = some (.inr (10, [.ref 137, .int 0, .int 0, .ref 138, .ref 151, .long 0])) := (px_get_eq (pl_74 a2 a3 a4) (Nat.le_of_ble_eq_true rfl))
set_option maxRecDepth 100000 in
theorem pg_208 (a2 a3 a4 : Int32) : (ph_82 a2 a3 a4)[138]? = some (.inr (9, [.int 0, .int 0, .int 0, .ref 139, .ref 140, .ref 141, .ref 143, .ref 145, .ref 147, .ref 149, .ref 150, .int 0, .ref 136])) := (px_get_ne (Nat.ne_of_beq_eq_false rfl) (px_get_ne (Nat.ne_of_beq_eq_false rfl) (px_get_ne (Nat.ne_of_beq_eq_false rfl) (px_get_ne (Nat.ne_of_beq_eq_false rfl) (px_get_ne (Nat.ne_of_beq_eq_false rfl) (px_get_ne (Nat.ne_of_beq_eq_false rfl) (px_get_ne (Nat.ne_of_beq_eq_false rfl) (px_get_ne (Nat.ne_of_beq_eq_false rfl) (px_get_ne (Nat.ne_of_beq_eq_false rfl) (px_get_ne (Nat.ne_of_beq_eq_false rfl) (px_get_ne (Nat.ne_of_beq_eq_false rfl) (px_get_ne (Nat.ne_of_beq_eq_false rfl) pg_70))))))))))))
set_option maxRecDepth 100000 in
theorem pg_209 (a2 a3 a4 : Int32) : (ph_82 a2 a3 a4)[141]? = some (.inr (7, [.int 6, .int 0, .ref 142])) := (px_get_ne (Nat.ne_of_beq_eq_false rfl) (px_get_ne (Nat.ne_of_beq_eq_false rfl) (px_get_ne (Nat.ne_of_beq_eq_false rfl) (px_get_ne (Nat.ne_of_beq_eq_false rfl) (px_get_ne (Nat.ne_of_beq_eq_false rfl) (px_get_ne (Nat.ne_of_beq_eq_false rfl) (px_get_ne (Nat.ne_of_beq_eq_false rfl) (px_get_ne (Nat.ne_of_beq_eq_false rfl) (px_get_ne (Nat.ne_of_beq_eq_false rfl) (px_get_ne (Nat.ne_of_beq_eq_false rfl) (px_get_ne (Nat.ne_of_beq_eq_false rfl) (px_get_ne (Nat.ne_of_beq_eq_false rfl) pg_72))))))))))))
set_option maxRecDepth 100000 in
theorem pl_75 (a2 a3 a4 : Int32) : (ph_82 a2 a3 a4).length = 165 := px_len_set (pl_74 a2 a3 a4)
set_option maxRecDepth 100000 in
theorem pg_210 (a2 a3 a4 : Int32) : (ph_83 a2 a3 a4)[138]? = some (.inr (9, [.int 0, .int 0, .int 0, .ref 139, .ref 140, .ref 141, .ref 143, .ref 145, .ref 147, .ref 149, .ref 150, .int 0, .ref 136])) := (px_get_lt (pl_75 a2 a3 a4) (Nat.le_of_ble_eq_true rfl) (pg_208 a2 a3 a4))
set_option maxRecDepth 100000 in
theorem pg_211 (a2 a3 a4 : Int32) : (ph_83 a2 a3 a4)[165]? = some (.inl (0, .inl (List.replicate 6 0))) := (px_get_ge (k := 0) (pl_75 a2 a3 a4) rfl rfl)
set_option maxRecDepth 100000 in
theorem pl_76 (a2 a3 a4 : Int32) : (ph_83 a2 a3 a4).length = 166 := px_len_app (pl_75 a2 a3 a4) rfl
set_option maxRecDepth 100000 in
theorem pg_212 (a2 a3 a4 : Int32) : (ph_84 a2 a3 a4)[165]? = some (.inl (0, .inl (List.replicate 6 0))) := (px_get_eq (pl_76 a2 a3 a4) (Nat.le_of_ble_eq_true rfl))
set_option maxRecDepth 100000 in
theorem pl_77 (a2 a3 a4 : Int32) : (ph_84 a2 a3 a4).length = 166 := px_len_set (pl_76 a2 a3 a4)
set_option maxRecDepth 100000 in
theorem pg_213 (a2 a3 a4 : Int32) : (ph_85 a2 a3 a4)[165]? = some (.inl (0, .inl ([0, 2, 0, 0, 0, 0]))) := (px_get_eq (pl_77 a2 a3 a4) (Nat.le_of_ble_eq_true rfl))
set_option maxRecDepth 100000 in
theorem pl_78 (a2 a3 a4 : Int32) : (ph_85 a2 a3 a4).length = 166 := px_len_set (pl_77 a2 a3 a4)
set_option maxRecDepth 100000 in
theorem pg_214 (a2 a3 a4 : Int32) : (ph_86 a2 a3 a4)[165]? = some (.inl (0, .inl ([0, 2, a2, 0, 0, 0]))) := (px_get_eq (pl_78 a2 a3 a4) (Nat.le_of_ble_eq_true rfl))
set_option maxRecDepth 100000 in
theorem pl_79 (a2 a3 a4 : Int32) : (ph_86 a2 a3 a4).length = 166 := px_len_set (pl_78 a2 a3 a4)
set_option maxRecDepth 100000 in
theorem pg_215 (a2 a3 a4 : Int32) : (ph_87 a2 a3 a4)[165]? = some (.inl (0, .inl ([0, 2, a2, a3, 0, 0]))) := (px_get_eq (pl_79 a2 a3 a4) (Nat.le_of_ble_eq_true rfl))
set_option maxRecDepth 100000 in
theorem pl_80 (a2 a3 a4 : Int32) : (ph_87 a2 a3 a4).length = 166 := px_len_set (pl_79 a2 a3 a4)
set_option maxRecDepth 100000 in
theorem pg_216 (a2 a3 a4 : Int32) : (ph_88 a2 a3 a4)[165]? = some (.inl (0, .inl ([0, 2, a2, a3, a4, 0]))) := (px_get_eq (pl_80 a2 a3 a4) (Nat.le_of_ble_eq_true rfl))
set_option maxRecDepth 100000 in
theorem pg_217 (a2 a3 a4 : Int32) : (ph_89 a2 a3 a4)[141]? = some (.inr (7, [.int 6, .int 0, .ref 142])) := (px_get_ne (Nat.ne_of_beq_eq_false rfl) (px_get_ne (Nat.ne_of_beq_eq_false rfl) (px_get_ne (Nat.ne_of_beq_eq_false rfl) (px_get_ne (Nat.ne_of_beq_eq_false rfl) (px_get_ne (Nat.ne_of_beq_eq_false rfl) (px_get_ne (Nat.ne_of_beq_eq_false rfl) (px_get_lt (pl_75 a2 a3 a4) (Nat.le_of_ble_eq_true rfl) (pg_209 a2 a3 a4))))))))
set_option maxRecDepth 100000 in
theorem pg_218 (a2 a3 a4 : Int32) : (ph_89 a2 a3 a4)[142]? = some (.inl (0, .inl (List.replicate 96 0))) := (px_get_ne (Nat.ne_of_beq_eq_false rfl) (px_get_ne (Nat.ne_of_beq_eq_false rfl) (px_get_ne (Nat.ne_of_beq_eq_false rfl) (px_get_ne (Nat.ne_of_beq_eq_false rfl) (px_get_ne (Nat.ne_of_beq_eq_false rfl) (px_get_ne (Nat.ne_of_beq_eq_false rfl) (px_get_lt (pl_75 a2 a3 a4) (Nat.le_of_ble_eq_true rfl) (px_get_ne (Nat.ne_of_beq_eq_false rfl) (px_get_ne (Nat.ne_of_beq_eq_false rfl) (px_get_ne (Nat.ne_of_beq_eq_false rfl) (px_get_ne (Nat.ne_of_beq_eq_false rfl) (px_get_ne (Nat.ne_of_beq_eq_false rfl) (px_get_ne (Nat.ne_of_beq_eq_false rfl) (px_get_ne (Nat.ne_of_beq_eq_false rfl) (px_get_ne (Nat.ne_of_beq_eq_false rfl) (px_get_ne (Nat.ne_of_beq_eq_false rfl) (px_get_ne (Nat.ne_of_beq_eq_false rfl) (px_get_ne (Nat.ne_of_beq_eq_false rfl) (px_get_ne (Nat.ne_of_beq_eq_false rfl) pg_82)))))))))))))))))))
set_option maxRecDepth 100000 in
theorem pl_81 (a2 a3 a4 : Int32) : (ph_88 a2 a3 a4).length = 166 := px_len_set (pl_80 a2 a3 a4)
set_option maxRecDepth 100000 in
theorem pg_219 (a2 a3 a4 : Int32) : (ph_89 a2 a3 a4)[165]? = some (.inl (0, .inl ([0, 2, a2, a3, a4, 1]))) := (px_get_eq (pl_81 a2 a3 a4) (Nat.le_of_ble_eq_true rfl))
set_option maxRecDepth 100000 in
theorem pg_220 (a2 a3 a4 : Int32) : (ph_90 a2 a3 a4)[141]? = some (.inr (7, [.int 6, .int 0, .ref 142])) := (px_get_ne (Nat.ne_of_beq_eq_false rfl) (pg_217 a2 a3 a4))
set_option maxRecDepth 100000 in
theorem pg_221 (a2 a3 a4 : Int32) : (ph_91 a2 a3 a4)[138]? = some (.inr (9, [.int 0, .int 0, .int 0, .ref 139, .ref 140, .ref 141, .ref 143, .ref 145, .ref 147, .ref 149, .ref 150, .int 0, .ref 136])) := (px_get_ne (Nat.ne_of_beq_eq_false rfl) (px_get_ne (Nat.ne_of_beq_eq_false rfl) (px_get_ne (Nat.ne_of_beq_eq_false rfl) (px_get_ne (Nat.ne_of_beq_eq_false rfl) (px_get_ne (Nat.ne_of_beq_eq_false rfl) (px_get_ne (Nat.ne_of_beq_eq_false rfl) (px_get_ne (Nat.ne_of_beq_eq_false rfl) (px_get_ne (Nat.ne_of_beq_eq_false rfl) (pg_210 a2 a3 a4)))))))))
set_option maxRecDepth 100000 in
theorem pl_82 (a2 a3 a4 : Int32) : (ph_89 a2 a3 a4).length = 166 := px_len_set (pl_81 a2 a3 a4)
set_option maxRecDepth 100000 in
theorem pl_83 (a2 a3 a4 : Int32) : (ph_90 a2 a3 a4).length = 166 := px_len_set (pl_82 a2 a3 a4)
set_option maxRecDepth 100000 in
theorem pl_84 (a2 a3 a4 : Int32) : (ph_91 a2 a3 a4).length = 166 := px_len_set (pl_83 a2 a3 a4)
set_option maxRecDepth 100000 in
theorem pg_222 (a2 a3 a4 : Int32) : (ph_92 a2 a3 a4)[138]? = some (.inr (9, [.int 1, .int 0, .int 0, .ref 139, .ref 140, .ref 141, .ref 143, .ref 145, .ref 147, .ref 149, .ref 150, .int 0, .ref 136])) := (px_get_eq (pl_84 a2 a3 a4) (Nat.le_of_ble_eq_true rfl))
set_option maxRecDepth 100000 in
theorem pg_223 (a2 a3 a4 : Int32) : (ph_92 a2 a3 a4)[136]? = some (.inr (10, [.ref 137, .int 0, .int 0, .ref 138, .ref 151, .long 0])) := (px_get_ne (Nat.ne_of_beq_eq_false rfl) (px_get_ne (Nat.ne_of_beq_eq_false rfl) (px_get_ne (Nat.ne_of_beq_eq_false rfl) (px_get_ne (Nat.ne_of_beq_eq_false rfl) (px_get_ne (Nat.ne_of_beq_eq_false rfl) (px_get_ne (Nat.ne_of_beq_eq_false rfl) (px_get_ne (Nat.ne_of_beq_eq_false rfl) (px_get_ne (Nat.ne_of_beq_eq_false rfl) (px_get_ne (Nat.ne_of_beq_eq_false rfl) (px_get_lt (pl_75 a2 a3 a4) (Nat.le_of_ble_eq_true rfl) (pg_207 a2 a3 a4)))))))))))
set_option maxRecDepth 100000 in
theorem pg_224 (a2 a3 a4 : Int32) : (ph_92 a2 a3 a4)[147]? = some (.inr (7, [.int 6, .int 0, .ref 148])) := (px_get_ne (Nat.ne_of_beq_eq_false rfl) (px_get_ne (Nat.ne_of_beq_eq_false rfl) (px_get_ne (Nat.ne_of_beq_eq_false rfl) (px_get_ne (Nat.ne_of_beq_eq_false rfl) (px_get_ne (Nat.ne_of_beq_eq_false rfl) (px_get_ne (Nat.ne_of_beq_eq_false rfl) (px_get_ne (Nat.ne_of_beq_eq_false rfl) (px_get_ne (Nat.ne_of_beq_eq_false rfl) (px_get_ne (Nat.ne_of_beq_eq_false rfl) (px_get_lt (pl_75 a2 a3 a4) (Nat.le_of_ble_eq_true rfl) (px_get_ne (Nat.ne_of_beq_eq_false rfl) (px_get_ne (Nat.ne_of_beq_eq_false rfl) (px_get_ne (Nat.ne_of_beq_eq_false rfl) (px_get_ne (Nat.ne_of_beq_eq_false rfl) (px_get_ne (Nat.ne_of_beq_eq_false rfl) (px_get_ne (Nat.ne_of_beq_eq_false rfl) (px_get_ne (Nat.ne_of_beq_eq_false rfl) (px_get_ne (Nat.ne_of_beq_eq_false rfl) (px_get_ne (Nat.ne_of_beq_eq_false rfl) (px_get_ne (Nat.ne_of_beq_eq_false rfl) (px_get_ne (Nat.ne_of_beq_eq_false rfl) (px_get_ne (Nat.ne_of_beq_eq_false rfl) pg_89))))))))))))))))))))))
set_option maxRecDepth 100000 in
theorem pg_225 (a2 a3 a4 : Int32) : (ph_93 a2 a3 a4)[138]? = some (.inr (9, [.int 1, .int 0, .int 0, .ref 139, .ref 140, .ref 141, .ref 143, .ref 145, .ref 147, .ref 149, .ref 150, .int 0, .ref 136])) := (px_get_ne (Nat.ne_of_beq_eq_false rfl) (pg_222 a2 a3 a4))
set_option maxRecDepth 100000 in
theorem pl_85 (a2 a3 a4 : Int32) : (ph_92 a2 a3 a4).length = 166 := px_len_set (pl_84 a2 a3 a4)
set_option maxRecDepth 100000 in
theorem pl_86 (a2 a3 a4 : Int32) : (ph_93 a2 a3 a4).length = 166 := px_len_set (pl_85 a2 a3 a4)
set_option maxRecDepth 100000 in
theorem pg_226 (a2 a3 a4 : Int32) : (ph_94 a2 a3 a4)[138]? = some (.inr (9, [.int 1, .int 0, .int 0, .ref 139, .ref 140, .ref 141, .ref 143, .ref 145, .ref 147, .ref 149, .ref 150, .int 0, .ref 136])) := (px_get_eq (pl_86 a2 a3 a4) (Nat.le_of_ble_eq_true rfl))
set_option maxRecDepth 100000 in
theorem pg_227 (a2 a3 a4 : Int32) : (ph_94 a2 a3 a4)[136]? = some (.inr (10, [.ref 137, .int 0, .int 0, .ref 138, .ref 151, .long 0])) := (px_get_ne (Nat.ne_of_beq_eq_false rfl) (px_get_ne (Nat.ne_of_beq_eq_false rfl) (pg_223 a2 a3 a4)))
set_option maxRecDepth 100000 in
theorem pg_228 (a2 a3 a4 : Int32) : (ph_94 a2 a3 a4)[147]? = some (.inr (7, [.int 6, .int 0, .ref 148])) := (px_get_ne (Nat.ne_of_beq_eq_false rfl) (px_get_eq (pl_85 a2 a3 a4) (Nat.le_of_ble_eq_true rfl)))
set_option maxRecDepth 100000 in
theorem pg_229 (a2 a3 a4 : Int32) : (ph_94 a2 a3 a4)[143]? = some (.inr (7, [.int 6, .int 0, .ref 144])) := (px_get_ne (Nat.ne_of_beq_eq_false rfl) (px_get_ne (Nat.ne_of_beq_eq_false rfl) (px_get_ne (Nat.ne_of_beq_eq_false rfl) (px_get_ne (Nat.ne_of_beq_eq_false rfl) (px_get_ne (Nat.ne_of_beq_eq_false rfl) (px_get_ne (Nat.ne_of_beq_eq_false rfl) (px_get_ne (Nat.ne_of_beq_eq_false rfl) (px_get_ne (Nat.ne_of_beq_eq_false rfl) (px_get_ne (Nat.ne_of_beq_eq_false rfl) (px_get_ne (Nat.ne_of_beq_eq_false rfl) (px_get_ne (Nat.ne_of_beq_eq_false rfl) (px_get_lt (pl_75 a2 a3 a4) (Nat.le_of_ble_eq_true rfl) (px_get_ne (Nat.ne_of_beq_eq_false rfl) (px_get_ne (Nat.ne_of_beq_eq_false rfl) (px_get_ne (Nat.ne_of_beq_eq_false rfl) (px_get_ne (Nat.ne_of_beq_eq_false rfl) (px_get_ne (Nat.ne_of_beq_eq_false rfl) (px_get_ne (Nat.ne_of_beq_eq_false rfl) (px_get_ne (Nat.ne_of_beq_eq_false rfl) (px_get_ne (Nat.ne_of_beq_eq_false rfl) (px_get_ne (Nat.ne_of_beq_eq_false rfl) (px_get_ne (Nat.ne_of_beq_eq_false rfl) (px_get_ne (Nat.ne_of_beq_eq_false rfl) (px_get_ne (Nat.ne_of_beq_eq_false rfl) pg_95))))))))))))))))))))))))
set_option maxRecDepth 100000 in
theorem pl_87 (a2 a3 a4 : Int32) : (ph_94 a2 a3 a4).length = 166 := px_len_set (pl_86 a2 a3 a4)
set_option maxRecDepth 100000 in
theorem pg_230 (a2 a3 a4 : Int32) : (ph_95 a2 a3 a4)[143]? = some (.inr (7, [.int 6, .int 0, .ref 144])) := (px_get_eq (pl_87 a2 a3 a4) (Nat.le_of_ble_eq_true rfl))
set_option maxRecDepth 100000 in
theorem pg_231 (a2 a3 a4 : Int32) : (ph_95 a2 a3 a4)[144]? = some (.inl (0, .inl (List.replicate 96 0))) := (px_get_ne (Nat.ne_of_beq_eq_false rfl) (px_get_ne (Nat.ne_of_beq_eq_false rfl) (px_get_ne (Nat.ne_of_beq_eq_false rfl) (px_get_ne (Nat.ne_of_beq_eq_false rfl) (px_get_ne (Nat.ne_of_beq_eq_false rfl) (px_get_ne (Nat.ne_of_beq_eq_false rfl) (px_get_ne (Nat.ne_of_beq_eq_false rfl) (px_get_ne (Nat.ne_of_beq_eq_false rfl) (px_get_ne (Nat.ne_of_beq_eq_false rfl) (px_get_ne (Nat.ne_of_beq_eq_false rfl) (px_get_ne (Nat.ne_of_beq_eq_false rfl) (px_get_ne (Nat.ne_of_beq_eq_false rfl) (px_get_lt (pl_75 a2 a3 a4) (Nat.le_of_ble_eq_true rfl) (px_get_ne (Nat.ne_of_beq_eq_false rfl) (px_get_ne (Nat.ne_of_beq_eq_false rfl) (px_get_ne (Nat.ne_of_beq_eq_false rfl) (px_get_ne (Nat.ne_of_beq_eq_false rfl) (px_get_ne (Nat.ne_of_beq_eq_false rfl) (px_get_ne (Nat.ne_of_beq_eq_false rfl) (px_get_ne (Nat.ne_of_beq_eq_false rfl) (px_get_ne (Nat.ne_of_beq_eq_false rfl) (px_get_ne (Nat.ne_of_beq_eq_false rfl) (px_get_ne (Nat.ne_of_beq_eq_false rfl) (px_get_ne (Nat.ne_of_beq_eq_false rfl) (px_get_ne (Nat.ne_of_beq_eq_false rfl) pg_98)))))))))))))))))))))))))
set_option maxRecDepth 100000 in
theorem pg_232 (a2 a3 a4 : Int32) : (ph_95 a2 a3 a4)[147]? = some (.inr (7, [.int 6, .int 0, .ref 148])) := (px_get_ne (Nat.ne_of_beq_eq_false rfl) (pg_228 a2 a3 a4))
set_option maxRecDepth 100000 in
theorem pg_233 (a2 a3 a4 : Int32) : (ph_95 a2 a3 a4)[148]? = some (.inl (0, .inl (List.replicate 96 0))) := (px_get_ne (Nat.ne_of_beq_eq_false rfl) (px_get_ne (Nat.ne_of_beq_eq_false rfl) (px_get_ne (Nat.ne_of_beq_eq_false rfl) (px_get_ne (Nat.ne_of_beq_eq_false rfl) (px_get_ne (Nat.ne_of_beq_eq_false rfl) (px_get_ne (Nat.ne_of_beq_eq_false rfl) (px_get_ne (Nat.ne_of_beq_eq_false rfl) (px_get_ne (Nat.ne_of_beq_eq_false rfl) (px_get_ne (Nat.ne_of_beq_eq_false rfl) (px_get_ne (Nat.ne_of_beq_eq_false rfl) (px_get_ne (Nat.ne_of_beq_eq_false rfl) (px_get_ne (Nat.ne_of_beq_eq_false rfl) (px_get_lt (pl_75 a2 a3 a4) (Nat.le_of_ble_eq_true rfl) (px_get_ne (Nat.ne_of_beq_eq_false rfl) (px_get_ne (Nat.ne_of_beq_eq_false rfl) (px_get_ne (Nat.ne_of_beq_eq_false rfl) (px_get_ne (Nat.ne_of_beq_eq_false rfl) (px_get_ne (Nat.ne_of_beq_eq_false rfl) (px_get_ne (Nat.ne_of_beq_eq_false rfl) (px_get_ne (Nat.ne_of_beq_eq_false rfl) (px_get_ne (Nat.ne_of_beq_eq_false rfl) (px_get_ne (Nat.ne_of_beq_eq_false rfl) (px_get_ne (Nat.ne_of_beq_eq_false rfl) (px_get_ne (Nat.ne_of_beq_eq_false rfl) (px_get_ne (Nat.ne_of_beq_eq_false rfl) pg_101)))))))))))))))))))))))))
set_option maxRecDepth 100000 in
theorem pg_234 (a2 a3 a4 : Int32) : (ph_96 a2 a3 a4)[138]? = some (.inr (9, [.int 1, .int 0, .int 0, .ref 139, .ref 140, .ref 141, .ref 143, .ref 145, .ref 147, .ref 149, .ref 150, .int 0, .ref 136])) := (px_get_ne (Nat.ne_of_beq_eq_false rfl) (px_get_ne (Nat.ne_of_beq_eq_false rfl) (pg_226 a2 a3 a4)))
set_option maxRecDepth 100000 in
theorem pg_235 (a2 a3 a4 : Int32) : (ph_96 a2 a3 a4)[145]? = some (.inr (7, [.int 2, .int 0, .ref 146])) := (px_get_ne (Nat.ne_of_beq_eq_false rfl) (px_get_ne (Nat.ne_of_beq_eq_false rfl) (px_get_ne (Nat.ne_of_beq_eq_false rfl) (px_get_ne (Nat.ne_of_beq_eq_false rfl) (px_get_ne (Nat.ne_of_beq_eq_false rfl) (px_get_ne (Nat.ne_of_beq_eq_false rfl) (px_get_ne (Nat.ne_of_beq_eq_false rfl) (px_get_ne (Nat.ne_of_beq_eq_false rfl) (px_get_ne (Nat.ne_of_beq_eq_false rfl) (px_get_ne (Nat.ne_of_beq_eq_false rfl) (px_get_ne (Nat.ne_of_beq_eq_false rfl) (px_get_ne (Nat.ne_of_beq_eq_false rfl) (px_get_ne (Nat.ne_of_beq_eq_false rfl) (px_get_lt (pl_75 a2 a3 a4) (Nat.le_of_ble_eq_true rfl) (px_get_ne (Nat.ne_of_beq_eq_false rfl) (px_get_ne (Nat.ne_of_beq_eq_false rfl) (px_get_ne (Nat.ne_of_beq_eq_false rfl) (px_get_ne (Nat.ne_of_beq_eq_false rfl) (px_get_ne (Nat.ne_of_beq_eq_false rfl) (px_get_ne (Nat.ne_of_beq_eq_false rfl) (px_get_ne (Nat.ne_of_beq_eq_false rfl) (px_get_ne (Nat.ne_of_beq_eq_false rfl) (px_get_ne (Nat.ne_of_beq_eq_false rfl) (px_get_ne (Nat.ne_of_beq_eq_false rfl) (px_get_ne (Nat.ne_of_beq_eq_false rfl) (px_get_ne (Nat.ne_of_beq_eq_false rfl) pg_104))))))))))))))))))))))))))
set_option maxRecDepth 100000 in
theorem pg_236 (a2 a3 a4 : Int32) : (ph_96 a2 a3 a4)[141]? = some (.inr (7, [.int 6, .int 1, .ref 142])) := (px_get_ne (Nat.ne_of_beq_eq_false rfl) (px_get_ne (Nat.ne_of_beq_eq_false rfl) (px_get_ne (Nat.ne_of_beq_eq_false rfl) (px_get_ne (Nat.ne_of_beq_eq_false rfl) (px_get_ne (Nat.ne_of_beq_eq_false rfl) (px_get_eq (pl_83 a2 a3 a4) (Nat.le_of_ble_eq_true rfl)))))))
set_option maxRecDepth 100000 in
theorem pg_237 (a2 a3 a4 : Int32) : (ph_96 a2 a3 a4)[142]? = some (.inl (0, .inl ([0] ++ [2] ++ [a2] ++ [a3] ++ [a4] ++ [1] ++ List.replicate 90 0))) := (px_get_ne (Nat.ne_of_beq_eq_false rfl) (px_get_ne (Nat.ne_of_beq_eq_false rfl) (px_get_ne (Nat.ne_of_beq_eq_false rfl) (px_get_ne (Nat.ne_of_beq_eq_false rfl) (px_get_ne (Nat.ne_of_beq_eq_false rfl) (px_get_ne (Nat.ne_of_beq_eq_false rfl) (px_get_eq (pl_82 a2 a3 a4) (Nat.le_of_ble_eq_true rfl))))))))
set_option maxRecDepth 100000 in
theorem pg_238 (a2 a3 a4 : Int32) : (ph_96 a2 a3 a4)[136]? = some (.inr (10, [.ref 137, .int 0, .int 0, .ref 138, .ref 151, .long 0])) := (px_get_ne (Nat.ne_of_beq_eq_false rfl) (px_get_ne (Nat.ne_of_beq_eq_false rfl) (pg_227 a2 a3 a4)))
set_option maxRecDepth 100000 in
theorem pg_239 (a2 a3 a4 : Int32) : (ph_96 a2 a3 a4)[164]? = some (.inl (2, .inr (.inl ([0])))) := (px_get_ne (Nat.ne_of_beq_eq_false rfl) (px_get_ne (Nat.ne_of_beq_eq_false rfl) (px_get_ne (Nat.ne_of_beq_eq_false rfl) (px_get_ne (Nat.ne_of_beq_eq_false rfl) (px_get_ne (Nat.ne_of_beq_eq_false rfl) (px_get_ne (Nat.ne_of_beq_eq_false rfl) (px_get_ne (Nat.ne_of_beq_eq_false rfl) (px_get_ne (Nat.ne_of_beq_eq_false rfl) (px_get_ne (Nat.ne_of_beq_eq_false rfl) (px_get_ne (Nat.ne_of_beq_eq_false rfl) (px_get_ne (Nat.ne_of_beq_eq_false rfl) (px_get_ne (Nat.ne_of_beq_eq_false rfl) (px_get_ne (Nat.ne_of_beq_eq_false rfl) (px_get_lt (pl_75 a2 a3 a4) (Nat.le_of_ble_eq_true rfl) (px_get_ne (Nat.ne_of_beq_eq_false rfl) (px_get_eq (pl_73 a2 a3 a4) (Nat.le_of_ble_eq_true rfl)))))))))))))))))
set_option maxRecDepth 100000 in
theorem pg_240 : ph_97[93]? = some (.inr (2, [.int 0, .int 0, .ref 94, .ref 95, .ref 96, .ref 97, .ref 98])) := (px_get_ne (Nat.ne_of_beq_eq_false rfl) pg_26)
set_option maxRecDepth 100000 in
theorem pl_88 : ph_97.length = 165 := px_len_set pl_0
set_option maxRecDepth 100000 in
theorem pg_241 : ph_98[93]? = some (.inr (2, [.int 1, .int 0, .ref 94, .ref 95, .ref 96, .ref 97, .ref 98])) := (px_get_eq pl_88 (Nat.le_of_ble_eq_true rfl))
set_option maxRecDepth 100000 in
theorem pl_89 : ph_98.length = 165 := px_len_set pl_88
set_option maxRecDepth 100000 in
theorem pg_242 : ph_99[93]? = some (.inr (2, [.int 1, .int 1, .ref 94, .ref 95, .ref 96, .ref 97, .ref 98])) := (px_get_eq pl_89 (Nat.le_of_ble_eq_true rfl))
set_option maxRecDepth 100000 in
theorem pg_243 : ph_99[95]? = some (.inl (1, .inl (List.replicate 48 0))) := (px_get_ne (Nat.ne_of_beq_eq_false rfl) (px_get_ne (Nat.ne_of_beq_eq_false rfl) (px_get_ne (Nat.ne_of_beq_eq_false rfl) pg_32)))
set_option maxRecDepth 100000 in
theorem pg_244 : ph_100[93]? = some (.inr (2, [.int 1, .int 1, .ref 94, .ref 95, .ref 96, .ref 97, .ref 98])) := (px_get_ne (Nat.ne_of_beq_eq_false rfl) pg_242)
set_option maxRecDepth 100000 in
theorem pg_245 : ph_100[96]? = some (.inl (0, .inl (List.replicate 144 0))) := (px_get_ne (Nat.ne_of_beq_eq_false rfl) (px_get_ne (Nat.ne_of_beq_eq_false rfl) (px_get_ne (Nat.ne_of_beq_eq_false rfl) (px_get_ne (Nat.ne_of_beq_eq_false rfl) pg_35))))
set_option maxRecDepth 100000 in
theorem pg_246 (a2 : Int32) : (ph_101 a2)[93]? = some (.inr (2, [.int 1, .int 1, .ref 94, .ref 95, .ref 96, .ref 97, .ref 98])) := (px_get_ne (Nat.ne_of_beq_eq_false rfl) pg_244)
set_option maxRecDepth 100000 in
theorem pl_90 : ph_99.length = 165 := px_len_set pl_89
set_option maxRecDepth 100000 in
theorem pl_91 : ph_100.length = 165 := px_len_set pl_90
set_option maxRecDepth 100000 in
theorem pg_247 (a2 : Int32) : (ph_101 a2)[96]? = some (.inl (0, .inl (List.replicate 54 0 ++ [a2] ++ List.replicate 89 0))) := (px_get_eq pl_91 (Nat.le_of_ble_eq_true rfl))
set_option maxRecDepth 100000 in
theorem pg_248 (a2 a3 : Int32) : (ph_102 a2 a3)[93]? = some (.inr (2, [.int 1, .int 1, .ref 94, .ref 95, .ref 96, .ref 97, .ref 98])) := (px_get_ne (Nat.ne_of_beq_eq_false rfl) (pg_246 a2))
set_option maxRecDepth 100000 in
theorem pl_92 (a2 : Int32) : (ph_101 a2).length = 165 := px_len_set pl_91
set_option maxRecDepth 100000 in
theorem pg_249 (a2 a3 : Int32) : (ph_102 a2 a3)[96]? = some (.inl (0, .inl (List.replicate 54 0 ++ [a2] ++ [a3] ++ List.replicate 88 0))) := (px_get_eq (pl_92 a2) (Nat.le_of_ble_eq_true rfl))
set_option maxRecDepth 100000 in
theorem pg_250 (a2 a3 a4 : Int32) : (ph_103 a2 a3 a4)[93]? = some (.inr (2, [.int 1, .int 1, .ref 94, .ref 95, .ref 96, .ref 97, .ref 98])) := (px_get_ne (Nat.ne_of_beq_eq_false rfl) (pg_248 a2 a3))
set_option maxRecDepth 100000 in
theorem pg_251 (a2 a3 a4 : Int32) : (ph_103 a2 a3 a4)[97]? = some (.inl (0, .inl (List.replicate 8 0))) := (px_get_ne (Nat.ne_of_beq_eq_false rfl) (px_get_ne (Nat.ne_of_beq_eq_false rfl) (px_get_ne (Nat.ne_of_beq_eq_false rfl) (px_get_ne (Nat.ne_of_beq_eq_false rfl) (px_get_ne (Nat.ne_of_beq_eq_false rfl) (px_get_ne (Nat.ne_of_beq_eq_false rfl) (px_get_ne (Nat.ne_of_beq_eq_false rfl) pg_28)))))))
set_option maxRecDepth 100000 in
theorem pg_252 (a2 a3 a4 : Int32) : (ph_103 a2 a3 a4)[98]? = some (.inl (0, .inl (List.replicate 48 0))) := (px_get_ne (Nat.ne_of_beq_eq_false rfl) (px_get_ne (Nat.ne_of_beq_eq_false rfl) (px_get_ne (Nat.ne_of_beq_eq_false rfl) (px_get_ne (Nat.ne_of_beq_eq_false rfl) (px_get_ne (Nat.ne_of_beq_eq_false rfl) (px_get_ne (Nat.ne_of_beq_eq_false rfl) (px_get_ne (Nat.ne_of_beq_eq_false rfl) pg_43)))))))
set_option maxRecDepth 100000 in
theorem pg_253 (a2 a3 a4 : Int32) : (ph_104 a2 a3 a4)[93]? = some (.inr (2, [.int 1, .int 1, .ref 94, .ref 95, .ref 96, .ref 97, .ref 98])) := (px_get_ne (Nat.ne_of_beq_eq_false rfl) (pg_250 a2 a3 a4))
set_option maxRecDepth 100000 in
theorem pg_254 (a2 a3 a4 : Int32) : (ph_104 a2 a3 a4)[97]? = some (.inl (0, .inl (List.replicate 8 0))) := (px_get_ne (Nat.ne_of_beq_eq_false rfl) (pg_251 a2 a3 a4))
set_option maxRecDepth 100000 in
theorem pg_255 (a2 a3 a4 : Int32) : (ph_105 a2 a3 a4)[92]? = some (.inr (5, [.ref 1, .ref 93, .ref 99, .ref 110, .int 0, .ref 111, .ref 112, .ref 113])) := (px_get_ne (Nat.ne_of_beq_eq_false rfl) (px_get_ne (Nat.ne_of_beq_eq_false rfl) (px_get_ne (Nat.ne_of_beq_eq_false rfl) (px_get_ne (Nat.ne_of_beq_eq_false rfl) (px_get_ne (Nat.ne_of_beq_eq_false rfl) (px_get_ne (Nat.ne_of_beq_eq_false rfl) (px_get_ne (Nat.ne_of_beq_eq_false rfl) (px_get_ne (Nat.ne_of_beq_eq_false rfl) (px_get_ne (Nat.ne_of_beq_eq_false rfl) pg_25)))))))))
set_option maxRecDepth 100000 in
theorem pg_256 (a2 a3 a4 : Int32) : (ph_105 a2 a3 a4)[93]? = some (.inr (2, [.int 1, .int 1, .ref 94, .ref 95, .ref 96, .ref 97, .ref 98])) := (px_get_ne (Nat.ne_of_beq_eq_false rfl) (pg_253 a2 a3 a4))
set_option maxRecDepth 100000 in
theorem pg_257 (a2 a3 a4 : Int32) : (ph_105 a2 a3 a4)[94]? = some (.inl (0, .inl (List.replicate 18 (-1) ++ [0] ++ List.replicate 29 (-1)))) := (px_get_ne (Nat.ne_of_beq_eq_false rfl) (px_get_ne (Nat.ne_of_beq_eq_false rfl) (px_get_ne (Nat.ne_of_beq_eq_false rfl) (px_get_ne (Nat.ne_of_beq_eq_false rfl) (px_get_ne (Nat.ne_of_beq_eq_false rfl) (px_get_ne (Nat.ne_of_beq_eq_false rfl) (px_get_ne (Nat.ne_of_beq_eq_false rfl) (px_get_ne (Nat.ne_of_beq_eq_false rfl) (px_get_eq pl_0 (Nat.le_of_ble_eq_true rfl))))))))))
set_option maxRecDepth 100000 in
theorem pg_258 (a2 a3 a4 : Int32) : (ph_105 a2 a3 a4)[95]? = some (.inl (1, .inl (List.replicate 48 0))) := (px_get_ne (Nat.ne_of_beq_eq_false rfl) (px_get_ne (Nat.ne_of_beq_eq_false rfl) (px_get_ne (Nat.ne_of_beq_eq_false rfl) (px_get_ne (Nat.ne_of_beq_eq_false rfl) (px_get_ne (Nat.ne_of_beq_eq_false rfl) (px_get_eq pl_90 (Nat.le_of_ble_eq_true rfl)))))))
set_option maxRecDepth 100000 in
theorem pg_259 (a2 a3 a4 : Int32) : (ph_106 a2 a3 a4)[92]? = some (.inr (5, [.ref 1, .ref 93, .ref 99, .ref 110, .int 0, .ref 111, .ref 112, .ref 113])) := (px_get_ne (Nat.ne_of_beq_eq_false rfl) (pg_255 a2 a3 a4))
set_option maxRecDepth 100000 in
theorem pg_260 (a2 a3 a4 : Int32) : (ph_106 a2 a3 a4)[93]? = some (.inr (2, [.int 1, .int 1, .ref 94, .ref 95, .ref 96, .ref 97, .ref 98])) := (px_get_ne (Nat.ne_of_beq_eq_false rfl) (pg_256 a2 a3 a4))
set_option maxRecDepth 100000 in
theorem pg_261 (a2 a3 a4 : Int32) : (ph_106 a2 a3 a4)[1]? = some (.inl (3, .inr (.inr ([some 2, some 17, some 32, some 47, some 62, some 77])))) := (px_get_ne (Nat.ne_of_beq_eq_false rfl) (px_get_ne (Nat.ne_of_beq_eq_false rfl) (px_get_ne (Nat.ne_of_beq_eq_false rfl) (px_get_ne (Nat.ne_of_beq_eq_false rfl) (px_get_ne (Nat.ne_of_beq_eq_false rfl) (px_get_ne (Nat.ne_of_beq_eq_false rfl) (px_get_ne (Nat.ne_of_beq_eq_false rfl) (px_get_ne (Nat.ne_of_beq_eq_false rfl) (px_get_ne (Nat.ne_of_beq_eq_false rfl) (px_get_ne (Nat.ne_of_beq_eq_false rfl) pg_5))))))))))
set_option maxRecDepth 100000 in
theorem pg_262 (a2 a3 a4 : Int32) : (ph_106 a2 a3 a4)[2]? = some (.inr (4, [.int 0, .int 0, .ref 3, .ref 11])) := (px_get_ne (Nat.ne_of_beq_eq_false rfl) (px_get_ne (Nat.ne_of_beq_eq_false rfl) (px_get_ne (Nat.ne_of_beq_eq_false rfl) (px_get_ne (Nat.ne_of_beq_eq_false rfl) (px_get_ne (Nat.ne_of_beq_eq_false rfl) (px_get_ne (Nat.ne_of_beq_eq_false rfl) (px_get_ne (Nat.ne_of_beq_eq_false rfl) (px_get_ne (Nat.ne_of_beq_eq_false rfl) (px_get_ne (Nat.ne_of_beq_eq_false rfl) (px_get_ne (Nat.ne_of_beq_eq_false rfl) pg_6))))))))))
set_option maxRecDepth 100000 in
theorem pg_263 (a2 a3 a4 : Int32) : (ph_106 a2 a3 a4)[17]? = some (.inr (4, [.int 0, .int 0, .ref 18, .ref 26])) := (px_get_ne (Nat.ne_of_beq_eq_false rfl) (px_get_ne (Nat.ne_of_beq_eq_false rfl) (px_get_ne (Nat.ne_of_beq_eq_false rfl) (px_get_ne (Nat.ne_of_beq_eq_false rfl) (px_get_ne (Nat.ne_of_beq_eq_false rfl) (px_get_ne (Nat.ne_of_beq_eq_false rfl) (px_get_ne (Nat.ne_of_beq_eq_false rfl) (px_get_ne (Nat.ne_of_beq_eq_false rfl) (px_get_ne (Nat.ne_of_beq_eq_false rfl) (px_get_ne (Nat.ne_of_beq_eq_false rfl) pg_55))))))))))
set_option maxRecDepth 100000 in
theorem pg_264 (a2 a3 a4 : Int32) : (ph_106 a2 a3 a4)[32]? = some (.inr (4, [.int 0, .int 0, .ref 33, .ref 41])) := (px_get_ne (Nat.ne_of_beq_eq_false rfl) (px_get_ne (Nat.ne_of_beq_eq_false rfl) (px_get_ne (Nat.ne_of_beq_eq_false rfl) (px_get_ne (Nat.ne_of_beq_eq_false rfl) (px_get_ne (Nat.ne_of_beq_eq_false rfl) (px_get_ne (Nat.ne_of_beq_eq_false rfl) (px_get_ne (Nat.ne_of_beq_eq_false rfl) (px_get_ne (Nat.ne_of_beq_eq_false rfl) (px_get_ne (Nat.ne_of_beq_eq_false rfl) (px_get_ne (Nat.ne_of_beq_eq_false rfl) pg_57))))))))))
set_option maxRecDepth 100000 in
theorem pg_265 (a2 a3 a4 : Int32) : (ph_106 a2 a3 a4)[47]? = some (.inr (4, [.int 0, .int 0, .ref 48, .ref 56])) := (px_get_ne (Nat.ne_of_beq_eq_false rfl) (px_get_ne (Nat.ne_of_beq_eq_false rfl) (px_get_ne (Nat.ne_of_beq_eq_false rfl) (px_get_ne (Nat.ne_of_beq_eq_false rfl) (px_get_ne (Nat.ne_of_beq_eq_false rfl) (px_get_ne (Nat.ne_of_beq_eq_false rfl) (px_get_ne (Nat.ne_of_beq_eq_false rfl) (px_get_ne (Nat.ne_of_beq_eq_false rfl) (px_get_ne (Nat.ne_of_beq_eq_false rfl) (px_get_ne (Nat.ne_of_beq_eq_false rfl) pg_59))))))))))
set_option maxRecDepth 100000 in
theorem pg_266 (a2 a3 a4 : Int32) : (ph_106 a2 a3 a4)[62]? = some (.inr (4, [.int 0, .int 0, .ref 63, .ref 71])) := (px_get_ne (Nat.ne_of_beq_eq_false rfl) (px_get_ne (Nat.ne_of_beq_eq_false rfl) (px_get_ne (Nat.ne_of_beq_eq_false rfl) (px_get_ne (Nat.ne_of_beq_eq_false rfl) (px_get_ne (Nat.ne_of_beq_eq_false rfl) (px_get_ne (Nat.ne_of_beq_eq_false rfl) (px_get_ne (Nat.ne_of_beq_eq_false rfl) (px_get_ne (Nat.ne_of_beq_eq_false rfl) (px_get_ne (Nat.ne_of_beq_eq_false rfl) (px_get_ne (Nat.ne_of_beq_eq_false rfl) pg_61))))))))))
set_option maxRecDepth 100000 in
theorem pg_267 (a2 a3 a4 : Int32) : (ph_106 a2 a3 a4)[77]? = some (.inr (4, [.int 0, .int 0, .ref 78, .ref 86])) := (px_get_ne (Nat.ne_of_beq_eq_false rfl) (px_get_ne (Nat.ne_of_beq_eq_false rfl) (px_get_ne (Nat.ne_of_beq_eq_false rfl) (px_get_ne (Nat.ne_of_beq_eq_false rfl) (px_get_ne (Nat.ne_of_beq_eq_false rfl) (px_get_ne (Nat.ne_of_beq_eq_false rfl) (px_get_ne (Nat.ne_of_beq_eq_false rfl) (px_get_ne (Nat.ne_of_beq_eq_false rfl) (px_get_ne (Nat.ne_of_beq_eq_false rfl) (px_get_ne (Nat.ne_of_beq_eq_false rfl) pg_63))))))))))
set_option maxRecDepth 100000 in
theorem pg_268 (a2 a3 a4 : Int32) : (ph_106 a2 a3 a4)[94]? = some (.inl (0, .inl (List.replicate 18 (-1) ++ [0] ++ List.replicate 29 (-1)))) := (px_get_ne (Nat.ne_of_beq_eq_false rfl) (pg_257 a2 a3 a4))
set_option maxRecDepth 100000 in
theorem pl_93 (a2 a3 : Int32) : (ph_102 a2 a3).length = 165 := px_len_set (pl_92 a2)
set_option maxRecDepth 100000 in
theorem pl_94 (a2 a3 a4 : Int32) : (ph_103 a2 a3 a4).length = 165 := px_len_set (pl_93 a2 a3)
set_option maxRecDepth 100000 in
theorem pl_95 (a2 a3 a4 : Int32) : (ph_104 a2 a3 a4).length = 165 := px_len_set (pl_94 a2 a3 a4)
set_option maxRecDepth 100000 in
theorem pl_96 (a2 a3 a4 : Int32) : (ph_105 a2 a3 a4).length = 165 := px_len_set (pl_95 a2 a3 a4)
set_option maxRecDepth 100000 in
theorem pg_269 (a2 a3 a4 : Int32) : (ph_106 a2 a3 a4)[95]? = some (.inl (1, .inl (List.replicate 18 0 ++ [1] ++ List.replicate 29 0))) := (px_get_eq (pl_96 a2 a3 a4) (Nat.le_of_ble_eq_true rfl))
set_option maxRecDepth 100000 in
theorem pg_270 (a2 a3 a4 : Int32) : (ph_106 a2 a3 a4)[164]? = some (.inl (2, .inr (.inl ([0])))) := (px_get_ne (Nat.ne_of_beq_eq_false rfl) (px_get_ne (Nat.ne_of_beq_eq_false rfl) (px_get_ne (Nat.ne_of_beq_eq_false rfl) (px_get_ne (Nat.ne_of_beq_eq_false rfl) (px_get_ne (Nat.ne_of_beq_eq_false rfl) (px_get_ne (Nat.ne_of_beq_eq_false rfl) (px_get_ne (Nat.ne_of_beq_eq_false rfl) (px_get_ne (Nat.ne_of_beq_eq_false rfl) (px_get_ne (Nat.ne_of_beq_eq_false rfl) (px_get_ne (Nat.ne_of_beq_eq_false rfl) pg_9))))))))))
set_option maxRecDepth 100000 in
theorem pg_271 (a2 a3 a4 : Int32) : (ph_107 a2 a3 a4)[136]? = some (.inr (10, [.ref 137, .int 0, .int 0, .ref 138, .ref 151, .long 0])) := (px_get_ne (Nat.ne_of_beq_eq_false rfl) (px_get_ne (Nat.ne_of_beq_eq_false rfl) (px_get_ne (Nat.ne_of_beq_eq_false rfl) (px_get_ne (Nat.ne_of_beq_eq_false rfl) (px_get_ne (Nat.ne_of_beq_eq_false rfl) (px_get_ne (Nat.ne_of_beq_eq_false rfl) (px_get_ne (Nat.ne_of_beq_eq_false rfl) (px_get_ne (Nat.ne_of_beq_eq_false rfl) (px_get_ne (Nat.ne_of_beq_eq_false rfl) (px_get_ne (Nat.ne_of_beq_eq_false rfl) (px_get_ne (Nat.ne_of_beq_eq_false rfl) pg_1)))))))))))
set_option maxRecDepth 100000 in
theorem pl_97 (a2 a3 a4 : Int32) : (ph_106 a2 a3 a4).length = 165 := px_len_set (pl_96 a2 a3 a4)
set_option maxRecDepth 100000 in
theorem pl_98 (a2 a3 a4 : Int32) : (ph_107 a2 a3 a4).length = 165 := px_len_set (pl_97 a2 a3 a4)
set_option maxRecDepth 100000 in
theorem pg_272 (a2 a3 a4 : Int32) : (ph_108 a2 a3 a4)[136]? = some (.inr (10, [.ref 137, .int 0, .int 0, .ref 138, .ref 151, .long 0])) := (px_get_eq (pl_98 a2 a3 a4) (Nat.le_of_ble_eq_true rfl))
set_option maxRecDepth 100000 in
theorem pg_273 (a2 a3 a4 : Int32) : (ph_108 a2 a3 a4)[138]? = some (.inr (9, [.int 0, .int 0, .int 0, .ref 139, .ref 140, .ref 141, .ref 143, .ref 145, .ref 147, .ref 149, .ref 150, .int 0, .ref 136])) := (px_get_ne (Nat.ne_of_beq_eq_false rfl) (px_get_ne (Nat.ne_of_beq_eq_false rfl) (px_get_ne (Nat.ne_of_beq_eq_false rfl) (px_get_ne (Nat.ne_of_beq_eq_false rfl) (px_get_ne (Nat.ne_of_beq_eq_false rfl) (px_get_ne (Nat.ne_of_beq_eq_false rfl) (px_get_ne (Nat.ne_of_beq_eq_false rfl) (px_get_ne (Nat.ne_of_beq_eq_false rfl) (px_get_ne (Nat.ne_of_beq_eq_false rfl) (px_get_ne (Nat.ne_of_beq_eq_false rfl) (px_get_ne (Nat.ne_of_beq_eq_false rfl) (px_get_ne (Nat.ne_of_beq_eq_false rfl) pg_70))))))))))))
set_option maxRecDepth 100000 in
theorem pg_274 (a2 a3 a4 : Int32) : (ph_108 a2 a3 a4)[141]? = some (.inr (7, [.int 6, .int 0, .ref 142])) := (px_get_ne (Nat.ne_of_beq_eq_false rfl) (px_get_ne (Nat.ne_of_beq_eq_false rfl) (px_get_ne (Nat.ne_of_beq_eq_false rfl) (px_get_ne (Nat.ne_of_beq_eq_false rfl) (px_get_ne (Nat.ne_of_beq_eq_false rfl) (px_get_ne (Nat.ne_of_beq_eq_false rfl) (px_get_ne (Nat.ne_of_beq_eq_false rfl) (px_get_ne (Nat.ne_of_beq_eq_false rfl) (px_get_ne (Nat.ne_of_beq_eq_false rfl) (px_get_ne (Nat.ne_of_beq_eq_false rfl) (px_get_ne (Nat.ne_of_beq_eq_false rfl) (px_get_ne (Nat.ne_of_beq_eq_false rfl) pg_72))))))))))))
set_option maxRecDepth 100000 in
theorem pl_99 (a2 a3 a4 : Int32) : (ph_108 a2 a3 a4).length = 165 := px_len_set (pl_98 a2 a3 a4)
set_option maxRecDepth 100000 in
theorem pg_275 (a2 a3 a4 : Int32) : (ph_109 a2 a3 a4)[138]? = some (.inr (9, [.int 0, .int 0, .int 0, .ref 139, .ref 140, .ref 141, .ref 143, .ref 145, .ref 147, .ref 149, .ref 150, .int 0, .ref 136])) := (px_get_lt (pl_99 a2 a3 a4) (Nat.le_of_ble_eq_true rfl) (pg_273 a2 a3 a4))
set_option maxRecDepth 100000 in
theorem pg_276 (a2 a3 a4 : Int32) : (ph_109 a2 a3 a4)[165]? = some (.inl (0, .inl (List.replicate 6 0))) := (px_get_ge (k := 0) (pl_99 a2 a3 a4) rfl rfl)
set_option maxRecDepth 100000 in
theorem pl_100 (a2 a3 a4 : Int32) : (ph_109 a2 a3 a4).length = 166 := px_len_app (pl_99 a2 a3 a4) rfl
set_option maxRecDepth 100000 in
theorem pg_277 (a2 a3 a4 : Int32) : (ph_110 a2 a3 a4)[165]? = some (.inl (0, .inl (List.replicate 6 0))) := (px_get_eq (pl_100 a2 a3 a4) (Nat.le_of_ble_eq_true rfl))
set_option maxRecDepth 100000 in
theorem pl_101 (a2 a3 a4 : Int32) : (ph_110 a2 a3 a4).length = 166 := px_len_set (pl_100 a2 a3 a4)
set_option maxRecDepth 100000 in
theorem pg_278 (a2 a3 a4 : Int32) : (ph_111 a2 a3 a4)[165]? = some (.inl (0, .inl ([0, 3, 0, 0, 0, 0]))) := (px_get_eq (pl_101 a2 a3 a4) (Nat.le_of_ble_eq_true rfl))
set_option maxRecDepth 100000 in
theorem pl_102 (a2 a3 a4 : Int32) : (ph_111 a2 a3 a4).length = 166 := px_len_set (pl_101 a2 a3 a4)
set_option maxRecDepth 100000 in
theorem pg_279 (a2 a3 a4 : Int32) : (ph_112 a2 a3 a4)[165]? = some (.inl (0, .inl ([0, 3, a2, 0, 0, 0]))) := (px_get_eq (pl_102 a2 a3 a4) (Nat.le_of_ble_eq_true rfl))
set_option maxRecDepth 100000 in
theorem pl_103 (a2 a3 a4 : Int32) : (ph_112 a2 a3 a4).length = 166 := px_len_set (pl_102 a2 a3 a4)
set_option maxRecDepth 100000 in
theorem pg_280 (a2 a3 a4 : Int32) : (ph_113 a2 a3 a4)[165]? = some (.inl (0, .inl ([0, 3, a2, a3, 0, 0]))) := (px_get_eq (pl_103 a2 a3 a4) (Nat.le_of_ble_eq_true rfl))
set_option maxRecDepth 100000 in
theorem pl_104 (a2 a3 a4 : Int32) : (ph_113 a2 a3 a4).length = 166 := px_len_set (pl_103 a2 a3 a4)
set_option maxRecDepth 100000 in
theorem pg_281 (a2 a3 a4 : Int32) : (ph_114 a2 a3 a4)[165]? = some (.inl (0, .inl ([0, 3, a2, a3, a4, 0]))) := (px_get_eq (pl_104 a2 a3 a4) (Nat.le_of_ble_eq_true rfl))
set_option maxRecDepth 100000 in
theorem pg_282 (a2 a3 a4 : Int32) : (ph_115 a2 a3 a4)[141]? = some (.inr (7, [.int 6, .int 0, .ref 142])) := (px_get_ne (Nat.ne_of_beq_eq_false rfl) (px_get_ne (Nat.ne_of_beq_eq_false rfl) (px_get_ne (Nat.ne_of_beq_eq_false rfl) (px_get_ne (Nat.ne_of_beq_eq_false rfl) (px_get_ne (Nat.ne_of_beq_eq_false rfl) (px_get_ne (Nat.ne_of_beq_eq_false rfl) (px_get_lt (pl_99 a2 a3 a4) (Nat.le_of_ble_eq_true rfl) (pg_274 a2 a3 a4))))))))
set_option maxRecDepth 100000 in
theorem pg_283 (a2 a3 a4 : Int32) : (ph_115 a2 a3 a4)[142]? = some (.inl (0, .inl (List.replicate 96 0))) := (px_get_ne (Nat.ne_of_beq_eq_false rfl) (px_get_ne (Nat.ne_of_beq_eq_false rfl) (px_get_ne (Nat.ne_of_beq_eq_false rfl) (px_get_ne (Nat.ne_of_beq_eq_false rfl) (px_get_ne (Nat.ne_of_beq_eq_false rfl) (px_get_ne (Nat.ne_of_beq_eq_false rfl) (px_get_lt (pl_99 a2 a3 a4) (Nat.le_of_ble_eq_true rfl) (px_get_ne (Nat.ne_of_beq_eq_false rfl) (px_get_ne (Nat.ne_of_beq_eq_false rfl) (px_get_ne (Nat.ne_of_beq_eq_false rfl) (px_get_ne (Nat.ne_of_beq_eq_false rfl) (px_get_ne (Nat.ne_of_beq_eq_false rfl) (px_get_ne (Nat.ne_of_beq_eq_false rfl) (px_get_ne (Nat.ne_of_beq_eq_false rfl) (px_get_ne (Nat.ne_of_beq_eq_false rfl) (px_get_ne (Nat.ne_of_beq_eq_false rfl) (px_get_ne (Nat.ne_of_beq_eq_false rfl) (px_get_ne (Nat.ne_of_beq_eq_false rfl) (px_get_ne (Nat.ne_of_beq_eq_false rfl) pg_82)))))))))))))))))))
set_option maxRecDepth 100000 in
theorem pl_105 (a2 a3 a4 : Int32) : (ph_114 a2 a3 a4).length = 166 := px_len_set (pl_104 a2 a3 a4)
set_option maxRecDepth 100000 in
theorem pg_284 (a2 a3 a4 : Int32) : (ph_115 a2 a3 a4)[165]? = some (.inl (0, .inl ([0, 3, a2, a3, a4, 1]))) := (px_get_eq (pl_105 a2 a3 a4) (Nat.le_of_ble_eq_true rfl))
set_option maxRecDepth 100000 in
theorem pg_285 (a2 a3 a4 : Int32) : (ph_116 a2 a3 a4)[141]? = some (.inr (7, [.int 6, .int 0, .ref 142])) := (px_get_ne (Nat.ne_of_beq_eq_false rfl) (pg_282 a2 a3 a4))
set_option maxRecDepth 100000 in
theorem pg_286 (a2 a3 a4 : Int32) : (ph_117 a2 a3 a4)[138]? = some (.inr (9, [.int 0, .int 0, .int 0, .ref 139, .ref 140, .ref 141, .ref 143, .ref 145, .ref 147, .ref 149, .ref 150, .int 0, .ref 136])) := (px_get_ne (Nat.ne_of_beq_eq_false rfl) (px_get_ne (Nat.ne_of_beq_eq_false rfl) (px_get_ne (Nat.ne_of_beq_eq_false rfl) (px_get_ne (Nat.ne_of_beq_eq_false rfl) (px_get_ne (Nat.ne_of_beq_eq_false rfl) (px_get_ne (Nat.ne_of_beq_eq_false rfl) (px_get_ne (Nat.ne_of_beq_eq_false rfl) (px_get_ne (Nat.ne_of_beq_eq_false rfl) (pg_275 a2 a3 a4)))))))))
set_option maxRecDepth 100000 in
theorem pl_106 (a2 a3 a4 : Int32) : (ph_115 a2 a3 a4).length = 166 := px_len_set (pl_105 a2 a3 a4)
set_option maxRecDepth 100000 in
theorem pl_107 (a2 a3 a4 : Int32) : (ph_116 a2 a3 a4).length = 166 := px_len_set (pl_106 a2 a3 a4)
set_option maxRecDepth 100000 in
theorem pl_108 (a2 a3 a4 : Int32) : (ph_117 a2 a3 a4).length = 166 := px_len_set (pl_107 a2 a3 a4)
set_option maxRecDepth 100000 in
theorem pg_287 (a2 a3 a4 : Int32) : (ph_118 a2 a3 a4)[138]? = some (.inr (9, [.int 1, .int 0, .int 0, .ref 139, .ref 140, .ref 141, .ref 143, .ref 145, .ref 147, .ref 149, .ref 150, .int 0, .ref 136])) := (px_get_eq (pl_108 a2 a3 a4) (Nat.le_of_ble_eq_true rfl))
set_option maxRecDepth 100000 in
theorem pg_288 (a2 a3 a4 : Int32) : (ph_118 a2 a3 a4)[136]? = some (.inr (10, [.ref 137, .int 0, .int 0, .ref 138, .ref 151, .long 0])) := (px_get_ne (Nat.ne_of_beq_eq_false rfl) (px_get_ne (Nat.ne_of_beq_eq_false rfl) (px_get_ne (Nat.ne_of_beq_eq_false rfl) (px_get_ne (Nat.ne_of_beq_eq_false rfl) (px_get_ne (Nat.ne_of_beq_eq_false rfl) (px_get_ne (Nat.ne_of_beq_eq_false rfl) (px_get_ne (Nat.ne_of_beq_eq_false rfl) (px_get_ne (Nat.ne_of_beq_eq_false rfl) (px_get_ne (Nat.ne_of_beq_eq_false rfl) (px_get_lt (pl_99 a2 a3 a4) (Nat.le_of_ble_eq_true rfl) (pg_272 a2 a3 a4)))))))))))
set_option maxRecDepth 100000 in
theorem pg_289 (a2 a3 a4 : Int32) : (ph_118 a2 a3 a4)[147]? = some (.inr (7, [.int 6, .int 0, .ref 148])) := (px_get_ne (Nat.ne_of_beq_eq_false rfl) (px_get_ne (Nat.ne_of_beq_eq_false rfl) (px_get_ne (Nat.ne_of_beq_eq_false rfl) (px_get_ne (Nat.ne_of_beq_eq_false rfl) (px_get_ne (Nat.ne_of_beq_eq_false rfl) (px_get_ne (Nat.ne_of_beq_eq_false rfl) (px_get_ne (Nat.ne_of_beq_eq_false rfl) (px_get_ne (Nat.ne_of_beq_eq_false rfl) (px_get_ne (Nat.ne_of_beq_eq_false rfl) (px_get_lt (pl_99 a2 a3 a4) (Nat.le_of_ble_eq_true rfl) (px_get_ne (Nat.ne_of_beq_eq_false rfl) (px_get_ne (Nat.ne_of_beq_eq_false rfl) (px_get_ne (Nat.ne_of_beq_eq_false rfl) (px_get_ne (Nat.ne_of_beq_eq_false rfl) (px_get_ne (Nat.ne_of_beq_eq_false rfl) (px_get_ne (Nat.ne_of_beq_eq_false rfl) (px_get_ne (Nat.ne_of_beq_eq_false rfl) (px_get_ne (Nat.ne_of_beq_eq_false rfl) (px_get_ne (Nat.ne_of_beq_eq_false rfl) (px_get_ne (Nat.ne_of_beq_eq_false rfl) (px_get_ne (Nat.ne_of_beq_eq_false rfl) (px_get_ne (Nat.ne_of_beq_eq_false rfl) pg_89))))))))))))))))))))))
set_option maxRecDepth 100000 in
theorem pg_290 (a2 a3 a4 : Int32) : (ph_119 a2 a3 a4)[138]? = some (.inr (9, [.int 1, .int 0, .int 0, .ref 139, .ref 140, .ref 141, .ref 143, .ref 145, .ref 147, .ref 149, .ref 150, .int 0, .ref 136])) := (px_get_ne (Nat.ne_of_beq_eq_false rfl) (pg_287 a2 a3 a4))
set_option maxRecDepth 100000 in
theorem pl_109 (a2 a3 a4 : Int32) : (ph_118 a2 a3 a4).length = 166 := px_len_set (pl_108 a2 a3 a4)
set_option maxRecDepth 100000 in
theorem pl_110 (a2 a3 a4 : Int32) : (ph_119 a2 a3 a4).length = 166 := px_len_set (pl_109 a2 a3 a4)
set_option maxRecDepth 100000 in
theorem pg_291 (a2 a3 a4 : Int32) : (ph_120 a2 a3 a4)[138]? = some (.inr (9, [.int 1, .int 0, .int 0, .ref 139, .ref 140, .ref 141, .ref 143, .ref 145, .ref 147, .ref 149, .ref 150, .int 0, .ref 136])) := (px_get_eq (pl_110 a2 a3 a4) (Nat.le_of_ble_eq_true rfl))
set_option maxRecDepth 100000 in
theorem pg_292 (a2 a3 a4 : Int32) : (ph_120 a2 a3 a4)[136]? = some (.inr (10, [.ref 137, .int 0, .int 0, .ref 138, .ref 151, .long 0])) := (px_get_ne (Nat.ne_of_beq_eq_false rfl) (px_get_ne (Nat.ne_of_beq_eq_false rfl) (pg_288 a2 a3 a4)))
set_option maxRecDepth 100000 in
theorem pg_293 (a2 a3 a4 : Int32) : (ph_120 a2 a3 a4)[147]? = some (.inr (7, [.int 6, .int 0, .ref 148])) := (px_get_ne (Nat.ne_of_beq_eq_false rfl) (px_get_eq (pl_109 a2 a3 a4) (Nat.le_of_ble_eq_true rfl)))
set_option maxRecDepth 100000 in
theorem pg_294 (a2 a3 a4 : Int32) : (ph_120 a2 a3 a4)[143]? = some (.inr (7, [.int 6, .int 0, .ref 144])) := (px_get_ne (Nat.ne_of_beq_eq_false rfl) (px_get_ne (Nat.ne_of_beq_eq_false rfl) (px_get_ne (Nat.ne_of_beq_eq_false rfl) (px_get_ne (Nat.ne_of_beq_eq_false rfl) (px_get_ne (Nat.ne_of_beq_eq_false rfl) (px_get_ne (Nat.ne_of_beq_eq_false rfl) (px_get_ne (Nat.ne_of_beq_eq_false rfl) (px_get_ne (Nat.ne_of_beq_eq_false rfl) (px_get_ne (Nat.ne_of_beq_eq_false rfl) (px_get_ne (Nat.ne_of_beq_eq_false rfl) (px_get_ne (Nat.ne_of_beq_eq_false rfl) (px_get_lt (pl_99 a2 a3 a4) (Nat.le_of_ble_eq_true rfl) (px_get_ne (Nat.ne_of_beq_eq_false rfl) (px_get_ne (Nat.ne_of_beq_eq_false rfl) (px_get_ne (Nat.ne_of_beq_eq_false rfl) (px_get_ne (Nat.ne_of_beq_eq_false rfl) (px_get_ne (Nat.ne_of_beq_eq_false rfl) (px_get_ne (Nat.ne_of_beq_eq_false rfl) (px_get_ne (Nat.ne_of_beq_eq_false rfl) (px_get_ne (Nat.ne_of_beq_eq_false rfl) (px_get_ne (Nat.ne_of_beq_eq_false rfl) (px_get_ne (Nat.ne_of_beq_eq_false rfl) (px_get_ne (Nat.ne_of_beq_eq_false rfl) (px_get_ne (Nat.ne_of_beq_eq_false rfl) pg_95))))))))))))))))))))))))
set_option maxRecDepth 100000 in
theorem pl_111 (a2 a3 a4 : Int32) : (ph_120 a2 a3 a4).length = 166 := px_len_set (pl_110 a2 a3 a4)
set_option maxRecDepth 100000 in
theorem pg_295 (a2 a3 a4 : Int32) : (ph_121 a2 a3 a4)[143]? = some (.inr (7, [.int 6, .int 0, .ref 144])) := (px_get_eq (pl_111 a2 a3 a4) (Nat.le_of_ble_eq_true rfl))
set_option maxRecDepth 100000 in
theorem pg_296 (a2 a3 a4 : Int32) : (ph_121 a2 a3 a4)[144]? = some (.inl (0, .inl (List.replicate 96 0))) := (px_get_ne (Nat.ne_of_beq_eq_false rfl) (px_get_ne (Nat.ne_of_beq_eq_false rfl) (px_get_ne (Nat.ne_of_beq_eq_false rfl) (px_get_ne (Nat.ne_of_beq_eq_false rfl) (px_get_ne (Nat.ne_of_beq_eq_false rfl) (px_get_ne (Nat.ne_of_beq_eq_false rfl) (px_get_ne (Nat.ne_of_beq_eq_false rfl) (px_get_ne (Nat.ne_of_beq_eq_false rfl) (px_get_ne (Nat.ne_of_beq_eq_false rfl) (px_get_ne (Nat.ne_of_beq_eq_false rfl) (px_get_ne (Nat.ne_of_beq_eq_false rfl) (px_get_ne (Nat.ne_of_beq_eq_false rfl) (px_get_lt (pl_99 a2 a3 a4) (Nat.le_of_ble_eq_true rfl) (px_get_ne (Nat.ne_of_beq_eq_false rfl) (px_get_ne (Nat.ne_of_beq_eq_false rfl) (px_get_ne (Nat.ne_of_beq_eq_false rfl) (px_get_ne (Nat.ne_of_beq_eq_false rfl) (px_get_ne (Nat.ne_of_beq_eq_false rfl) (px_get_ne (Nat.ne_of_beq_eq_false rfl) (px_get_ne (Nat.ne_of_beq_eq_false rfl) (px_get_ne (Nat.ne_of_beq_eq_false rfl) (px_get_ne (Nat.ne_of_beq_eq_false rfl) (px_get_ne (Nat.ne_of_beq_eq_false rfl) (px_get_ne (Nat.ne_of_beq_eq_false rfl) (px_get_ne (Nat.ne_of_beq_eq_false rfl) pg_98)))))))))))))))))))))))))
set_option maxRecDepth 100000 in
theorem pg_297 (a2 a3 a4 : Int32) : (ph_121 a2 a3 a4)[147]? = some (.inr (7, [.int 6, .int 0, .ref 148])) := (px_get_ne (Nat.ne_of_beq_eq_false rfl) (pg_293 a2 a3 a4))
set_option maxRecDepth 100000 in
theorem pg_298 (a2 a3 a4 : Int32) : (ph_121 a2 a3 a4)[148]? = some (.inl (0, .inl (List.replicate 96 0))) := (px_get_ne (Nat.ne_of_beq_eq_false rfl) (px_get_ne (Nat.ne_of_beq_eq_false rfl) (px_get_ne (Nat.ne_of_beq_eq_false rfl) (px_get_ne (Nat.ne_of_beq_eq_false rfl) (px_get_ne (Nat.ne_of_beq_eq_false rfl) (px_get_ne (Nat.ne_of_beq_eq_false rfl) (px_get_ne (Nat.ne_of_beq_eq_false rfl) (px_get_ne (Nat.ne_of_beq_eq_false rfl) (px_get_ne (Nat.ne_of_beq_eq_false rfl) (px_get_ne (Nat.ne_of_beq_eq_false rfl) (px_get_ne (Nat.ne_of_beq_eq_false rfl) (px_get_ne (Nat.ne_of_beq_eq_false rfl) (px_get_lt (pl_99 a2 a3 a4) (Nat.le_of_ble_eq_true rfl) (px_get_ne (Nat.ne_of_beq_eq_false rfl) (px_get_ne (Nat.ne_of_beq_eq_false rfl) (px_get_ne (Nat.ne_of_beq_eq_false rfl) (px_get_ne (Nat.ne_of_beq_eq_false rfl) (px_get_ne (Nat.ne_of_beq_eq_false rfl) (px_get_ne (Nat.ne_of_beq_eq_false rfl) (px_get_ne (Nat.ne_of_beq_eq_false rfl) (px_get_ne (Nat.ne_of_beq_eq_false rfl) (px_get_ne (Nat.ne_of_beq_eq_false rfl) (px_get_ne (Nat.ne_of_beq_eq_false rfl) (px_get_ne (Nat.ne_of_beq_eq_false rfl) (px_get_ne (Nat.ne_of_beq_eq_false rfl) pg_101)))))))))))))))))))))))))
set_option maxRecDepth 100000 in
theorem pg_299 (a2 a3 a4 : Int32) : (ph_122 a2 a3 a4)[138]? = some (.inr (9, [.int 1, .int 0, .int 0, .ref 139, .ref 140, .ref 141, .ref 143, .ref 145, .ref 147, .ref 149, .ref 150, .int 0, .ref 136])) := (px_get_ne (Nat.ne_of_beq_eq_false rfl) (px_get_ne (Nat.ne_of_beq_eq_false rfl) (pg_291 a2 a3 a4)))
set_option maxRecDepth 100000 in
theorem pg_300 (a2 a3 a4 : Int32) : (ph_122 a2 a3 a4)[145]? = some (.inr (7, [.int 2, .int 0, .ref 146])) := (px_get_ne (Nat.ne_of_beq_eq_false rfl) (px_get_ne (Nat.ne_of_beq_eq_false rfl) (px_get_ne (Nat.ne_of_beq_eq_false rfl) (px_get_ne (Nat.ne_of_beq_eq_false rfl) (px_get_ne (Nat.ne_of_beq_eq_false rfl) (px_get_ne (Nat.ne_of_beq_eq_false rfl) (px_get_ne (Nat.ne_of_beq_eq_false rfl) (px_get_ne (Nat.ne_of_beq_eq_false rfl) (px_get_ne (Nat.ne_of_beq_eq_false rfl) (px_get_ne (Nat.ne_of_beq_eq_false rfl) (px_get_ne (Nat.ne_of_beq_eq_false rfl) (px_get_ne (Nat.ne_of_beq_eq_false rfl) (px_get_ne (Nat.ne_of_beq_eq_false rfl) (px_get_lt (pl_99 a2 a3 a4) (Nat.le_of_ble_eq_true rfl) (px_get_ne (Nat.ne_of_beq_eq_false rfl) (px_get_ne (Nat.ne_of_beq_eq_false rfl) (px_get_ne (Nat.ne_of_beq_eq_false rfl) (px_get_ne (Nat.ne_of_beq_eq_false rfl) (px_get_ne (Nat.ne_of_beq_eq_false rfl) (px_get_ne (Nat.ne_of_beq_eq_false rfl) (px_get_ne (Nat.ne_of_beq_eq_false rfl) (px_get_ne (Nat.ne_of_beq_eq_false rfl) (px_get_ne (Nat.ne_of_beq_eq_false rfl) (px_get_ne (Nat.ne_of_beq_eq_false rfl) (px_get_ne (Nat.ne_of_beq_eq_false rfl) (px_get_ne (Nat.ne_of_beq_eq_false rfl) pg_104))))))))))))))))))))))))))
set_option maxRecDepth 100000 in
theorem pg_301 (a2 a3 a4 : Int32) : (ph_122 a2 a3 a4)[141]? = some (.inr (7, [.int 6, .int 1, .ref 142])) := (px_get_ne (Nat.ne_of_beq_eq_false rfl) (px_get_ne (Nat.ne_of_beq_eq_false rfl) (px_get_ne (Nat.ne_of_beq_eq_false rfl) (px_get_ne (Nat.ne_of_beq_eq_false rfl) (px_get_ne (Nat.ne_of_beq_eq_false rfl) (px_get_eq (pl_107 a2 a3 a4) (Nat.le_of_ble_eq_true rfl)))))))
set_option maxRecDepth 100000 in
theorem pg_302 (a2 a3 a4 : Int32) : (ph_122 a2 a3 a4)[142]? = some (.inl (0, .inl ([0] ++ [3] ++ [a2] ++ [a3] ++ [a4] ++ [1] ++ List.replicate 90 0))) := (px_get_ne (Nat.ne_of_beq_eq_false rfl) (px_get_ne (Nat.ne_of_beq_eq_false rfl) (px_get_ne (Nat.ne_of_beq_eq_false rfl) (px_get_ne (Nat.ne_of_beq_eq_false rfl) (px_get_ne (Nat.ne_of_beq_eq_false rfl) (px_get_ne (Nat.ne_of_beq_eq_false rfl) (px_get_eq (pl_106 a2 a3 a4) (Nat.le_of_ble_eq_true rfl))))))))
set_option maxRecDepth 100000 in
theorem pg_303 (a2 a3 a4 : Int32) : (ph_122 a2 a3 a4)[136]? = some (.inr (10, [.ref 137, .int 0, .int 0, .ref 138, .ref 151, .long 0])) := (px_get_ne (Nat.ne_of_beq_eq_false rfl) (px_get_ne (Nat.ne_of_beq_eq_false rfl) (pg_292 a2 a3 a4)))
set_option maxRecDepth 100000 in
theorem pg_304 (a2 a3 a4 : Int32) : (ph_122 a2 a3 a4)[164]? = some (.inl (2, .inr (.inl ([0])))) := (px_get_ne (Nat.ne_of_beq_eq_false rfl) (px_get_ne (Nat.ne_of_beq_eq_false rfl) (px_get_ne (Nat.ne_of_beq_eq_false rfl) (px_get_ne (Nat.ne_of_beq_eq_false rfl) (px_get_ne (Nat.ne_of_beq_eq_false rfl) (px_get_ne (Nat.ne_of_beq_eq_false rfl) (px_get_ne (Nat.ne_of_beq_eq_false rfl) (px_get_ne (Nat.ne_of_beq_eq_false rfl) (px_get_ne (Nat.ne_of_beq_eq_false rfl) (px_get_ne (Nat.ne_of_beq_eq_false rfl) (px_get_ne (Nat.ne_of_beq_eq_false rfl) (px_get_ne (Nat.ne_of_beq_eq_false rfl) (px_get_ne (Nat.ne_of_beq_eq_false rfl) (px_get_lt (pl_99 a2 a3 a4) (Nat.le_of_ble_eq_true rfl) (px_get_ne (Nat.ne_of_beq_eq_false rfl) (px_get_eq (pl_97 a2 a3 a4) (Nat.le_of_ble_eq_true rfl)))))))))))))))))
set_option maxRecDepth 100000 in
theorem pg_305 : ph_123[93]? = some (.inr (2, [.int 0, .int 0, .ref 94, .ref 95, .ref 96, .ref 97, .ref 98])) := (px_get_ne (Nat.ne_of_beq_eq_false rfl) pg_26)
set_option maxRecDepth 100000 in
theorem pl_112 : ph_123.length = 165 := px_len_set pl_0
set_option maxRecDepth 100000 in
theorem pg_306 : ph_124[93]? = some (.inr (2, [.int 1, .int 0, .ref 94, .ref 95, .ref 96, .ref 97, .ref 98])) := (px_get_eq pl_112 (Nat.le_of_ble_eq_true rfl))
set_option maxRecDepth 100000 in
theorem pl_113 : ph_124.length = 165 := px_len_set pl_112
set_option maxRecDepth 100000 in
theorem pg_307 : ph_125[93]? = some (.inr (2, [.int 1, .int 1, .ref 94, .ref 95, .ref 96, .ref 97, .ref 98])) := (px_get_eq pl_113 (Nat.le_of_ble_eq_true rfl))
set_option maxRecDepth 100000 in
theorem pg_308 : ph_125[95]? = some (.inl (1, .inl (List.replicate 48 0))) := (px_get_ne (Nat.ne_of_beq_eq_false rfl) (px_get_ne (Nat.ne_of_beq_eq_false rfl) (px_get_ne (Nat.ne_of_beq_eq_false rfl) pg_32)))
set_option maxRecDepth 100000 in
theorem pg_309 : ph_126[93]? = some (.inr (2, [.int 1, .int 1, .ref 94, .ref 95, .ref 96, .ref 97, .ref 98])) := (px_get_ne (Nat.ne_of_beq_eq_false rfl) pg_307)
set_option maxRecDepth 100000 in
theorem pg_310 : ph_126[96]? = some (.inl (0, .inl (List.replicate 144 0))) := (px_get_ne (Nat.ne_of_beq_eq_false rfl) (px_get_ne (Nat.ne_of_beq_eq_false rfl) (px_get_ne (Nat.ne_of_beq_eq_false rfl) (px_get_ne (Nat.ne_of_beq_eq_false rfl) pg_35))))
set_option maxRecDepth 100000 in
theorem pg_311 (a2 : Int32) : (ph_127 a2)[93]? = some (.inr (2, [.int 1, .int 1, .ref 94, .ref 95, .ref 96, .ref 97, .ref 98])) := (px_get_ne (Nat.ne_of_beq_eq_false rfl) pg_309)
set_option maxRecDepth 100000 in
theorem pl_114 : ph_125.length = 165 := px_len_set pl_113
set_option maxRecDepth 100000 in
theorem pl_115 : ph_126.length = 165 := px_len_set pl_114
set_option maxRecDepth 100000 in
theorem pg_312 (a2 : Int32) : (ph_127 a2)[96]? = some (.inl (0, .inl (List.replicate 72 0 ++ [a2] ++ List.replicate 71 0))) := (px_get_eq pl_115 (Nat.le_of_ble_eq_true rfl))
set_option maxRecDepth 100000 in
theorem pg_313 (a2 a3 : Int32) : (ph_128 a2 a3)[93]? = some (.inr (2, [.int 1, .int 1, .ref 94, .ref 95, .ref 96, .ref 97, .ref 98])) := (px_get_ne (Nat.ne_of_beq_eq_false rfl) (pg_311 a2))
set_option maxRecDepth 100000 in
theorem pl_116 (a2 : Int32) : (ph_127 a2).length = 165 := px_len_set pl_115
set_option maxRecDepth 100000 in
theorem pg_314 (a2 a3 : Int32) : (ph_128 a2 a3)[96]? = some (.inl (0, .inl (List.replicate 72 0 ++ [a2] ++ [a3] ++ List.replicate 70 0))) := (px_get_eq (pl_116 a2) (Nat.le_of_ble_eq_true rfl))
set_option maxRecDepth 100000 in
theorem pg_315 (a2 a3 a4 : Int32) : (ph_129 a2 a3 a4)[93]? = some (.inr (2, [.int 1, .int 1, .ref 94, .ref 95, .ref 96, .ref 97, .ref 98])) := (px_get_ne (Nat.ne_of_beq_eq_false rfl) (pg_313 a2 a3))
set_option maxRecDepth 100000 in
theorem pg_316 (a2 a3 a4 : Int32) : (ph_129 a2 a3 a4)[97]? = some (.inl (0, .inl (List.replicate 8 0))) := (px_get_ne (Nat.ne_of_beq_eq_false rfl) (px_get_ne (Nat.ne_of_beq_eq_false rfl) (px_get_ne (Nat.ne_of_beq_eq_false rfl) (px_get_ne (Nat.ne_of_beq_eq_false rfl) (px_get_ne (Nat.ne_of_beq_eq_false rfl) (px_get_ne (Nat.ne_of_beq_eq_false rfl) (px_get_ne (Nat.ne_of_beq_eq_false rfl) pg_28)))))))
set_option maxRecDepth 100000 in
theorem pg_317 (a2 a3 a4 : Int32) : (ph_129 a2 a3 a4)[98]? = some (.inl (0, .inl (List.replicate 48 0))) := (px_get_ne (Nat.ne_of_beq_eq_false rfl) (px_get_ne (Nat.ne_of_beq_eq_false rfl) (px_get_ne (Nat.ne_of_beq_eq_false rfl) (px_get_ne (Nat.ne_of_beq_eq_false rfl) (px_get_ne (Nat.ne_of_beq_eq_false rfl) (px_get_ne (Nat.ne_of_beq_eq_false rfl) (px_get_ne (Nat.ne_of_beq_eq_false rfl) pg_43)))))))
set_option maxRecDepth 100000 in
theorem pg_318 (a2 a3 a4 : Int32) : (ph_130 a2 a3 a4)[93]? = some (.inr (2, [.int 1, .int 1, .ref 94, .ref 95, .ref 96, .ref 97, .ref 98])) := (px_get_ne (Nat.ne_of_beq_eq_false rfl) (pg_315 a2 a3 a4))
set_option maxRecDepth 100000 in
theorem pg_319 (a2 a3 a4 : Int32) : (ph_130 a2 a3 a4)[97]? = some (.inl (0, .inl (List.replicate 8 0))) := (px_get_ne (Nat.ne_of_beq_eq_false rfl) (pg_316 a2 a3 a4))
set_option maxRecDepth 100000 in
theorem pg_320 (a2 a3 a4 : Int32) : (ph_131 a2 a3 a4)[92]? = some (.inr (5, [.ref 1, .ref 93, .ref 99, .ref 110, .int 0, .ref 111, .ref 112, .ref 113])) := (px_get_ne (Nat.ne_of_beq_eq_false rfl) (px_get_ne (Nat.ne_of_beq_eq_false rfl) (px_get_ne (Nat.ne_of_beq_eq_false rfl) (px_get_ne (Nat.ne_of_beq_eq_false rfl) (px_get_ne (Nat.ne_of_beq_eq_false rfl) (px_get_ne (Nat.ne_of_beq_eq_false rfl) (px_get_ne (Nat.ne_of_beq_eq_false rfl) (px_get_ne (Nat.ne_of_beq_eq_false rfl) (px_get_ne (Nat.ne_of_beq_eq_false rfl) pg_25)))))))))
set_option maxRecDepth 100000 in
theorem pg_321 (a2 a3 a4 : Int32) : (ph_131 a2 a3 a4)[93]? = some (.inr (2, [.int 1, .int 1, .ref 94, .ref 95, .ref 96, .ref 97, .ref 98])) := (px_get_ne (Nat.ne_of_beq_eq_false rfl) (pg_318 a2 a3 a4))
set_option maxRecDepth 100000 in
theorem pg_322 (a2 a3 a4 : Int32) : (ph_131 a2 a3 a4)[94]? = some (.inl (0, .inl (List.replicate 24 (-1) ++ [0] ++ List.replicate 23 (-1)))) := (px_get_ne (Nat.ne_of_beq_eq_false rfl) (px_get_ne (Nat.ne_of_beq_eq_false rfl) (px_get_ne (Nat.ne_of_beq_eq_false rfl) (px_get_ne (Nat.ne_of_beq_eq_false rfl) (px_get_ne (Nat.ne_of_beq_eq_false rfl) (px_get_ne (Nat.ne_of_beq_eq_false rfl) (px_get_ne (Nat.ne_of_beq_eq_false rfl) (px_get_ne (Nat.ne_of_beq_eq_false rfl) (px_get_eq pl_0 (Nat.le_of_ble_eq_true rfl))))))))))
set_option maxRecDepth 100000 in
theorem pg_323 (a2 a3 a4 : Int32) : (ph_131 a2 a3 a4)[95]? = some (.inl (1, .inl (List.replicate 48 0))) := (px_get_ne (Nat.ne_of_beq_eq_false rfl) (px_get_ne (Nat.ne_of_beq_eq_false rfl) (px_get_ne (Nat.ne_of_beq_eq_false rfl) (px_get_ne (Nat.ne_of_beq_eq_false rfl) (px_get_ne (Nat.ne_of_beq_eq_false rfl) (px_get_eq pl_114 (Nat.le_of_ble_eq_true rfl)))))))
set_option maxRecDepth 100000 in
theorem pg_324 (a2 a3 a4 : Int32) : (ph_132 a2 a3 a4)[92]? = some (.inr (5, [.ref 1, .ref 93, .ref 99, .ref 110, .int 0, .ref 111, .ref 112, .ref 113])) := (px_get_ne (Nat.ne_of_beq_eq_false rfl) (pg_320 a2 a3 a4))
set_option maxRecDepth 100000 in
theorem pg_325 (a2 a3 a4 : Int32) : (ph_132 a2 a3 a4)[93]? = some (.inr (2, [.int 1, .int 1, .ref 94, .ref 95, .ref 96, .ref 97, .ref 98])) := (px_get_ne (Nat.ne_of_beq_eq_false rfl) (pg_321 a2 a3 a4))
set_option maxRecDepth 100000 in
theorem pg_326 (a2 a3 a4 : Int32) : (ph_132 a2 a3 a4)[1]? = some (.inl (3, .inr (.inr ([some 2, some 17, some 32, some 47, some 62, some 77])))) := (px_get_ne (Nat.ne_of_beq_eq_false rfl) (px_get_ne (Nat.ne_of_beq_eq_false rfl) (px_get_ne (Nat.ne_of_beq_eq_false rfl) (px_get_ne (Nat.ne_of_beq_eq_false rfl) (px_get_ne (Nat.ne_of_beq_eq_false rfl) (px_get_ne (Nat.ne_of_beq_eq_false rfl) (px_get_ne (Nat.ne_of_beq_eq_false rfl) (px_get_ne (Nat.ne_of_beq_eq_false rfl) (px_get_ne (Nat.ne_of_beq_eq_false rfl) (px_get_ne (Nat.ne_of_beq_eq_false rfl) pg_5))))))))))
set_option maxRecDepth 100000 in
theorem pg_327 (a2 a3 a4 : Int32) : (ph_132 a2 a3 a4)[2]? = some (.inr (4, [.int 0, .int 0, .ref 3, .ref 11])) := (px_get_ne (Nat.ne_of_beq_eq_false rfl) (px_get_ne (Nat.ne_of_beq_eq_false rfl) (px_get_ne (Nat.ne_of_beq_eq_false rfl) (px_get_ne (Nat.ne_of_beq_eq_false rfl) (px_get_ne (Nat.ne_of_beq_eq_false rfl) (px_get_ne (Nat.ne_of_beq_eq_false rfl) (px_get_ne (Nat.ne_of_beq_eq_false rfl) (px_get_ne (Nat.ne_of_beq_eq_false rfl) (px_get_ne (Nat.ne_of_beq_eq_false rfl) (px_get_ne (Nat.ne_of_beq_eq_false rfl) pg_6))))))))))
set_option maxRecDepth 100000 in
theorem pg_328 (a2 a3 a4 : Int32) : (ph_132 a2 a3 a4)[17]? = some (.inr (4, [.int 0, .int 0, .ref 18, .ref 26])) := (px_get_ne (Nat.ne_of_beq_eq_false rfl) (px_get_ne (Nat.ne_of_beq_eq_false rfl) (px_get_ne (Nat.ne_of_beq_eq_false rfl) (px_get_ne (Nat.ne_of_beq_eq_false rfl) (px_get_ne (Nat.ne_of_beq_eq_false rfl) (px_get_ne (Nat.ne_of_beq_eq_false rfl) (px_get_ne (Nat.ne_of_beq_eq_false rfl) (px_get_ne (Nat.ne_of_beq_eq_false rfl) (px_get_ne (Nat.ne_of_beq_eq_false rfl) (px_get_ne (Nat.ne_of_beq_eq_false rfl) pg_55))))))))))
set_option maxRecDepth 100000 in
theorem pg_329 (a2 a3 a4 : Int32) : (ph_132 a2 a3 a4)[32]? = some (.inr (4, [.int 0, .int 0, .ref 33, .ref 41])) := (px_get_ne (Nat.ne_of_beq_eq_false rfl) (px_get_ne (Nat.ne_of_beq_eq_false rfl) (px_get_ne (Nat.ne_of_beq_eq_false rfl) (px_get_ne (Nat.ne_of_beq_eq_false rfl) (px_get_ne (Nat.ne_of_beq_eq_false rfl) (px_get_ne (Nat.ne_of_beq_eq_false rfl) (px_get_ne (Nat.ne_of_beq_eq_false rfl) (px_get_ne (Nat.ne_of_beq_eq_false rfl) (px_get_ne (Nat.ne_of_beq_eq_false rfl) (px_get_ne (Nat.ne_of_beq_eq_false rfl) pg_57))))))))))
set_option maxRecDepth 100000 in
theorem pg_330 (a2 a3 a4 : Int32) : (ph_132 a2 a3 a4)[47]? = some (.inr (4, [.int 0, .int 0, .ref 48, .ref 56])) := (px_get_ne (Nat.ne_of_beq_eq_false rfl) (px_get_ne (Nat.ne_of_beq_eq_false rfl) (px_get_ne (Nat.ne_of_beq_eq_false rfl) (px_get_ne (Nat.ne_of_beq_eq_false rfl) (px_get_ne (Nat.ne_of_beq_eq_false rfl) (px_get_ne (Nat.ne_of_beq_eq_false rfl) (px_get_ne (Nat.ne_of_beq_eq_false rfl) (px_get_ne (Nat.ne_of_beq_eq_false rfl) (px_get_ne (Nat.ne_of_beq_eq_false rfl) (px_get_ne (Nat.ne_of_beq_eq_false rfl) pg_59))))))))))
set_option maxRecDepth 100000 in
theorem pg_331 (a2 a3 a4 : Int32) : (ph_132 a2 a3 a4)[62]? = some (.inr (4, [.int 0, .int 0, .ref 63, .ref 71])) := (px_get_ne (Nat.ne_of_beq_eq_false rfl) (px_get_ne (Nat.ne_of_beq_eq_false rfl) (px_get_ne (Nat.ne_of_beq_eq_false rfl) (px_get_ne (Nat.ne_of_beq_eq_false rfl) (px_get_ne (Nat.ne_of_beq_eq_false rfl) (px_get_ne (Nat.ne_of_beq_eq_false rfl) (px_get_ne (Nat.ne_of_beq_eq_false rfl) (px_get_ne (Nat.ne_of_beq_eq_false rfl) (px_get_ne (Nat.ne_of_beq_eq_false rfl) (px_get_ne (Nat.ne_of_beq_eq_false rfl) pg_61))))))))))
set_option maxRecDepth 100000 in
theorem pg_332 (a2 a3 a4 : Int32) : (ph_132 a2 a3 a4)[77]? = some (.inr (4, [.int 0, .int 0, .ref 78, .ref 86])) := (px_get_ne (Nat.ne_of_beq_eq_false rfl) (px_get_ne (Nat.ne_of_beq_eq_false rfl) (px_get_ne (Nat.ne_of_beq_eq_false rfl) (px_get_ne (Nat.ne_of_beq_eq_false rfl) (px_get_ne (Nat.ne_of_beq_eq_false rfl) (px_get_ne (Nat.ne_of_beq_eq_false rfl) (px_get_ne (Nat.ne_of_beq_eq_false rfl) (px_get_ne (Nat.ne_of_beq_eq_false rfl) (px_get_ne (Nat.ne_of_beq_eq_false rfl) (px_get_ne (Nat.ne_of_beq_eq_false rfl) pg_63))))))))))
set_option maxRecDepth 100000 in
theorem pg_333 (a2 a3 a4 : Int32) : (ph_132 a2 a3 a4)[94]? = some (.inl (0, .inl (List.replicate 24 (-1) ++ [0] ++ List.replicate 23 (-1)))) := (px_get_ne (Nat.ne_of_beq_eq_false rfl) (pg_322 a2 a3 a4))
set_option maxRecDepth 100000 in
theorem pl_117 (a2 a3 : Int32) : (ph_128 a2 a3).length = 165 := px_len_set (pl_116 a2)
set_option maxRecDepth 100000 in
theorem pl_118 (a2 a3 a4 : Int32) : (ph_129 a2 a3 a4).length = 165 := px_len_set (pl_117 a2 a3)
set_option maxRecDepth 100000 in
theorem pl_119 (a2 a3 a4 : Int32) : (ph_130 a2 a3 a4).length = 165 := px_len_set (pl_118 a2 a3 a4)
set_option maxRecDepth 100000 in
theorem pl_120 (a2 a3 a4 : Int32) : (ph_131 a2 a3 a4).length = 165 := px_len_set (pl_119 a2 a3 a4)
set_option maxRecDepth 100000 in
theorem pg_334 (a2 a3 a4 : Int32) : (ph_132 a2 a3 a4)[95]? = some (.inl (1, .inl (List.replicate 24 0 ++ [1] ++ List.replicate 23 0))) := (px_get_eq (pl_120 a2 a3 a4) (Nat.le_of_ble_eq_true rfl))
set_option maxRecDepth 100000 in
theorem pg_335 (a2 a3 a4 : Int32) : (ph_132 a2 a3 a4)[164]? = some (.inl (2, .inr (.inl ([0])))) := (px_get_ne (Nat.ne_of_beq_eq_false rfl) (px_get_ne (Nat.ne_of_beq_eq_false rfl) (px_get_ne (Nat.ne_of_beq_eq_false rfl) (px_get_ne (Nat.ne_of_beq_eq_false rfl) (px_get_ne (Nat.ne_of_beq_eq_false rfl) (px_get_ne (Nat.ne_of_beq_eq_false rfl) (px_get_ne (Nat.ne_of_beq_eq_false rfl) (px_get_ne (Nat.ne_of_beq_eq_false rfl) (px_get_ne (Nat.ne_of_beq_eq_false rfl) (px_get_ne (Nat.ne_of_beq_eq_false rfl) pg_9))))))))))
set_option maxRecDepth 100000 in
theorem pg_336 (a2 a3 a4 : Int32) : (ph_133 a2 a3 a4)[136]? = some (.inr (10, [.ref 137, .int 0, .int 0, .ref 138, .ref 151, .long 0])) := (px_get_ne (Nat.ne_of_beq_eq_false rfl) (px_get_ne (Nat.ne_of_beq_eq_false rfl) (px_get_ne (Nat.ne_of_beq_eq_false rfl) (px_get_ne (Nat.ne_of_beq_eq_false rfl) (px_get_ne (Nat.ne_of_beq_eq_false rfl) (px_get_ne (Nat.ne_of_beq_eq_false rfl) (px_get_ne (Nat.ne_of_beq_eq_false rfl) (px_get_ne (Nat.ne_of_beq_eq_false rfl) (px_get_ne (Nat.ne_of_beq_eq_false rfl) (px_get_ne (Nat.ne_of_beq_eq_false rfl) (px_get_ne (Nat.ne_of_beq_eq_false rfl) pg_1)))))))))))
set_option maxRecDepth 100000 in
theorem pl_121 (a2 a3 a4 : Int32) : (ph_132 a2 a3 a4).length = 165 := px_len_set (pl_120 a2 a3 a4)
set_option maxRecDepth 100000 in
theorem pl_122 (a2 a3 a4 : Int32) : (ph_133 a2 a3 a4).length = 165 := px_len_set (pl_121 a2 a3 a4)
set_option maxRecDepth 100000 in
theorem pg_337 (a2 a3 a4 : Int32) : (ph_134 a2 a3 a4)[136]? = some (.inr (10, [.ref 137, .int 0, .int 0, .ref 138, .ref 151, .long 0])) := (px_get_eq (pl_122 a2 a3 a4) (Nat.le_of_ble_eq_true rfl))
set_option maxRecDepth 100000 in
theorem pg_338 (a2 a3 a4 : Int32) : (ph_134 a2 a3 a4)[138]? = some (.inr (9, [.int 0, .int 0, .int 0, .ref 139, .ref 140, .ref 141, .ref 143, .ref 145, .ref 147, .ref 149, .ref 150, .int 0, .ref 136])) := (px_get_ne (Nat.ne_of_beq_eq_false rfl) (px_get_ne (Nat.ne_of_beq_eq_false rfl) (px_get_ne (Nat.ne_of_beq_eq_false rfl) (px_get_ne (Nat.ne_of_beq_eq_false rfl) (px_get_ne (Nat.ne_of_beq_eq_false rfl) (px_get_ne (Nat.ne_of_beq_eq_false rfl) (px_get_ne (Nat.ne_of_beq_eq_false rfl) (px_get_ne (Nat.ne_of_beq_eq_false rfl) (px_get_ne (Nat.ne_of_beq_eq_false rfl) (px_get_ne (Nat.ne_of_beq_eq_false rfl) (px_get_ne (Nat.ne_of_beq_eq_false rfl) (px_get_ne (Nat.ne_of_beq_eq_false rfl) pg_70))))))))))))
set_option maxRecDepth 100000 in
theorem pg_339 (a2 a3 a4 : Int32) : (ph_134 a2 a3 a4)[141]? = some (.inr (7, [.int 6, .int 0, .ref 142])) := (px_get_ne (Nat.ne_of_beq_eq_false rfl) (px_get_ne (Nat.ne_of_beq_eq_false rfl) (px_get_ne (Nat.ne_of_beq_eq_false rfl) (px_get_ne (Nat.ne_of_beq_eq_false rfl) (px_get_ne (Nat.ne_of_beq_eq_false rfl) (px_get_ne (Nat.ne_of_beq_eq_false rfl) (px_get_ne (Nat.ne_of_beq_eq_false rfl) (px_get_ne (Nat.ne_of_beq_eq_false rfl) (px_get_ne (Nat.ne_of_beq_eq_false rfl) (px_get_ne (Nat.ne_of_beq_eq_false rfl) (px_get_ne (Nat.ne_of_beq_eq_false rfl) (px_get_ne (Nat.ne_of_beq_eq_false rfl) pg_72))))))))))))
set_option maxRecDepth 100000 in
theorem pl_123 (a2 a3 a4 : Int32) : (ph_134 a2 a3 a4).length = 165 := px_len_set (pl_122 a2 a3 a4)
set_option maxRecDepth 100000 in
theorem pg_340 (a2 a3 a4 : Int32) : (ph_135 a2 a3 a4)[138]? = some (.inr (9, [.int 0, .int 0, .int 0, .ref 139, .ref 140, .ref 141, .ref 143, .ref 145, .ref 147, .ref 149, .ref 150, .int 0, .ref 136])) := (px_get_lt (pl_123 a2 a3 a4) (Nat.le_of_ble_eq_true rfl) (pg_338 a2 a3 a4))
set_option maxRecDepth 100000 in
theorem pg_341 (a2 a3 a4 : Int32) : (ph_135 a2 a3 a4)[165]? = some (.inl (0, .inl (List.replicate 6 0))) := (px_get_ge (k := 0) (pl_123 a2 a3 a4) rfl rfl)
set_option maxRecDepth 100000 in
theorem pl_124 (a2 a3 a4 : Int32) : (ph_135 a2 a3 a4).length = 166 := px_len_app (pl_123 a2 a3 a4) rfl
set_option maxRecDepth 100000 in
theorem pg_342 (a2 a3 a4 : Int32) : (ph_136 a2 a3 a4)[165]? = some (.inl (0, .inl (List.replicate 6 0))) := (px_get_eq (pl_124 a2 a3 a4) (Nat.le_of_ble_eq_true rfl))
set_option maxRecDepth 100000 in
theorem pl_125 (a2 a3 a4 : Int32) : (ph_136 a2 a3 a4).length = 166 := px_len_set (pl_124 a2 a3 a4)
set_option maxRecDepth 100000 in
theorem pg_343 (a2 a3 a4 : Int32) : (ph_137 a2 a3 a4)[165]? = some (.inl (0, .inl ([0, 4, 0, 0, 0, 0]))) := (px_get_eq (pl_125 a2 a3 a4) (Nat.le_of_ble_eq_true rfl))
set_option maxRecDepth 100000 in
theorem pl_126 (a2 a3 a4 : Int32) : (ph_137 a2 a3 a4).length = 166 := px_len_set (pl_125 a2 a3 a4)
set_option maxRecDepth 100000 in
theorem pg_344 (a2 a3 a4 : Int32) : (ph_138 a2 a3 a4)[165]? = some (.inl (0, .inl ([0, 4, a2, 0, 0, 0]))) := (px_get_eq (pl_126 a2 a3 a4) (Nat.le_of_ble_eq_true rfl))
set_option maxRecDepth 100000 in
theorem pl_127 (a2 a3 a4 : Int32) : (ph_138 a2 a3 a4).length = 166 := px_len_set (pl_126 a2 a3 a4)
set_option maxRecDepth 100000 in
theorem pg_345 (a2 a3 a4 : Int32) : (ph_139 a2 a3 a4)[165]? = some (.inl (0, .inl ([0, 4, a2, a3, 0, 0]))) := (px_get_eq (pl_127 a2 a3 a4) (Nat.le_of_ble_eq_true rfl))
set_option maxRecDepth 100000 in
theorem pl_128 (a2 a3 a4 : Int32) : (ph_139 a2 a3 a4).length = 166 := px_len_set (pl_127 a2 a3 a4)
set_option maxRecDepth 100000 in
theorem pg_346 (a2 a3 a4 : Int32) : (ph_140 a2 a3 a4)[165]? = some (.inl (0, .inl ([0, 4, a2, a3, a4, 0]))) := (px_get_eq (pl_128 a2 a3 a4) (Nat.le_of_ble_eq_true rfl))
set_option maxRecDepth 100000 in
theorem pg_347 (a2 a3 a4 : Int32) : (ph_141 a2 a3 a4)[141]? = some (.inr (7, [.int 6, .int 0, .ref 142])) := (px_get_ne (Nat.ne_of_beq_eq_false rfl) (px_get_ne (Nat.ne_of_beq_eq_false rfl) (px_get_ne (Nat.ne_of_beq_eq_false rfl) (px_get_ne (Nat.ne_of_beq_eq_false rfl) (px_get_ne (Nat.ne_of_beq_eq_false rfl) (px_get_ne (Nat.ne_of_beq_eq_false rfl) (px_get_lt (pl_123 a2 a3 a4) (Nat.le_of_ble_eq_true rfl) (pg_339 a2 a3 a4))))))))
set_option maxRecDepth 100000 in
theorem pg_348 (a2 a3 a4 : Int32) : (ph_141 a2 a3 a4)[142]? = some (.inl (0, .inl (List.replicate 96 0))) := (px_get_ne (Nat.ne_of_beq_eq_false rfl) (px_get_ne (Nat.ne_of_beq_eq_false rfl) (px_get_ne (Nat.ne_of_beq_eq_false rfl) (px_get_ne (Nat.ne_of_beq_eq_false rfl) (px_get_ne (Nat.ne_of_beq_eq_false rfl) (px_get_ne (Nat.ne_of_beq_eq_false rfl) (px_get_lt (pl_123 a2 a3 a4) (Nat.le_of_ble_eq_true rfl) (px_get_ne (Nat.ne_of_beq_eq_false rfl) (px_get_ne (Nat.ne_of_beq_eq_false rfl) (px_get_ne (Nat.ne_of_beq_eq_false rfl) (px_get_ne (Nat.ne_of_beq_eq_false rfl) (px_get_ne (Nat.ne_of_beq_eq_false rfl) (px_get_ne (Nat.ne_of_beq_eq_false rfl) (px_get_ne (Nat.ne_of_beq_eq_false rfl) (px_get_ne (Nat.ne_of_beq_eq_false rfl) (px_get_ne (Nat.ne_of_beq_eq_false rfl) (px_get_ne (Nat.ne_of_beq_eq_false rfl) (px_get_ne (Nat.ne_of_beq_eq_false rfl) (px_get_ne (Nat.ne_of_beq_eq_false rfl) pg_82)))))))))))))))))))
set_option maxRecDepth 100000 in
theorem pl_129 (a2 a3 a4 : Int32) : (ph_140 a2 a3 a4).length = 166 := px_len_set (pl_128 a2 a3 a4)
set_option maxRecDepth 100000 in
theorem pg_349 (a2 a3 a4 : Int32) : (ph_141 a2 a3 a4)[165]? = some (.inl (0, .inl ([0, 4, a2, a3, a4, 1]))) := (px_get_eq (pl_129 a2 a3 a4) (Nat.le_of_ble_eq_true rfl))
set_option maxRecDepth 100000 in
theorem pg_350 (a2 a3 a4 : Int32) : (ph_142 a2 a3 a4)[141]? = some (.inr (7, [.int 6, .int 0, .ref 142])) := (px_get_ne (Nat.ne_of_beq_eq_false rfl) (pg_347 a2 a3 a4))
set_option maxRecDepth 100000 in
theorem pg_351 (a2 a3 a4 : Int32) : (ph_143 a2 a3 a4)[138]? = some (.inr (9, [.int 0, .int 0, .int 0, .ref 139, .ref 140, .ref 141, .ref 143, .ref 145, .ref 147, .ref 149, .ref 150, .int 0, .ref 136])) := (px_get_ne (Nat.ne_of_beq_eq_false rfl) (px_get_ne (Nat.ne_of_beq_eq_false rfl) (px_get_ne (Nat.ne_of_beq_eq_false rfl) (px_get_ne (Nat.ne_of_beq_eq_false rfl) (px_get_ne (Nat.ne_of_beq_eq_false rfl) (px_get_ne (Nat.ne_of_beq_eq_false rfl) (px_get_ne (Nat.ne_of_beq_eq_false rfl) (px_get_ne (Nat.ne_of_beq_eq_false rfl) (pg_340 a2 a3 a4)))))))))
set_option maxRecDepth 100000 in
theorem pl_130 (a2 a3 a4 : Int32) : (ph_141 a2 a3 a4).length = 166 := px_len_set (pl_129 a2 a3 a4)
set_option maxRecDepth 100000 in
theorem pl_131 (a2 a3 a4 : Int32) : (ph_142 a2 a3 a4).length = 166 := px_len_set (pl_130 a2 a3 a4)
set_option maxRecDepth 100000 in
theorem pl_132 (a2 a3 a4 : Int32) : (ph_143 a2 a3 a4).length = 166 := px_len_set (pl_131 a2 a3 a4)
set_option maxRecDepth 100000 in
theorem pg_352 (a2 a3 a4 : Int32) : (ph_144 a2 a3 a4)[138]? = some (.inr (9, [.int 1, .int 0, .int 0, .ref 139, .ref 140, .ref 141, .ref 143, .ref 145, .ref 147, .ref 149, .ref 150, .int 0, .ref 136])) := (px_get_eq (pl_132 a2 a3 a4) (Nat.le_of_ble_eq_true rfl))
set_option maxRecDepth 100000 in
theorem pg_353 (a2 a3 a4 : Int32) : (ph_144 a2 a3 a4)[136]? = some (.inr (10, [.ref 137, .int 0, .int 0, .ref 138, .ref 151, .long 0])) := (px_get_ne (Nat.ne_of_beq_eq_false rfl) (px_get_ne (Nat.ne_of_beq_eq_false rfl) (px_get_ne (Nat.ne_of_beq_eq_false rfl) (px_get_ne (Nat.ne_of_beq_eq_false rfl) (px_get_ne (Nat.ne_of_beq_eq_false rfl) (px_get_ne (Nat.ne_of_beq_eq_false rfl) (px_get_ne (Nat.ne_of_beq_eq_false rfl) (px_get_ne (Nat.ne_of_beq_eq_false rfl) (px_get_ne (Nat.ne_of_beq_eq_false rfl) (px_get_lt (pl_123 a2 a3 a4) (Nat.le_of_ble_eq_true rfl) (pg_337 a2 a3 a4)))))))))))
set_option maxRecDepth 100000 in
theorem pg_354 (a2 a3 a4 : Int32) : (ph_144 a2 a3 a4)[147]? = some (.inr (7, [.int 6, .int 0, .ref 148])) := (px_get_ne (Nat.ne_of_beq_eq_false rfl) (px_get_ne (Nat.ne_of_beq_eq_false rfl) (px_get_ne (Nat.ne_of_beq_eq_false rfl) (px_get_ne (Nat.ne_of_beq_eq_false rfl) (px_get_ne (Nat.ne_of_beq_eq_false rfl) (px_get_ne (Nat.ne_of_beq_eq_false rfl) (px_get_ne (Nat.ne_of_beq_eq_false rfl) (px_get_ne (Nat.ne_of_beq_eq_false rfl) (px_get_ne (Nat.ne_of_beq_eq_false rfl) (px_get_lt (pl_123 a2 a3 a4) (Nat.le_of_ble_eq_true rfl) (px_get_ne (Nat.ne_of_beq_eq_false rfl) (px_get_ne (Nat.ne_of_beq_eq_false rfl) (px_get_ne (Nat.ne_of_beq_eq_false rfl) (px_get_ne (Nat.ne_of_beq_eq_false rfl) (px_get_ne (Nat.ne_of_beq_eq_false rfl) (px_get_ne (Nat.ne_of_beq_eq_false rfl) (px_get_ne (Nat.ne_of_beq_eq_false rfl) (px_get_ne (Nat.ne_of_beq_eq_false rfl) (px_get_ne (Nat.ne_of_beq_eq_false rfl) (px_get_ne (Nat.ne_of_beq_eq_false rfl) (px_get_ne (Nat.ne_of_beq_eq_false rfl) (px_get_ne (Nat.ne_of_beq_eq_false rfl) pg_89))))))))))))))))))))))
set_option maxRecDepth 100000 in
theorem pg_355 (a2 a3 a4 : Int32) : (ph_145 a2 a3 a4)[138]? = some (.inr (9, [.int 1, .int 0, .int 0, .ref 139, .ref 140, .ref 141, .ref 143, .ref 145, .ref 147, .ref 149, .ref 150, .int 0, .ref 136])) := (px_get_ne (Nat.ne_of_beq_eq_false rfl) (pg_352 a2 a3 a4))
set_option maxRecDepth 100000 in
theorem pl_133 (a2 a3 a4 : Int32) : (ph_144 a2 a3 a4).length = 166 := px_len_set (pl_132 a2 a3 a4)
set_option maxRecDepth 100000 in
theorem pl_134 (a2 a3 a4 : Int32) : (ph_145 a2 a3 a4).length = 166 := px_len_set (pl_133 a2 a3 a4)
set_option maxRecDepth 100000 in
theorem pg_356 (a2 a3 a4 : Int32) : (ph_146 a2 a3 a4)[138]? = some (.inr (9, [.int 1, .int 0, .int 0, .ref 139, .ref 140, .ref 141, .ref 143, .ref 145, .ref 147, .ref 149, .ref 150, .int 0, .ref 136])) := (px_get_eq (pl_134 a2 a3 a4) (Nat.le_of_ble_eq_true rfl))
set_option maxRecDepth 100000 in
theorem pg_357 (a2 a3 a4 : Int32) : (ph_146 a2 a3 a4)[136]? = some (.inr (10, [.ref 137, .int 0, .int 0, .ref 138, .ref 151, .long 0])) := (px_get_ne (Nat.ne_of_beq_eq_false rfl) (px_get_ne (Nat.ne_of_beq_eq_false rfl) (pg_353 a2 a3 a4)))
set_option maxRecDepth 100000 in
theorem pg_358 (a2 a3 a4 : Int32) : (ph_146 a2 a3 a4)[147]? = some (.inr (7, [.int 6, .int 0, .ref 148])) := (px_get_ne (Nat.ne_of_beq_eq_false rfl) (px_get_eq (pl_133 a2 a3 a4) (Nat.le_of_ble_eq_true rfl)))
set_option maxRecDepth 100000 in
theorem pg_359 (a2 a3 a4 : Int32) : (ph_146 a2 a3 a4)[143]? = some (.inr (7, [.int 6, .int 0, .ref 144])) := (px_get_ne (Nat.ne_of_beq_eq_false rfl) (px_get_ne (Nat.ne_of_beq_eq_false rfl) (px_get_ne (Nat.ne_of_beq_eq_false rfl) (px_get_ne (Nat.ne_of_beq_eq_false rfl) (px_get_ne (Nat.ne_of_beq_eq_false rfl) (px_get_ne (Nat.ne_of_beq_eq_false rfl) (px_get_ne (Nat.ne_of_beq_eq_false rfl) (px_get_ne (Nat.ne_of_beq_eq_false rfl) (px_get_ne (Nat.ne_of_beq_eq_false rfl) (px_get_ne (Nat.ne_of_beq_eq_false rfl) (px_get_ne (Nat.ne_of_beq_eq_false rfl) (px_get_lt (pl_123 a2 a3 a4) (Nat.le_of_ble_eq_true rfl) (px_get_ne (Nat.ne_of_beq_eq_false rfl) (px_get_ne (Nat.ne_of_beq_eq_false rfl) (px_get_ne (Nat.ne_of_beq_eq_false rfl) (px_get_ne (Nat.ne_of_beq_eq_false rfl) (px_get_ne (Nat.ne_of_beq_eq_false rfl) (px_get_ne (Nat.ne_of_beq_eq_false rfl) (px_get_ne (Nat.ne_of_beq_eq_false rfl) (px_get_ne (Nat.ne_of_beq_eq_false rfl) (px_get_ne (Nat.ne_of_beq_eq_false rfl) (px_get_ne (Nat.ne_of_beq_eq_false rfl) (px_get_ne (Nat.ne_of_beq_eq_false rfl) (px_get_ne (Nat.ne_of_beq_eq_false rfl) pg_95))))))))))))))))))))))))
set_option maxRecDepth 100000 in
theorem pl_135 (a2 a3 a4 : Int32) : (ph_146 a2 a3 a4).length = 166 := px_len_set (pl_134 a2 a3 a4)
set_option maxRecDepth 100000 in
theorem pg_360 (a2 a3 a4 : Int32) : (ph_147 a2 a3 a4)[143]? = some (.inr (7, [.int 6, .int 0, .ref 144])) := (px_get_eq (pl_135 a2 a3 a4) (Nat.le_of_ble_eq_true rfl))
set_option maxRecDepth 100000 in
theorem pg_361 (a2 a3 a4 : Int32) : (ph_147 a2 a3 a4)[144]? = some (.inl (0, .inl (List.replicate 96 0))) := (px_get_ne (Nat.ne_of_beq_eq_false rfl) (px_get_ne (Nat.ne_of_beq_eq_false rfl) (px_get_ne (Nat.ne_of_beq_eq_false rfl) (px_get_ne (Nat.ne_of_beq_eq_false rfl) (px_get_ne (Nat.ne_of_beq_eq_false rfl) (px_get_ne (Nat.ne_of_beq_eq_false rfl) (px_get_ne (Nat.ne_of_beq_eq_false rfl) (px_get_ne (Nat.ne_of_beq_eq_false rfl) (px_get_ne (Nat.ne_of_beq_eq_false rfl) (px_get_ne (Nat.ne_of_beq_eq_false rfl) (px_get_ne (Nat.ne_of_beq_eq_false rfl) (px_get_ne (Nat.ne_of_beq_eq_false rfl) (px_get_lt (pl_123 a2 a3 a4) (Nat.le_of_ble_eq_true rfl) (px_get_ne (Nat.ne_of_beq_eq_false rfl) (px_get_ne (Nat.ne_of_beq_eq_false rfl) (px_get_ne (Nat.ne_of_beq_eq_false rfl) (px_get_ne (Nat.ne_of_beq_eq_false rfl) (px_get_ne (Nat.ne_of_beq_eq_false rfl) (px_get_ne (Nat.ne_of_beq_eq_false rfl) (px_get_ne (Nat.ne_of_beq_eq_false rfl) (px_get_ne (Nat.ne_of_beq_eq_false rfl) (px_get_ne (Nat.ne_of_beq_eq_false rfl) (px_get_ne (Nat.ne_of_beq_eq_false rfl) (px_get_ne (Nat.ne_of_beq_eq_false rfl) (px_get_ne (Nat.ne_of_beq_eq_false rfl) pg_98)))))))))))))))))))))))))
set_option maxRecDepth 100000 in
theorem pg_362 (a2 a3 a4 : Int32) : (ph_147 a2 a3 a4)[147]? = some (.inr (7, [.int 6, .int 0, .ref 148])) := (px_get_ne (Nat.ne_of_beq_eq_false rfl) (pg_358 a2 a3 a4))
set_option maxRecDepth 100000 in
theorem pg_363 (a2 a3 a4 : Int32) : (ph_147 a2 a3 a4)[148]? = some (.inl (0, .inl (List.replicate 96 0))) := (px_get_ne (Nat.ne_of_beq_eq_false rfl) (px_get_ne (Nat.ne_of_beq_eq_false rfl) (px_get_ne (Nat.ne_of_beq_eq_false rfl) (px_get_ne (Nat.ne_of_beq_eq_false rfl) (px_get_ne (Nat.ne_of_beq_eq_false rfl) (px_get_ne (Nat.ne_of_beq_eq_false rfl) (px_get_ne (Nat.ne_of_beq_eq_false rfl) (px_get_ne (Nat.ne_of_beq_eq_false rfl) (px_get_ne (Nat.ne_of_beq_eq_false rfl) (px_get_ne (Nat.ne_of_beq_eq_false rfl) (px_get_ne (Nat.ne_of_beq_eq_false rfl) (px_get_ne (Nat.ne_of_beq_eq_false rfl) (px_get_lt (pl_123 a2 a3 a4) (Nat.le_of_ble_eq_true rfl) (px_get_ne (Nat.ne_of_beq_eq_false rfl) (px_get_ne (Nat.ne_of_beq_eq_false rfl) (px_get_ne (Nat.ne_of_beq_eq_false rfl) (px_get_ne (Nat.ne_of_beq_eq_false rfl) (px_get_ne (Nat.ne_of_beq_eq_false rfl) (px_get_ne (Nat.ne_of_beq_eq_false rfl) (px_get_ne (Nat.ne_of_beq_eq_false rfl) (px_get_ne (Nat.ne_of_beq_eq_false rfl) (px_get_ne (Nat.ne_of_beq_eq_false rfl) (px_get_ne (Nat.ne_of_beq_eq_false rfl) (px_get_ne (Nat.ne_of_beq_eq_false rfl) (px_get_ne (Nat.ne_of_beq_eq_false rfl) pg_101)))))))))))))))))))))))))
set_option maxRecDepth 100000 in
theorem pg_364 (a2 a3 a4 : Int32) : (ph_148 a2 a3 a4)[138]? = some (.inr (9, [.int 1, .int 0, .int 0, .ref 139, .ref 140, .ref 141, .ref 143, .ref 145, .ref 147, .ref 149, .ref 150, .int 0, .ref 136])) := (px_get_ne (Nat.ne_of_beq_eq_false rfl) (px_get_ne (Nat.ne_of_beq_eq_false rfl) (pg_356 a2 a3 a4)))
set_option maxRecDepth 100000 in
theorem pg_365 (a2 a3 a4 : Int32) : (ph_148 a2 a3 a4)[145]? = some (.inr (7, [.int 2, .int 0, .ref 146])) := (px_get_ne (Nat.ne_of_beq_eq_false rfl) (px_get_ne (Nat.ne_of_beq_eq_false rfl) (px_get_ne (Nat.ne_of_beq_eq_false rfl) (px_get_ne (Nat.ne_of_beq_eq_false rfl) (px_get_ne (Nat.ne_of_beq_eq_false rfl) (px_get_ne (Nat.ne_of_beq_eq_false rfl) (px_get_ne (Nat.ne_of_beq_eq_false rfl) (px_get_ne (Nat.ne_of_beq_eq_false rfl) (px_get_ne (Nat.ne_of_beq_eq_false rfl) (px_get_ne (Nat.ne_of_beq_eq_false rfl) (px_get_ne (Nat.ne_of_beq_eq_false rfl) (px_get_ne (Nat.ne_of_beq_eq_false rfl) (px_get_ne (Nat.ne_of_beq_eq_false rfl) (px_get_lt (pl_123 a2 a3 a4) (Nat.le_of_ble_eq_true rfl) (px_get_ne (Nat.ne_of_beq_eq_false rfl) (px_get_ne (Nat.ne_of_beq_eq_false rfl) (px_get_ne (Nat.ne_of_beq_eq_false rfl) (px_get_ne (Nat.ne_of_beq_eq_false rfl) (px_get_ne (Nat.ne_of_beq_eq_false rfl) (px_get_ne (Nat.ne_of_beq_eq_false rfl) (px_get_ne (Nat.ne_of_beq_eq_false rfl) (px_get_ne (Nat.ne_of_beq_eq_false rfl) (px_get_ne (Nat.ne_of_beq_eq_false rfl) (px_get_ne (Nat.ne_of_beq_eq_false rfl) (px_get_ne (Nat.ne_of_beq_eq_false rfl) (px_get_ne (Nat.ne_of_beq_eq_false rfl) pg_104))))))))))))))))))))))))))
set_option maxRecDepth 100000 in
theorem pg_366 (a2 a3 a4 : Int32) : (ph_148 a2 a3 a4)[141]? = some (.inr (7, [.int 6, .int 1, .ref 142])) := (px_get_ne (Nat.ne_of_beq_eq_false rfl) (px_get_ne (Nat.ne_of_beq_eq_false rfl) (px_get_ne (Nat.ne_of_beq_eq_false rfl) (px_get_ne (Nat.ne_of_beq_eq_false rfl) (px_get_ne (Nat.ne_of_beq_eq_false rfl) (px_get_eq (pl_131 a2 a3 a4) (Nat.le_of_ble_eq_true rfl)))))))
set_option maxRecDepth 100000 in
theorem pg_367 (a2 a3 a4 : Int32) : (ph_148 a2 a3 a4)[142]? = some (.inl (0, .inl ([0] ++ [4] ++ [a2] ++ [a3] ++ [a4] ++ [1] ++ List.replicate 90 0))) := (px_get_ne (Nat.ne_of_beq_eq_false rfl) (px_get_ne (Nat.ne_of_beq_eq_false rfl) (px_get_ne (Nat.ne_of_beq_eq_false rfl) (px_get_ne (Nat.ne_of_beq_eq_false rfl) (px_get_ne (Nat.ne_of_beq_eq_false rfl) (px_get_ne (Nat.ne_of_beq_eq_false rfl) (px_get_eq (pl_130 a2 a3 a4) (Nat.le_of_ble_eq_true rfl))))))))
set_option maxRecDepth 100000 in
theorem pg_368 (a2 a3 a4 : Int32) : (ph_148 a2 a3 a4)[136]? = some (.inr (10, [.ref 137, .int 0, .int 0, .ref 138, .ref 151, .long 0])) := (px_get_ne (Nat.ne_of_beq_eq_false rfl) (px_get_ne (Nat.ne_of_beq_eq_false rfl) (pg_357 a2 a3 a4)))
set_option maxRecDepth 100000 in
theorem pg_369 (a2 a3 a4 : Int32) : (ph_148 a2 a3 a4)[164]? = some (.inl (2, .inr (.inl ([0])))) := (px_get_ne (Nat.ne_of_beq_eq_false rfl) (px_get_ne (Nat.ne_of_beq_eq_false rfl) (px_get_ne (Nat.ne_of_beq_eq_false rfl) (px_get_ne (Nat.ne_of_beq_eq_false rfl) (px_get_ne (Nat.ne_of_beq_eq_false rfl) (px_get_ne (Nat.ne_of_beq_eq_false rfl) (px_get_ne (Nat.ne_of_beq_eq_false rfl) (px_get_ne (Nat.ne_of_beq_eq_false rfl) (px_get_ne (Nat.ne_of_beq_eq_false rfl) (px_get_ne (Nat.ne_of_beq_eq_false rfl) (px_get_ne (Nat.ne_of_beq_eq_false rfl) (px_get_ne (Nat.ne_of_beq_eq_false rfl) (px_get_ne (Nat.ne_of_beq_eq_false rfl) (px_get_lt (pl_123 a2 a3 a4) (Nat.le_of_ble_eq_true rfl) (px_get_ne (Nat.ne_of_beq_eq_false rfl) (px_get_eq (pl_121 a2 a3 a4) (Nat.le_of_ble_eq_true rfl)))))))))))))))))
set_option maxRecDepth 100000 in
theorem pg_370 : ph_149[93]? = some (.inr (2, [.int 0, .int 0, .ref 94, .ref 95, .ref 96, .ref 97, .ref 98])) := (px_get_ne (Nat.ne_of_beq_eq_false rfl) pg_26)
set_option maxRecDepth 100000 in
theorem pl_136 : ph_149.length = 165 := px_len_set pl_0
set_option maxRecDepth 100000 in
theorem pg_371 : ph_150[93]? = some (.inr (2, [.int 1, .int 0, .ref 94, .ref 95, .ref 96, .ref 97, .ref 98])) := (px_get_eq pl_136 (Nat.le_of_ble_eq_true rfl))
set_option maxRecDepth 100000 in
theorem pl_137 : ph_150.length = 165 := px_len_set pl_136
set_option maxRecDepth 100000 in
theorem pg_372 : ph_151[93]? = some (.inr (2, [.int 1, .int 1, .ref 94, .ref 95, .ref 96, .ref 97, .ref 98])) := (px_get_eq pl_137 (Nat.le_of_ble_eq_true rfl))
set_option maxRecDepth 100000 in
theorem pg_373 : ph_151[95]? = some (.inl (1, .inl (List.replicate 48 0))) := (px_get_ne (Nat.ne_of_beq_eq_false rfl) (px_get_ne (Nat.ne_of_beq_eq_false rfl) (px_get_ne (Nat.ne_of_beq_eq_false rfl) pg_32)))
set_option maxRecDepth 100000 in
theorem pg_374 : ph_152[93]? = some (.inr (2, [.int 1, .int 1, .ref 94, .ref 95, .ref 96, .ref 97, .ref 98])) := (px_get_ne (Nat.ne_of_beq_eq_false rfl) pg_372)
set_option maxRecDepth 100000 in
theorem pg_375 : ph_152[96]? = some (.inl (0, .inl (List.replicate 144 0))) := (px_get_ne (Nat.ne_of_beq_eq_false rfl) (px_get_ne (Nat.ne_of_beq_eq_false rfl) (px_get_ne (Nat.ne_of_beq_eq_false rfl) (px_get_ne (Nat.ne_of_beq_eq_false rfl) pg_35))))
set_option maxRecDepth 100000 in
theorem pg_376 (a2 : Int32) : (ph_153 a2)[93]? = some (.inr (2, [.int 1, .int 1, .ref 94, .ref 95, .ref 96, .ref 97, .ref 98])) := (px_get_ne (Nat.ne_of_beq_eq_false rfl) pg_374)
set_option maxRecDepth 100000 in
theorem pl_138 : ph_151.length = 165 := px_len_set pl_137
set_option maxRecDepth 100000 in
theorem pl_139 : ph_152.length = 165 := px_len_set pl_138
set_option maxRecDepth 100000 in
theorem pg_377 (a2 : Int32) : (ph_153 a2)[96]? = some (.inl (0, .inl (List.replicate 90 0 ++ [a2] ++ List.replicate 53 0))) := (px_get_eq pl_139 (Nat.le_of_ble_eq_true rfl))
set_option maxRecDepth 100000 in
theorem pg_378 (a2 a3 : Int32) : (ph_154 a2 a3)[93]? = some (.inr (2, [.int 1, .int 1, .ref 94, .ref 95, .ref 96, .ref 97, .ref 98])) := (px_get_ne (Nat.ne_of_beq_eq_false rfl) (pg_376 a2))
set_option maxRecDepth 100000 in
theorem pl_140 (a2 : Int32) : (ph_153 a2).length = 165 := px_len_set pl_139
set_option maxRecDepth 100000 in
theorem pg_379 (a2 a3 : Int32) : (ph_154 a2 a3)[96]? = some (.inl (0, .inl (List.replicate 90 0 ++ [a2] ++ [a3] ++ List.replicate 52 0))) := (px_get_eq (pl_140 a2) (Nat.le_of_ble_eq_true rfl))
set_option maxRecDepth 100000 in
theorem pg_380 (a2 a3 a4 : Int32) : (ph_155 a2 a3 a4)[93]? = some (.inr (2, [.int 1, .int 1, .ref 94, .ref 95, .ref 96, .ref 97, .ref 98])) := (px_get_ne (Nat.ne_of_beq_eq_false rfl) (pg_378 a2 a3))
set_option maxRecDepth 100000 in
theorem pg_381 (a2 a3 a4 : Int32) : (ph_155 a2 a3 a4)[97]? = some (.inl (0, .inl (List.replicate 8 0))) := (px_get_ne (Nat.ne_of_beq_eq_false rfl) (px_get_ne (Nat.ne_of_beq_eq_false rfl) (px_get_ne (Nat.ne_of_beq_eq_false rfl) (px_get_ne (Nat.ne_of_beq_eq_false rfl) (px_get_ne (Nat.ne_of_beq_eq_false rfl) (px_get_ne (Nat.ne_of_beq_eq_false rfl) (px_get_ne (Nat.ne_of_beq_eq_false rfl) pg_28)))))))
set_option maxRecDepth 100000 in
theorem pg_382 (a2 a3 a4 : Int32) : (ph_155 a2 a3 a4)[98]? = some (.inl (0, .inl (List.replicate 48 0))) := (px_get_ne (Nat.ne_of_beq_eq_false rfl) (px_get_ne (Nat.ne_of_beq_eq_false rfl) (px_get_ne (Nat.ne_of_beq_eq_false rfl) (px_get_ne (Nat.ne_of_beq_eq_false rfl) (px_get_ne (Nat.ne_of_beq_eq_false rfl) (px_get_ne (Nat.ne_of_beq_eq_false rfl) (px_get_ne (Nat.ne_of_beq_eq_false rfl) pg_43)))))))
set_option maxRecDepth 100000 in
theorem pg_383 (a2 a3 a4 : Int32) : (ph_156 a2 a3 a4)[93]? = some (.inr (2, [.int 1, .int 1, .ref 94, .ref 95, .ref 96, .ref 97, .ref 98])) := (px_get_ne (Nat.ne_of_beq_eq_false rfl) (pg_380 a2 a3 a4))
set_option maxRecDepth 100000 in
theorem pg_384 (a2 a3 a4 : Int32) : (ph_156 a2 a3 a4)[97]? = some (.inl (0, .inl (List.replicate 8 0))) := (px_get_ne (Nat.ne_of_beq_eq_false rfl) (pg_381 a2 a3 a4))
set_option maxRecDepth 100000 in
theorem pg_385 (a2 a3 a4 : Int32) : (ph_157 a2 a3 a4)[92]? = some (.inr (5, [.ref 1, .ref 93, .ref 99, .ref 110, .int 0, .ref 111, .ref 112, .ref 113])) := (px_get_ne (Nat.ne_of_beq_eq_false rfl) (px_get_ne (Nat.ne_of_beq_eq_false rfl) (px_get_ne (Nat.ne_of_beq_eq_false rfl) (px_get_ne (Nat.ne_of_beq_eq_false rfl) (px_get_ne (Nat.ne_of_beq_eq_false rfl) (px_get_ne (Nat.ne_of_beq_eq_false rfl) (px_get_ne (Nat.ne_of_beq_eq_false rfl) (px_get_ne (Nat.ne_of_beq_eq_false rfl) (px_get_ne (Nat.ne_of_beq_eq_false rfl) pg_25)))))))))
set_option maxRecDepth 100000 in
theorem pg_386 (a2 a3 a4 : Int32) : (ph_157 a2 a3 a4)[93]? = some (.inr (2, [.int 1, .int 1, .ref 94, .ref 95, .ref 96, .ref 97, .ref 98])) := (px_get_ne (Nat.ne_of_beq_eq_false rfl) (pg_383 a2 a3 a4))
set_option maxRecDepth 100000 in
theorem pg_387 (a2 a3 a4 : Int32) : (ph_157 a2 a3 a4)[94]? = some (.inl (0, .inl (List.replicate 30 (-1) ++ [0] ++ List.replicate 17 (-1)))) := (px_get_ne (Nat.ne_of_beq_eq_false rfl) (px_get_ne (Nat.ne_of_beq_eq_false rfl) (px_get_ne (Nat.ne_of_beq_eq_false rfl) (px_get_ne (Nat.ne_of_beq_eq_false rfl) (px_get_ne (Nat.ne_of_beq_eq_false rfl) (px_get_ne (Nat.ne_of_beq_eq_false rfl) (px_get_ne (Nat.ne_of_beq_eq_false rfl) (px_get_ne (Nat.ne_of_beq_eq_false rfl) (px_get_eq pl_0 (Nat.le_of_ble_eq_true rfl))))))))))
set_option maxRecDepth 100000 in
theorem pg_388 (a2 a3 a4 : Int32) : (ph_157 a2 a3 a4)[95]? = some (.inl (1, .inl (List.replicate 48 0))) := (px_get_ne (Nat.ne_of_beq_eq_false rfl) (px_get_ne (Nat.ne_of_beq_eq_false rfl) (px_get_ne (Nat.ne_of_beq_eq_false rfl) (px_get_ne (Nat.ne_of_beq_eq_false rfl) (px_get_ne (Nat.ne_of_beq_eq_false rfl) (px_get_eq pl_138 (Nat.le_of_ble_eq_true rfl)))))))
set_option maxRecDepth 100000 in
theorem pg_389 (a2 a3 a4 : Int32) : (ph_158 a2 a3 a4)[92]? = some (.inr (5, [.ref 1, .ref 93, .ref 99, .ref 110, .int 0, .ref 111, .ref 112, .ref 113])) := (px_get_ne (Nat.ne_of_beq_eq_false rfl) (pg_385 a2 a3 a4))
set_option maxRecDepth 100000 in
theorem pg_390 (a2 a3 a4 : Int32) : (ph_158 a2 a3 a4)[93]? = some (.inr (2, [.int 1, .int 1, .ref 94, .ref 95, .ref 96, .ref 97, .ref 98])) := (px_get_ne (Nat.ne_of_beq_eq_false rfl) (pg_386 a2 a3 a4))
set_option maxRecDepth 100000 in
theorem pg_391 (a2 a3 a4 : Int32) : (ph_158 a2 a3 a4)[1]? = some (.inl (3, .inr (.inr ([some 2, some 17, some 32, some 47, some 62, some 77])))) := (px_get_ne (Nat.ne_of_beq_eq_false rfl) (px_get_ne (Nat.ne_of_beq_eq_false rfl) (px_get_ne (Nat.ne_of_beq_eq_false rfl) (px_get_ne (Nat.ne_of_beq_eq_false rfl) (px_get_ne (Nat.ne_of_beq_eq_false rfl) (px_get_ne (Nat.ne_of_beq_eq_false rfl) (px_get_ne (Nat.ne_of_beq_eq_false rfl) (px_get_ne (Nat.ne_of_beq_eq_false rfl) (px_get_ne (Nat.ne_of_beq_eq_false rfl) (px_get_ne (Nat.ne_of_beq_eq_false rfl) pg_5))))))))))
set_option maxRecDepth 100000 in
theorem pg_392 (a2 a3 a4 : Int32) : (ph_158 a2 a3 a4)[2]? = some (.inr (4, [.int 0, .int 0, .ref 3, .ref 11])) := (px_get_ne (Nat.ne_of_beq_eq_false rfl) (px_get_ne (Nat.ne_of_beq_eq_false rfl) (px_get_ne (Nat.ne_of_beq_eq_false rfl) (px_get_ne (Nat.ne_of_beq_eq_false rfl) (px_get_ne (Nat.ne_of_beq_eq_false rfl) (px_get_ne (Nat.ne_of_beq_eq_false rfl) (px_get_ne (Nat.ne_of_beq_eq_false rfl) (px_get_ne (Nat.ne_of_beq_eq_false rfl) (px_get_ne (Nat.ne_of_beq_eq_false rfl) (px_get_ne (Nat.ne_of_beq_eq_false rfl) pg_6))))))))))
set_option maxRecDepth 100000 in
theorem pg_393 (a2 a3 a4 : Int32) : (ph_158 a2 a3 a4)[17]? = some (.inr (4, [.int 0, .int 0, .ref 18, .ref 26])) := (px_get_ne (Nat.ne_of_beq_eq_false rfl) (px_get_ne (Nat.ne_of_beq_eq_false rfl) (px_get_ne (Nat.ne_of_beq_eq_false rfl) (px_get_ne (Nat.ne_of_beq_eq_false rfl) (px_get_ne (Nat.ne_of_beq_eq_false rfl) (px_get_ne (Nat.ne_of_beq_eq_false rfl) (px_get_ne (Nat.ne_of_beq_eq_false rfl) (px_get_ne (Nat.ne_of_beq_eq_false rfl) (px_get_ne (Nat.ne_of_beq_eq_false rfl) (px_get_ne (Nat.ne_of_beq_eq_false rfl) pg_55))))))))))
set_option maxRecDepth 100000 in
theorem pg_394 (a2 a3 a4 : Int32) : (ph_158 a2 a3 a4)[32]? = some (.inr (4, [.int 0, .int 0, .ref 33, .ref 41])) := (px_get_ne (Nat.ne_of_beq_eq_false rfl) (px_get_ne (Nat.ne_of_beq_eq_false rfl) (px_get_ne (Nat.ne_of_beq_eq_false rfl) (px_get_ne (Nat.ne_of_beq_eq_false rfl) (px_get_ne (Nat.ne_of_beq_eq_false rfl) (px_get_ne (Nat.ne_of_beq_eq_false rfl) (px_get_ne (Nat.ne_of_beq_eq_false rfl) (px_get_ne (Nat.ne_of_beq_eq_false rfl) (px_get_ne (Nat.ne_of_beq_eq_false rfl) (px_get_ne (Nat.ne_of_beq_eq_false rfl) pg_57))))))))))
set_option maxRecDepth 100000 in
theorem pg_395 (a2 a3 a4 : Int32) : (ph_158 a2 a3 a4)[47]? = some (.inr (4, [.int 0, .int 0, .ref 48, .ref 56])) := (px_get_ne (Nat.ne_of_beq_eq_false rfl) (px_get_ne (Nat.ne_of_beq_eq_false rfl) (px_get_ne (Nat.ne_of_beq_eq_false rfl) (px_get_ne (Nat.ne_of_beq_eq_false rfl) (px_get_ne (Nat.ne_of_beq_eq_false rfl) (px_get_ne (Nat.ne_of_beq_eq_false rfl) (px_get_ne (Nat.ne_of_beq_eq_false rfl) (px_get_ne (Nat.ne_of_beq_eq_false rfl) (px_get_ne (Nat.ne_of_beq_eq_false rfl) (px_get_ne (Nat.ne_of_beq_eq_false rfl) pg_59))))))))))
set_option maxRecDepth 100000 in
theorem pg_396 (a2 a3 a4 : Int32) : (ph_158 a2 a3 a4)[62]? = some (.inr (4, [.int 0, .int 0, .ref 63, .ref 71])) := (px_get_ne (Nat.ne_of_beq_eq_false rfl) (px_get_ne (Nat.ne_of_beq_eq_false rfl) (px_get_ne (Nat.ne_of_beq_eq_false rfl) (px_get_ne (Nat.ne_of_beq_eq_false rfl) (px_get_ne (Nat.ne_of_beq_eq_false rfl) (px_get_ne (Nat.ne_of_beq_eq_false rfl) (px_get_ne (Nat.ne_of_beq_eq_false rfl) (px_get_ne (Nat.ne_of_beq_eq_false rfl) (px_get_ne (Nat.ne_of_beq_eq_false rfl) (px_get_ne (Nat.ne_of_beq_eq_false rfl) pg_61))))))))))
set_option maxRecDepth 100000 in
theorem pg_397 (a2 a3 a4 : Int32) : (ph_158 a2 a3 a4)[77]? = some (.inr (4, [.int 0, .int 0, .ref 78, .ref 86])) := (px_get_ne (Nat.ne_of_beq_eq_false rfl) (px_get_ne (Nat.ne_of_beq_eq_false rfl) (px_get_ne (Nat.ne_of_beq_eq_false rfl) (px_get_ne (Nat.ne_of_beq_eq_false rfl) (px_get_ne (Nat.ne_of_beq_eq_false rfl) (px_get_ne (Nat.ne_of_beq_eq_false rfl) (px_get_ne (Nat.ne_of_beq_eq_false rfl) (px_get_ne (Nat.ne_of_beq_eq_false rfl) (px_get_ne (Nat.ne_of_beq_eq_false rfl) (px_get_ne (Nat.ne_of_beq_eq_false rfl) pg_63))))))))))
set_option maxRecDepth 100000 in
theorem pg_398 (a2 a3 a4 : Int32) : (ph_158 a2 a3 a4)[94]? = some (.inl (0, .inl (List.replicate 30 (-1) ++ [0] ++ List.replicate 17 (-1)))) := (px_get_ne (Nat.ne_of_beq_eq_false rfl) (pg_387 a2 a3 a4))
set_option maxRecDepth 100000 in
theorem pl_141 (a2 a3 : Int32) : (ph_154 a2 a3).length = 165 := px_len_set (pl_140 a2)
set_option maxRecDepth 100000 in
theorem pl_142 (a2 a3 a4 : Int32) : (ph_155 a2 a3 a4).length = 165 := px_len_set (pl_141 a2 a3)
set_option maxRecDepth 100000 in
theorem pl_143 (a2 a3 a4 : Int32) : (ph_156 a2 a3 a4).length = 165 := px_len_set (pl_142 a2 a3 a4)
set_option maxRecDepth 100000 in
theorem pl_144 (a2 a3 a4 : Int32) : (ph_157 a2 a3 a4).length = 165 := px_len_set (pl_143 a2 a3 a4)
set_option maxRecDepth 100000 in
theorem pg_399 (a2 a3 a4 : Int32) : (ph_158 a2 a3 a4)[95]? = some (.inl (1, .inl (List.replicate 30 0 ++ [1] ++ List.replicate 17 0))) := (px_get_eq (pl_144 a2 a3 a4) (Nat.le_of_ble_eq_true rfl))
set_option maxRecDepth 100000 in
theorem pg_400 (a2 a3 a4 : Int32) : (ph_158 a2 a3 a4)[164]? = some (.inl (2, .inr (.inl ([0])))) := (px_get_ne (Nat.ne_of_beq_eq_false rfl) (px_get_ne (Nat.ne_of_beq_eq_false rfl) (px_get_ne (Nat.ne_of_beq_eq_false rfl) (px_get_ne (Nat.ne_of_beq_eq_false rfl) (px_get_ne (Nat.ne_of_beq_eq_false rfl) (px_get_ne (Nat.ne_of_beq_eq_false rfl) (px_get_ne (Nat.ne_of_beq_eq_false rfl) (px_get_ne (Nat.ne_of_beq_eq_false rfl) (px_get_ne (Nat.ne_of_beq_eq_false rfl) (px_get_ne (Nat.ne_of_beq_eq_false rfl) pg_9))))))))))
set_option maxRecDepth 100000 in
theorem pg_401 (a2 a3 a4 : Int32) : (ph_159 a2 a3 a4)[136]? = some (.inr (10, [.ref 137, .int 0, .int 0, .ref 138, .ref 151, .long 0])) := (px_get_ne (Nat.ne_of_beq_eq_false rfl) (px_get_ne (Nat.ne_of_beq_eq_false rfl) (px_get_ne (Nat.ne_of_beq_eq_false rfl) (px_get_ne (Nat.ne_of_beq_eq_false rfl) (px_get_ne (Nat.ne_of_beq_eq_false rfl) (px_get_ne (Nat.ne_of_beq_eq_false rfl) (px_get_ne (Nat.ne_of_beq_eq_false rfl) (px_get_ne (Nat.ne_of_beq_eq_false rfl) (px_get_ne (Nat.ne_of_beq_eq_false rfl) (px_get_ne (Nat.ne_of_beq_eq_false rfl) (px_get_ne (Nat.ne_of_beq_eq_false rfl) pg_1)))))))))))
set_option maxRecDepth 100000 in
theorem pl_145 (a2 a3 a4 : Int32) : (ph_158 a2 a3 a4).length = 165 := px_len_set (pl_144 a2 a3 a4)
set_option maxRecDepth 100000 in
theorem pl_146 (a2 a3 a4 : Int32) : (ph_159 a2 a3 a4).length = 165 := px_len_set (pl_145 a2 a3 a4)
set_option maxRecDepth 100000 in
theorem pg_402 (a2 a3 a4 : Int32) : (ph_160 a2 a3 a4)[136]? = some (.inr (10, [.ref 137, .int 0, .int 0, .ref 138, .ref 151, .long 0])) := (px_get_eq (pl_146 a2 a3 a4) (Nat.le_of_ble_eq_true rfl))
set_option maxRecDepth 100000 in
theorem pg_403 (a2 a3 a4 : Int32) : (ph_160 a2 a3 a4)[138]? = some (.inr (9, [.int 0, .int 0, .int 0, .ref 139, .ref 140, .ref 141, .ref 143, .ref 145, .ref 147, .ref 149, .ref 150, .int 0, .ref 136])) := (px_get_ne (Nat.ne_of_beq_eq_false rfl) (px_get_ne (Nat.ne_of_beq_eq_false rfl) (px_get_ne (Nat.ne_of_beq_eq_false rfl) (px_get_ne (Nat.ne_of_beq_eq_false rfl) (px_get_ne (Nat.ne_of_beq_eq_false rfl) (px_get_ne (Nat.ne_of_beq_eq_false rfl) (px_get_ne (Nat.ne_of_beq_eq_false rfl) (px_get_ne (Nat.ne_of_beq_eq_false rfl) (px_get_ne (Nat.ne_of_beq_eq_false rfl) (px_get_ne (Nat.ne_of_beq_eq_false rfl) (px_get_ne (Nat.ne_of_beq_eq_false rfl) (px_get_ne (Nat.ne_of_beq_eq_false rfl) pg_70))))))))))))
set_option maxRecDepth 100000 in
theorem pg_404 (a2 a3 a4 : Int32) : (ph_160 a2 a3 a4)[141]? = some (.inr (7, [.int 6, .int 0, .ref 142])) := (px_get_ne (Nat.ne_of_beq_eq_false rfl) (px_get_ne (Nat.ne_of_beq_eq_false rfl) (px_get_ne (Nat.ne_of_beq_eq_false rfl) (px_get_ne (Nat.ne_of_beq_eq_false rfl) (px_get_ne (Nat.ne_of_beq_eq_false rfl) (px_get_ne (Nat.ne_of_beq_eq_false rfl) (px_get_ne (Nat.ne_of_beq_eq_false rfl) (px_get_ne (Nat.ne_of_beq_eq_false rfl) (px_get_ne (Nat.ne_of_beq_eq_false rfl) (px_get_ne (Nat.ne_of_beq_eq_false rfl) (px_get_ne (Nat.ne_of_beq_eq_false rfl) (px_get_ne (Nat.ne_of_beq_eq_false rfl) pg_72))))))))))))
set_option maxRecDepth 100000 in
theorem pl_147 (a2 a3 a4 : Int32) : (ph_160 a2 a3 a4).length = 165 := px_len_set (pl_146 a2 a3 a4)
set_option maxRecDepth 100000 in
theorem pg_405 (a2 a3 a4 : Int32) : (ph_161 a2 a3 a4)[138]? = some (.inr (9, [.int 0, .int 0, .int 0, .ref 139, .ref 140, .ref 141, .ref 143, .ref 145, .ref 147, .ref 149, .ref 150, .int 0, .ref 136])) := (px_get_lt (pl_147 a2 a3 a4) (Nat.le_of_ble_eq_true rfl) (pg_403 a2 a3 a4))
set_option maxRecDepth 100000 in
theorem pg_406 (a2 a3 a4 : Int32) : (ph_161 a2 a3 a4)[165]? = some (.inl (0, .inl (List.replicate 6 0))) := (px_get_ge (k := 0) (pl_147 a2 a3 a4) rfl rfl)
set_option maxRecDepth 100000 in
theorem pl_148 (a2 a3 a4 : Int32) : (ph_161 a2 a3 a4).length = 166 := px_len_app (pl_147 a2 a3 a4) rfl
set_option maxRecDepth 100000 in
theorem pg_407 (a2 a3 a4 : Int32) : (ph_162 a2 a3 a4)[165]? = some (.inl (0, .inl (List.replicate 6 0))) := (px_get_eq (pl_148 a2 a3 a4) (Nat.le_of_ble_eq_true rfl))
set_option maxRecDepth 100000 in
theorem pl_149 (a2 a3 a4 : Int32) : (ph_162 a2 a3 a4).length = 166 := px_len_set (pl_148 a2 a3 a4)
set_option maxRecDepth 100000 in
theorem pg_408 (a2 a3 a4 : Int32) : (ph_163 a2 a3 a4)[165]? = some (.inl (0, .inl ([0, 5, 0, 0, 0, 0]))) := (px_get_eq (pl_149 a2 a3 a4) (Nat.le_of_ble_eq_true rfl))
set_option maxRecDepth 100000 in
theorem pl_150 (a2 a3 a4 : Int32) : (ph_163 a2 a3 a4).length = 166 := px_len_set (pl_149 a2 a3 a4)
set_option maxRecDepth 100000 in
theorem pg_409 (a2 a3 a4 : Int32) : (ph_164 a2 a3 a4)[165]? = some (.inl (0, .inl ([0, 5, a2, 0, 0, 0]))) := (px_get_eq (pl_150 a2 a3 a4) (Nat.le_of_ble_eq_true rfl))
set_option maxRecDepth 100000 in
theorem pl_151 (a2 a3 a4 : Int32) : (ph_164 a2 a3 a4).length = 166 := px_len_set (pl_150 a2 a3 a4)
set_option maxRecDepth 100000 in
theorem pg_410 (a2 a3 a4 : Int32) : (ph_165 a2 a3 a4)[165]? = some (.inl (0, .inl ([0, 5, a2, a3, 0, 0]))) := (px_get_eq (pl_151 a2 a3 a4) (Nat.le_of_ble_eq_true rfl))
set_option maxRecDepth 100000 in
theorem pl_152 (a2 a3 a4 : Int32) : (ph_165 a2 a3 a4).length = 166 := px_len_set (pl_151 a2 a3 a4)
set_option maxRecDepth 100000 in
theorem pg_411 (a2 a3 a4 : Int32) : (ph_166 a2 a3 a4)[165]? = some (.inl (0, .inl ([0, 5, a2, a3, a4, 0]))) := (px_get_eq (pl_152 a2 a3 a4) (Nat.le_of_ble_eq_true rfl))
set_option maxRecDepth 100000 in
theorem pg_412 (a2 a3 a4 : Int32) : (ph_167 a2 a3 a4)[141]? = some (.inr (7, [.int 6, .int 0, .ref 142])) := (px_get_ne (Nat.ne_of_beq_eq_false rfl) (px_get_ne (Nat.ne_of_beq_eq_false rfl) (px_get_ne (Nat.ne_of_beq_eq_false rfl) (px_get_ne (Nat.ne_of_beq_eq_false rfl) (px_get_ne (Nat.ne_of_beq_eq_false rfl) (px_get_ne (Nat.ne_of_beq_eq_false rfl) (px_get_lt (pl_147 a2 a3 a4) (Nat.le_of_ble_eq_true rfl) (pg_404 a2 a3 a4))))))))
set_option maxRecDepth 100000 in
theorem pg_413 (a2 a3 a4 : Int32) : (ph_167 a2 a3 a4)[142]? = some (.inl (0, .inl (List.replicate 96 0))) := (px_get_ne (Nat.ne_of_beq_eq_false rfl) (px_get_ne (Nat.ne_of_beq_eq_false rfl) (px_get_ne (Nat.ne_of_beq_eq_false rfl) (px_get_ne (Nat.ne_of_beq_eq_false rfl) (px_get_ne (Nat.ne_of_beq_eq_false rfl) (px_get_ne (Nat.ne_of_beq_eq_false rfl) (px_get_lt (pl_147 a2 a3 a4) (Nat.le_of_ble_eq_true rfl) (px_get_ne (Nat.ne_of_beq_eq_false rfl) (px_get_ne (Nat.ne_of_beq_eq_false rfl) (px_get_ne (Nat.ne_of_beq_eq_false rfl) (px_get_ne (Nat.ne_of_beq_eq_false rfl) (px_get_ne (Nat.ne_of_beq_eq_false rfl) (px_get_ne (Nat.ne_of_beq_eq_false rfl) (px_get_ne (Nat.ne_of_beq_eq_false rfl) (px_get_ne (Nat.ne_of_beq_eq_false rfl) (px_get_ne (Nat.ne_of_beq_eq_false rfl) (px_get_ne (Nat.ne_of_beq_eq_false rfl) (px_get_ne (Nat.ne_of_beq_eq_false rfl) (px_get_ne (Nat.ne_of_beq_eq_false rfl) pg_82)))))))))))))))))))
set_option maxRecDepth 100000 in
theorem pl_153 (a2 a3 a4 : Int32) : (ph_166 a2 a3 a4).length = 166 := px_len_set (pl_152 a2 a3 a4)
set_option maxRecDepth 100000 in
theorem pg_414 (a2 a3 a4 : Int32) : (ph_167 a2 a3 a4)[165]? = some (.inl (0, .inl ([0, 5, a2, a3, a4, 1]))) := (px_get_eq (pl_153 a2 a3 a4) (Nat.le_of_ble_eq_true rfl))
set_option maxRecDepth 100000 in
theorem pg_415 (a2 a3 a4 : Int32) : (ph_168 a2 a3 a4)[141]? = some (.inr (7, [.int 6, .int 0, .ref 142])) := (px_get_ne (Nat.ne_of_beq_eq_false rfl) (pg_412 a2 a3 a4))
set_option maxRecDepth 100000 in
theorem pg_416 (a2 a3 a4 : Int32) : (ph_169 a2 a3 a4)[138]? = some (.inr (9, [.int 0, .int 0, .int 0, .ref 139, .ref 140, .ref 141, .ref 143, .ref 145, .ref 147, .ref 149, .ref 150, .int 0, .ref 136])) := (px_get_ne (Nat.ne_of_beq_eq_false rfl) (px_get_ne (Nat.ne_of_beq_eq_false rfl) (px_get_ne (Nat.ne_of_beq_eq_false rfl) (px_get_ne (Nat.ne_of_beq_eq_false rfl) (px_get_ne (Nat.ne_of_beq_eq_false rfl) (px_get_ne (Nat.ne_of_beq_eq_false rfl) (px_get_ne (Nat.ne_of_beq_eq_false rfl) (px_get_ne (Nat.ne_of_beq_eq_false rfl) (pg_405 a2 a3 a4)))))))))
set_option maxRecDepth 100000 in
theorem pl_154 (a2 a3 a4 : Int32) : (ph_167 a2 a3 a4).length = 166 := px_len_set (pl_153 a2 a3 a4)
set_option maxRecDepth 100000 in
theorem pl_155 (a2 a3 a4 : Int32) : (ph_168 a2 a3 a4).length = 166 := px_len_set (pl_154 a2 a3 a4)
set_option maxRecDepth 100000 in
theorem pl_156 (a2 a3 a4 : Int32) : (ph_169 a2 a3 a4).length = 166 := px_len_set (pl_155 a2 a3 a4)
set_option maxRecDepth 100000 in
theorem pg_417 (a2 a3 a4 : Int32) : (ph_170 a2 a3 a4)[138]? = some (.inr (9, [.int 1, .int 0, .int 0, .ref 139, .ref 140, .ref 141, .ref 143, .ref 145, .ref 147, .ref 149, .ref 150, .int 0, .ref 136])) := (px_get_eq (pl_156 a2 a3 a4) (Nat.le_of_ble_eq_true rfl))
set_option maxRecDepth 100000 in
theorem pg_418 (a2 a3 a4 : Int32) : (ph_170 a2 a3 a4)[136]? = some (.inr (10, [.ref 137, .int 0, .int 0, .ref 138, .ref 151, .long 0])) := (px_get_ne (Nat.ne_of_beq_eq_false rfl) (px_get_ne (Nat.ne_of_beq_eq_false rfl) (px_get_ne (Nat.ne_of_beq_eq_false rfl) (px_get_ne (Nat.ne_of_beq_eq_false rfl) (px_get_ne (Nat.ne_of_beq_eq_false rfl) (px_get_ne (Nat.ne_of_beq_eq_false rfl) (px_get_ne (Nat.ne_of_beq_eq_false rfl) (px_get_ne (Nat.ne_of_beq_eq_false rfl) (px_get_ne (Nat.ne_of_beq_eq_false rfl) (px_get_lt (pl_147 a2 a3 a4) (Nat.le_of_ble_eq_true rfl) (pg_402 a2 a3 a4)))))))))))
set_option maxRecDepth 100000 in
theorem pg_419 (a2 a3 a4 : Int32) : (ph_170 a2 a3 a4)[147]? = some (.inr (7, [.int 6, .int 0, .ref 148])) := (px_get_ne (Nat.ne_of_beq_eq_false rfl) (px_get_ne (Nat.ne_of_beq_eq_false rfl) (px_get_ne (Nat.ne_of_beq_eq_false rfl) (px_get_ne (Nat.ne_of_beq_eq_false rfl) (px_get_ne (Nat.ne_of_beq_eq_false rfl) (px_get_ne (Nat.ne_of_beq_eq_false rfl) (px_get_ne (Nat.ne_of_beq_eq_false rfl) (px_get_ne (Nat.ne_of_beq_eq_false rfl) (px_get_ne (Nat.ne_of_beq_eq_false rfl) (px_get_lt (pl_147 a2 a3 a4) (Nat.le_of_ble_eq_true rfl) (px_get_ne (Nat.ne_of_beq_eq_false rfl) (px_get_ne (Nat.ne_of_beq_eq_false rfl) (px_get_ne (Nat.ne_of_beq_eq_false rfl) (px_get_ne (Nat.ne_of_beq_eq_false rfl) (px_get_ne (Nat.ne_of_beq_eq_false rfl) (px_get_ne (Nat.ne_of_beq_eq_false rfl) (px_get_ne (Nat.ne_of_beq_eq_false rfl) (px_get_ne (Nat.ne_of_beq_eq_false rfl) (px_get_ne (Nat.ne_of_beq_eq_false rfl) (px_get_ne (Nat.ne_of_beq_eq_false rfl) (px_get_ne (Nat.ne_of_beq_eq_false rfl) (px_get_ne (Nat.ne_of_beq_eq_false rfl) pg_89))))))))))))))))))))))
set_option maxRecDepth 100000 in
theorem pg_420 (a2 a3 a4 : Int32) : (ph_171 a2 a3 a4)[138]? = some (.inr (9, [.int 1, .int 0, .int 0, .ref 139, .ref 140, .ref 141, .ref 143, .ref 145, .ref 147, .ref 149, .ref 150, .int 0, .ref 136])) := (px_get_ne (Nat.ne_of_beq_eq_false rfl) (pg_417 a2 a3 a4))
set_option maxRecDepth 100000 in
theorem pl_157 (a2 a3 a4 : Int32) : (ph_170 a2 a3 a4).length = 166 := px_len_set (pl_156 a2 a3 a4)
set_option maxRecDepth 100000 in
theorem pl_158 (a2 a3 a4 : Int32) : (ph_171 a2 a3 a4).length = 166 := px_len_set (pl_157 a2 a3 a4)
set_option maxRecDepth 100000 in
theorem pg_421 (a2 a3 a4 : Int32) : (ph_172 a2 a3 a4)[138]? = some (.inr (9, [.int 1, .int 0, .int 0, .ref 139, .ref 140, .ref 141, .ref 143, .ref 145, .ref 147, .ref 149, .ref 150, .int 0, .ref 136])) := (px_get_eq (pl_158 a2 a3 a4) (Nat.le_of_ble_eq_true rfl))
set_option maxRecDepth 100000 in
theorem pg_422 (a2 a3 a4 : Int32) : (ph_172 a2 a3 a4)[136]? = some (.inr (10, [.ref 137, .int 0, .int 0, .ref 138, .ref 151, .long 0])) := (px_get_ne (Nat.ne_of_beq_eq_false rfl) (px_get_ne (Nat.ne_of_beq_eq_false rfl) (pg_418 a2 a3 a4)))
set_option maxRecDepth 100000 in
theorem pg_423 (a2 a3 a4 : Int32) : (ph_172 a2 a3 a4)[147]? = some (.inr (7, [.int 6, .int 0, .ref 148])) := (px_get_ne (Nat.ne_of_beq_eq_false rfl) (px_get_eq (pl_157 a2 a3 a4) (Nat.le_of_ble_eq_true rfl)))
set_option maxRecDepth 100000 in
theorem pg_424 (a2 a3 a4 : Int32) : (ph_172 a2 a3 a4)[143]? = some (.inr (7, [.int 6, .int 0, .ref 144])) := (px_get_ne (Nat.ne_of_beq_eq_false rfl) (px_get_ne (Nat.ne_of_beq_eq_false rfl) (px_get_ne (Nat.ne_of_beq_eq_false rfl) (px_get_ne (Nat.ne_of_beq_eq_false rfl) (px_get_ne (Nat.ne_of_beq_eq_false rfl) (px_get_ne (Nat.ne_of_beq_eq_false rfl) (px_get_ne (Nat.ne_of_beq_eq_false rfl) (px_get_ne (Nat.ne_of_beq_eq_false rfl) (px_get_ne (Nat.ne_of_beq_eq_false rfl) (px_get_ne (Nat.ne_of_beq_eq_false rfl) (px_get_ne (Nat.ne_of_beq_eq_false rfl) (px_get_lt (pl_147 a2 a3 a4) (Nat.le_of_ble_eq_true rfl) (px_get_ne (Nat.ne_of_beq_eq_false rfl) (px_get_ne (Nat.ne_of_beq_eq_false rfl) (px_get_ne (Nat.ne_of_beq_eq_false rfl) (px_get_ne (Nat.ne_of_beq_eq_false rfl) (px_get_ne (Nat.ne_of_beq_eq_false rfl) (px_get_ne (Nat.ne_of_beq_eq_false rfl) (px_get_ne (Nat.ne_of_beq_eq_false rfl) (px_get_ne (Nat.ne_of_beq_eq_false rfl) (px_get_ne (Nat.ne_of_beq_eq_false rfl) (px_get_ne (Nat.ne_of_beq_eq_false rfl) (px_get_ne (Nat.ne_of_beq_eq_false rfl) (px_get_ne (Nat.ne_of_beq_eq_false rfl) pg_95))))))))))))))))))))))))
set_option maxRecDepth 100000 in
theorem pl_159 (a2 a3 a4 : Int32) : (ph_172 a2 a3 a4).length = 166 := px_len_set (pl_158 a2 a3 a4)
set_option maxRecDepth 100000 in
theorem pg_425 (a2 a3 a4 : Int32) : (ph_173 a2 a3 a4)[143]? = some (.inr (7, [.int 6, .int 0, .ref 144])) := (px_get_eq (pl_159 a2 a3 a4) (Nat.le_of_ble_eq_true rfl))
set_option maxRecDepth 100000 in
theorem pg_426 (a2 a3 a4 : Int32) : (ph_173 a2 a3 a4)[144]? = some (.inl (0, .inl (List.replicate 96 0))) := (px_get_ne (Nat.ne_of_beq_eq_false rfl) (px_get_ne (Nat.ne_of_beq_eq_false rfl) (px_get_ne (Nat.ne_of_beq_eq_false rfl) (px_get_ne (Nat.ne_of_beq_eq_false rfl) (px_get_ne (Nat.ne_of_beq_eq_false rfl) (px_get_ne (Nat.ne_of_beq_eq_false rfl) (px_get_ne (Nat.ne_of_beq_eq_false rfl) (px_get_ne (Nat.ne_of_beq_eq_false rfl) (px_get_ne (Nat.ne_of_beq_eq_false rfl) (px_get_ne (Nat.ne_of_beq_eq_false rfl) (px_get_ne (Nat.ne_of_beq_eq_false rfl) (px_get_ne (Nat.ne_of_beq_eq_false rfl) (px_get_lt (pl_147 a2 a3 a4) (Nat.le_of_ble_eq_true rfl) (px_get_ne (Nat.ne_of_beq_eq_false rfl) (px_get_ne (Nat.ne_of_beq_eq_false rfl) (px_get_ne (Nat.ne_of_beq_eq_false rfl) (px_get_ne (Nat.ne_of_beq_eq_false rfl) (px_get_ne (Nat.ne_of_beq_eq_false rfl) (px_get_ne (Nat.ne_of_beq_eq_false rfl) (px_get_ne (Nat.ne_of_beq_eq_false rfl) (px_get_ne (Nat.ne_of_beq_eq_false rfl) (px_get_ne (Nat.ne_of_beq_eq_false rfl) (px_get_ne (Nat.ne_of_beq_eq_false rfl) (px_get_ne (Nat.ne_of_beq_eq_false rfl) (px_get_ne (Nat.ne_of_beq_eq_false rfl) pg_98)))))))))))))))))))))))))
set_option maxRecDepth 100000 in
theorem pg_427 (a2 a3 a4 : Int32) : (ph_173 a2 a3 a4)[147]? = some (.inr (7, [.int 6, .int 0, .ref 148])) := (px_get_ne (Nat.ne_of_beq_eq_false rfl) (pg_423 a2 a3 a4))
set_option maxRecDepth 100000 in
theorem pg_428 (a2 a3 a4 : Int32) : (ph_173 a2 a3 a4)[148]? = some (.inl (0, .inl (List.replicate 96 0))) := (px_get_ne (Nat.ne_of_beq_eq_false rfl) (px_get_ne (Nat.ne_of_beq_eq_false rfl) (px_get_ne (Nat.ne_of_beq_eq_false rfl) (px_get_ne (Nat.ne_of_beq_eq_false rfl) (px_get_ne (Nat.ne_of_beq_eq_false rfl) (px_get_ne (Nat.ne_of_beq_eq_false rfl) (px_get_ne (Nat.ne_of_beq_eq_false rfl) (px_get_ne (Nat.ne_of_beq_eq_false rfl) (px_get_ne (Nat.ne_of_beq_eq_false rfl) (px_get_ne (Nat.ne_of_beq_eq_false rfl) (px_get_ne (Nat.ne_of_beq_eq_false rfl) (px_get_ne (Nat.ne_of_beq_eq_false rfl) (px_get_lt (pl_147 a2 a3 a4) (Nat.le_of_ble_eq_true rfl) (px_get_ne (Nat.ne_of_beq_eq_false rfl) (px_get_ne (Nat.ne_of_beq_eq_false rfl) (px_get_ne (Nat.ne_of_beq_eq_false rfl) (px_get_ne (Nat.ne_of_beq_eq_false rfl) (px_get_ne (Nat.ne_of_beq_eq_false rfl) (px_get_ne (Nat.ne_of_beq_eq_false rfl) (px_get_ne (Nat.ne_of_beq_eq_false rfl) (px_get_ne (Nat.ne_of_beq_eq_false rfl) (px_get_ne (Nat.ne_of_beq_eq_false rfl) (px_get_ne (Nat.ne_of_beq_eq_false rfl) (px_get_ne (Nat.ne_of_beq_eq_false rfl) (px_get_ne (Nat.ne_of_beq_eq_false rfl) pg_101)))))))))))))))))))))))))
set_option maxRecDepth 100000 in
theorem pg_429 (a2 a3 a4 : Int32) : (ph_174 a2 a3 a4)[138]? = some (.inr (9, [.int 1, .int 0, .int 0, .ref 139, .ref 140, .ref 141, .ref 143, .ref 145, .ref 147, .ref 149, .ref 150, .int 0, .ref 136])) := (px_get_ne (Nat.ne_of_beq_eq_false rfl) (px_get_ne (Nat.ne_of_beq_eq_false rfl) (pg_421 a2 a3 a4)))
set_option maxRecDepth 100000 in
theorem pg_430 (a2 a3 a4 : Int32) : (ph_174 a2 a3 a4)[145]? = some (.inr (7, [.int 2, .int 0, .ref 146])) := (px_get_ne (Nat.ne_of_beq_eq_false rfl) (px_get_ne (Nat.ne_of_beq_eq_false rfl) (px_get_ne (Nat.ne_of_beq_eq_false rfl) (px_get_ne (Nat.ne_of_beq_eq_false rfl) (px_get_ne (Nat.ne_of_beq_eq_false rfl) (px_get_ne (Nat.ne_of_beq_eq_false rfl) (px_get_ne (Nat.ne_of_beq_eq_false rfl) (px_get_ne (Nat.ne_of_beq_eq_false rfl) (px_get_ne (Nat.ne_of_beq_eq_false rfl) (px_get_ne (Nat.ne_of_beq_eq_false rfl) (px_get_ne (Nat.ne_of_beq_eq_false rfl) (px_get_ne (Nat.ne_of_beq_eq_false rfl) (px_get_ne (Nat.ne_of_beq_eq_false rfl) (px_get_lt (pl_147 a2 a3 a4) (Nat.le_of_ble_eq_true rfl) (px_get_ne (Nat.ne_of_beq_eq_false rfl) (px_get_ne (Nat.ne_of_beq_eq_false rfl) (px_get_ne (Nat.ne_of_beq_eq_false rfl) (px_get_ne (Nat.ne_of_beq_eq_false rfl) (px_get_ne (Nat.ne_of_beq_eq_false rfl) (px_get_ne (Nat.ne_of_beq_eq_false rfl) (px_get_ne (Nat.ne_of_beq_eq_false rfl) (px_get_ne (Nat.ne_of_beq_eq_false rfl) (px_get_ne (Nat.ne_of_beq_eq_false rfl) (px_get_ne (Nat.ne_of_beq_eq_false rfl) (px_get_ne (Nat.ne_of_beq_eq_false rfl) (px_get_ne (Nat.ne_of_beq_eq_false rfl) pg_104))))))))))))))))))))))))))
set_option maxRecDepth 100000 in
theorem pg_431 (a2 a3 a4 : Int32) : (ph_174 a2 a3 a4)[141]? = some (.inr (7, [.int 6, .int 1, .ref 142])) := (px_get_ne (Nat.ne_of_beq_eq_false rfl) (px_get_ne (Nat.ne_of_beq_eq_false rfl) (px_get_ne (Nat.ne_of_beq_eq_false rfl) (px_get_ne (Nat.ne_of_beq_eq_false rfl) (px_get_ne (Nat.ne_of_beq_eq_false rfl) (px_get_eq (pl_155 a2 a3 a4) (Nat.le_of_ble_eq_true rfl)))))))
set_option maxRecDepth 100000 in
theorem pg_432 (a2 a3 a4 : Int32) : (ph_174 a2 a3 a4)[142]? = some (.inl (0, .inl ([0] ++ [5] ++ [a2] ++ [a3] ++ [a4] ++ [1] ++ List.replicate 90 0))) := (px_get_ne (Nat.ne_of_beq_eq_false rfl) (px_get_ne (Nat.ne_of_beq_eq_false rfl) (px_get_ne (Nat.ne_of_beq_eq_false rfl) (px_get_ne (Nat.ne_of_beq_eq_false rfl) (px_get_ne (Nat.ne_of_beq_eq_false rfl) (px_get_ne (Nat.ne_of_beq_eq_false rfl) (px_get_eq (pl_154 a2 a3 a4) (Nat.le_of_ble_eq_true rfl))))))))
set_option maxRecDepth 100000 in
theorem pg_433 (a2 a3 a4 : Int32) : (ph_174 a2 a3 a4)[136]? = some (.inr (10, [.ref 137, .int 0, .int 0, .ref 138, .ref 151, .long 0])) := (px_get_ne (Nat.ne_of_beq_eq_false rfl) (px_get_ne (Nat.ne_of_beq_eq_false rfl) (pg_422 a2 a3 a4)))
set_option maxRecDepth 100000 in
theorem pg_434 (a2 a3 a4 : Int32) : (ph_174 a2 a3 a4)[164]? = some (.inl (2, .inr (.inl ([0])))) := (px_get_ne (Nat.ne_of_beq_eq_false rfl) (px_get_ne (Nat.ne_of_beq_eq_false rfl) (px_get_ne (Nat.ne_of_beq_eq_false rfl) (px_get_ne (Nat.ne_of_beq_eq_false rfl) (px_get_ne (Nat.ne_of_beq_eq_false rfl) (px_get_ne (Nat.ne_of_beq_eq_false rfl) (px_get_ne (Nat.ne_of_beq_eq_false rfl) (px_get_ne (Nat.ne_of_beq_eq_false rfl) (px_get_ne (Nat.ne_of_beq_eq_false rfl) (px_get_ne (Nat.ne_of_beq_eq_false rfl) (px_get_ne (Nat.ne_of_beq_eq_false rfl) (px_get_ne (Nat.ne_of_beq_eq_false rfl) (px_get_ne (Nat.ne_of_beq_eq_false rfl) (px_get_lt (pl_147 a2 a3 a4) (Nat.le_of_ble_eq_true rfl) (px_get_ne (Nat.ne_of_beq_eq_false rfl) (px_get_eq (pl_145 a2 a3 a4) (Nat.le_of_ble_eq_true rfl)))))))))))))))))
set_option maxRecDepth 100000 in
theorem pg_435 : ph_175[93]? = some (.inr (2, [.int 0, .int 0, .ref 94, .ref 95, .ref 96, .ref 97, .ref 98])) := (px_get_ne (Nat.ne_of_beq_eq_false rfl) pg_26)
set_option maxRecDepth 100000 in
theorem pl_160 : ph_175.length = 165 := px_len_set pl_0
set_option maxRecDepth 100000 in
theorem pg_436 : ph_176[93]? = some (.inr (2, [.int 1, .int 0, .ref 94, .ref 95, .ref 96, .ref 97, .ref 98])) := (px_get_eq pl_160 (Nat.le_of_ble_eq_true rfl))
set_option maxRecDepth 100000 in
theorem pl_161 : ph_176.length = 165 := px_len_set pl_160
set_option maxRecDepth 100000 in
theorem pg_437 : ph_177[93]? = some (.inr (2, [.int 1, .int 1, .ref 94, .ref 95, .ref 96, .ref 97, .ref 98])) := (px_get_eq pl_161 (Nat.le_of_ble_eq_true rfl))
set_option maxRecDepth 100000 in
theorem pg_438 : ph_177[95]? = some (.inl (1, .inl (List.replicate 48 0))) := (px_get_ne (Nat.ne_of_beq_eq_false rfl) (px_get_ne (Nat.ne_of_beq_eq_false rfl) (px_get_ne (Nat.ne_of_beq_eq_false rfl) pg_32)))
set_option maxRecDepth 100000 in
theorem pg_439 : ph_178[93]? = some (.inr (2, [.int 1, .int 1, .ref 94, .ref 95, .ref 96, .ref 97, .ref 98])) := (px_get_ne (Nat.ne_of_beq_eq_false rfl) pg_437)
set_option maxRecDepth 100000 in
theorem pg_440 : ph_178[96]? = some (.inl (0, .inl (List.replicate 144 0))) := (px_get_ne (Nat.ne_of_beq_eq_false rfl) (px_get_ne (Nat.ne_of_beq_eq_false rfl) (px_get_ne (Nat.ne_of_beq_eq_false rfl) (px_get_ne (Nat.ne_of_beq_eq_false rfl) pg_35))))
set_option maxRecDepth 100000 in
theorem pg_441 (a2 : Int32) : (ph_179 a2)[93]? = some (.inr (2, [.int 1, .int 1, .ref 94, .ref 95, .ref 96, .ref 97, .ref 98])) := (px_get_ne (Nat.ne_of_beq_eq_false rfl) pg_439)
set_option maxRecDepth 100000 in
theorem pl_162 : ph_177.length = 165 := px_len_set pl_161
set_option maxRecDepth 100000 in
theorem pl_163 : ph_178.length = 165 := px_len_set pl_162
set_option maxRecDepth 100000 in
theorem pg_442 (a2 : Int32) : (ph_179 a2)[96]? = some (.inl (0, .inl (List.replicate 108 0 ++ [a2] ++ List.replicate 35 0))) := (px_get_eq pl_163 (Nat.le_of_ble_eq_true rfl))
set_option maxRecDepth 100000 in
theorem pg_443 (a2 a3 : Int32) : (ph_180 a2 a3)[93]? = some (.inr (2, [.int 1, .int 1, .ref 94, .ref 95, .ref 96, .ref 97, .ref 98])) := (px_get_ne (Nat.ne_of_beq_eq_false rfl) (pg_441 a2))
set_option maxRecDepth 100000 in
theorem pl_164 (a2 : Int32) : (ph_179 a2).length = 165 := px_len_set pl_163
set_option maxRecDepth 100000 in
theorem pg_444 (a2 a3 : Int32) : (ph_180 a2 a3)[96]? = some (.inl (0, .inl (List.replicate 108 0 ++ [a2] ++ [a3] ++ List.replicate 34 0))) := (px_get_eq (pl_164 a2) (Nat.le_of_ble_eq_true rfl))
set_option maxRecDepth 100000 in
theorem pg_445 (a2 a3 a4 : Int32) : (ph_181 a2 a3 a4)[93]? = some (.inr (2, [.int 1, .int 1, .ref 94, .ref 95, .ref 96, .ref 97, .ref 98])) := (px_get_ne (Nat.ne_of_beq_eq_false rfl) (pg_443 a2 a3))
set_option maxRecDepth 100000 in
theorem pg_446 (a2 a3 a4 : Int32) : (ph_181 a2 a3 a4)[97]? = some (.inl (0, .inl (List.replicate 8 0))) := (px_get_ne (Nat.ne_of_beq_eq_false rfl) (px_get_ne (Nat.ne_of_beq_eq_false rfl) (px_get_ne (Nat.ne_of_beq_eq_false rfl) (px_get_ne (Nat.ne_of_beq_eq_false rfl) (px_get_ne (Nat.ne_of_beq_eq_false rfl) (px_get_ne (Nat.ne_of_beq_eq_false rfl) (px_get_ne (Nat.ne_of_beq_eq_false rfl) pg_28)))))))
set_option maxRecDepth 100000 in
theorem pg_447 (a2 a3 a4 : Int32) : (ph_181 a2 a3 a4)[98]? = some (.inl (0, .inl (List.replicate 48 0))) := (px_get_ne (Nat.ne_of_beq_eq_false rfl) (px_get_ne (Nat.ne_of_beq_eq_false rfl) (px_get_ne (Nat.ne_of_beq_eq_false rfl) (px_get_ne (Nat.ne_of_beq_eq_false rfl) (px_get_ne (Nat.ne_of_beq_eq_false rfl) (px_get_ne (Nat.ne_of_beq_eq_false rfl) (px_get_ne (Nat.ne_of_beq_eq_false rfl) pg_43)))))))
set_option maxRecDepth 100000 in
theorem pg_448 (a2 a3 a4 : Int32) : (ph_182 a2 a3 a4)[93]? = some (.inr (2, [.int 1, .int 1, .ref 94, .ref 95, .ref 96, .ref 97, .ref 98])) := (px_get_ne (Nat.ne_of_beq_eq_false rfl) (pg_445 a2 a3 a4))
set_option maxRecDepth 100000 in
theorem pg_449 (a2 a3 a4 : Int32) : (ph_182 a2 a3 a4)[97]? = some (.inl (0, .inl (List.replicate 8 0))) := (px_get_ne (Nat.ne_of_beq_eq_false rfl) (pg_446 a2 a3 a4))
set_option maxRecDepth 100000 in
theorem pg_450 (a2 a3 a4 : Int32) : (ph_183 a2 a3 a4)[92]? = some (.inr (5, [.ref 1, .ref 93, .ref 99, .ref 110, .int 0, .ref 111, .ref 112, .ref 113])) := (px_get_ne (Nat.ne_of_beq_eq_false rfl) (px_get_ne (Nat.ne_of_beq_eq_false rfl) (px_get_ne (Nat.ne_of_beq_eq_false rfl) (px_get_ne (Nat.ne_of_beq_eq_false rfl) (px_get_ne (Nat.ne_of_beq_eq_false rfl) (px_get_ne (Nat.ne_of_beq_eq_false rfl) (px_get_ne (Nat.ne_of_beq_eq_false rfl) (px_get_ne (Nat.ne_of_beq_eq_false rfl) (px_get_ne (Nat.ne_of_beq_eq_false rfl) pg_25)))))))))
set_option maxRecDepth 100000 in
theorem pg_451 (a2 a3 a4 : Int32) : (ph_183 a2 a3 a4)[93]? = some (.inr (2, [.int 1, .int 1, .ref 94, .ref 95, .ref 96, .ref 97, .ref 98])) := (px_get_ne (Nat.ne_of_beq_eq_false rfl) (pg_448 a2 a3 a4))
set_option maxRecDepth 100000 in
theorem pg_452 (a2 a3 a4 : Int32) : (ph_183 a2 a3 a4)[94]? = some (.inl (0, .inl (List.replicate 36 (-1) ++ [0] ++ List.replicate 11 (-1)))) := (px_get_ne (Nat.ne_of_beq_eq_false rfl) (px_get_ne (Nat.ne_of_beq_eq_false rfl) (px_get_ne (Nat.ne_of_beq_eq_false rfl) (px_get_ne (Nat.ne_of_beq_eq_false rfl) (px_get_ne (Nat.ne_of_beq_eq_false rfl) (px_get_ne (Nat.ne_of_beq_eq_false rfl) (px_get_ne (Nat.ne_of_beq_eq_false rfl) (px_get_ne (Nat.ne_of_beq_eq_false rfl) (px_get_eq pl_0 (Nat.le_of_ble_eq_true rfl))))))))))
set_option maxRecDepth 100000 in
theorem pg_453 (a2 a3 a4 : Int32) : (ph_183 a2 a3 a4)[95]? = some (.inl (1, .inl (List.replicate 48 0))) := (px_get_ne (Nat.ne_of_beq_eq_false rfl) (px_get_ne (Nat.ne_of_beq_eq_false rfl) (px_get_ne (Nat.ne_of_beq_eq_false rfl) (px_get_ne (Nat.ne_of_beq_eq_false rfl) (px_get_ne (Nat.ne_of_beq_eq_false rfl) (px_get_eq pl_162 (Nat.le_of_ble_eq_true rfl)))))))
set_option maxRecDepth 100000 in
theorem pg_454 (a2 a3 a4 : Int32) : (ph_184 a2 a3 a4)[92]? = some (.inr (5, [.ref 1, .ref 93, .ref 99, .ref 110, .int 0, .ref 111, .ref 112, .ref 113])) := (px_get_ne (Nat.ne_of_beq_eq_false rfl) (pg_450 a2 a3 a4))
set_option maxRecDepth 100000 in
theorem pg_455 (a2 a3 a4 : Int32) : (ph_184 a2 a3 a4)[93]? = some (.inr (2, [.int 1, .int 1, .ref 94, .ref 95, .ref 96, .ref 97, .ref 98])) := (px_get_ne (Nat.ne_of_beq_eq_false rfl) (pg_451 a2 a3 a4))
set_option maxRecDepth 100000 in
theorem pg_456 (a2 a3 a4 : Int32) : (ph_184 a2 a3 a4)[1]? = some (.inl (3, .inr (.inr ([some 2, some 17, some 32, some 47, some 62, some 77])))) := (px_get_ne (Nat.ne_of_beq_eq_false rfl) (px_get_ne (Nat.ne_of_beq_eq_false rfl) (px_get_ne (Nat.ne_of_beq_eq_false rfl) (px_get_ne (Nat.ne_of_beq_eq_false rfl) (px_get_ne (Nat.ne_of_beq_eq_false rfl) (px_get_ne (Nat.ne_of_beq_eq_false rfl) (px_get_ne (Nat.ne_of_beq_eq_false rfl) (px_get_ne (Nat.ne_of_beq_eq_false rfl) (px_get_ne (Nat.ne_of_beq_eq_false rfl) (px_get_ne (Nat.ne_of_beq_eq_false rfl) pg_5))))))))))
set_option maxRecDepth 100000 in
theorem pg_457 (a2 a3 a4 : Int32) : (ph_184 a2 a3 a4)[2]? = some (.inr (4, [.int 0, .int 0, .ref 3, .ref 11])) := (px_get_ne (Nat.ne_of_beq_eq_false rfl) (px_get_ne (Nat.ne_of_beq_eq_false rfl) (px_get_ne (Nat.ne_of_beq_eq_false rfl) (px_get_ne (Nat.ne_of_beq_eq_false rfl) (px_get_ne (Nat.ne_of_beq_eq_false rfl) (px_get_ne (Nat.ne_of_beq_eq_false rfl) (px_get_ne (Nat.ne_of_beq_eq_false rfl) (px_get_ne (Nat.ne_of_beq_eq_false rfl) (px_get_ne (Nat.ne_of_beq_eq_false rfl) (px_get_ne (Nat.ne_of_beq_eq_false rfl) pg_6))))))))))
set_option maxRecDepth 100000 in
theorem pg_458 (a2 a3 a4 : Int32) : (ph_184 a2 a3 a4)[17]? = some (.inr (4, [.int 0, .int 0, .ref 18, .ref 26])) := (px_get_ne (Nat.ne_of_beq_eq_false rfl) (px_get_ne (Nat.ne_of_beq_eq_false rfl) (px_get_ne (Nat.ne_of_beq_eq_false rfl) (px_get_ne (Nat.ne_of_beq_eq_false rfl) (px_get_ne (Nat.ne_of_beq_eq_false rfl) (px_get_ne (Nat.ne_of_beq_eq_false rfl) (px_get_ne (Nat.ne_of_beq_eq_false rfl) (px_get_ne (Nat.ne_of_beq_eq_false rfl) (px_get_ne (Nat.ne_of_beq_eq_false rfl) (px_get_ne (Nat.ne_of_beq_eq_false rfl) pg_55))))))))))
set_option maxRecDepth 100000 in
theorem pg_459 (a2 a3 a4 : Int32) : (ph_184 a2 a3 a4)[32]? = some (.inr (4, [.int 0, .int 0, .ref 33, .ref 41])) := (px_get_ne (Nat.ne_of_beq_eq_false rfl) (px_get_ne (Nat.ne_of_beq_eq_false rfl) (px_get_ne (Nat.ne_of_beq_eq_false rfl) (px_get_ne (Nat.ne_of_beq_eq_false rfl) (px_get_ne (Nat.ne_of_beq_eq_false rfl) (px_get_ne (Nat.ne_of_beq_eq_false rfl) (px_get_ne (Nat.ne_of_beq_eq_false rfl) (px_get_ne (Nat.ne_of_beq_eq_false rfl) (px_get_ne (Nat.ne_of_beq_eq_false rfl) (px_get_ne (Nat.ne_of_beq_eq_false rfl) pg_57))))))))))
set_option maxRecDepth 100000 in
theorem pg_460 (a2 a3 a4 : Int32) : (ph_184 a2 a3 a4)[47]? = some (.inr (4, [.int 0, .int 0, .ref 48, .ref 56])) := (px_get_ne (Nat.ne_of_beq_eq_false rfl) (px_get_ne (Nat.ne_of_beq_eq_false rfl) (px_get_ne (Nat.ne_of_beq_eq_false rfl) (px_get_ne (Nat.ne_of_beq_eq_false rfl) (px_get_ne (Nat.ne_of_beq_eq_false rfl) (px_get_ne (Nat.ne_of_beq_eq_false rfl) (px_get_ne (Nat.ne_of_beq_eq_false rfl) (px_get_ne (Nat.ne_of_beq_eq_false rfl) (px_get_ne (Nat.ne_of_beq_eq_false rfl) (px_get_ne (Nat.ne_of_beq_eq_false rfl) pg_59))))))))))
set_option maxRecDepth 100000 in
theorem pg_461 (a2 a3 a4 : Int32) : (ph_184 a2 a3 a4)[62]? = some (.inr (4, [.int 0, .int 0, .ref 63, .ref 71])) := (px_get_ne (Nat.ne_of_beq_eq_false rfl) (px_get_ne (Nat.ne_of_beq_eq_false rfl) (px_get_ne (Nat.ne_of_beq_eq_false rfl) (px_get_ne (Nat.ne_of_beq_eq_false rfl) (px_get_ne (Nat.ne_of_beq_eq_false rfl) (px_get_ne (Nat.ne_of_beq_eq_false rfl) (px_get_ne (Nat.ne_of_beq_eq_false rfl) (px_get_ne (Nat.ne_of_beq_eq_false rfl) (px_get_ne (Nat.ne_of_beq_eq_false rfl) (px_get_ne (Nat.ne_of_beq_eq_false rfl) pg_61))))))))))
set_option maxRecDepth 100000 in
theorem pg_462 (a2 a3 a4 : Int32) : (ph_184 a2 a3 a4)[77]? = some (.inr (4, [.int 0, .int 0, .ref 78, .ref 86])) := (px_get_ne (Nat.ne_of_beq_eq_false rfl) (px_get_ne (Nat.ne_of_beq_eq_false rfl) (px_get_ne (Nat.ne_of_beq_eq_false rfl) (px_get_ne (Nat.ne_of_beq_eq_false rfl) (px_get_ne (Nat.ne_of_beq_eq_false rfl) (px_get_ne (Nat.ne_of_beq_eq_false rfl) (px_get_ne (Nat.ne_of_beq_eq_false rfl) (px_get_ne (Nat.ne_of_beq_eq_false rfl) (px_get_ne (Nat.ne_of_beq_eq_false rfl) (px_get_ne (Nat.ne_of_beq_eq_false rfl) pg_63))))))))))
set_option maxRecDepth 100000 in
theorem pg_463 (a2 a3 a4 : Int32) : (ph_184 a2 a3 a4)[94]? = some (.inl (0, .inl (List.replicate 36 (-1) ++ [0] ++ List.replicate 11 (-1)))) := (px_get_ne (Nat.ne_of_beq_eq_false rfl) (pg_452 a2 a3 a4))
set_option maxRecDepth 100000 in
theorem pl_165 (a2 a3 : Int32) : (ph_180 a2 a3).length = 165 := px_len_set (pl_164 a2)
set_option maxRecDepth 100000 in
theorem pl_166 (a2 a3 a4 : Int32) : (ph_181 a2 a3 a4).length = 165 := px_len_set (pl_165 a2 a3)
set_option maxRecDepth 100000 in
theorem pl_167 (a2 a3 a4 : Int32) : (ph_182 a2 a3 a4).length = 165 := px_len_set (pl_166 a2 a3 a4)
set_option maxRecDepth 100000 in
theorem pl_168 (a2 a3 a4 : Int32) : (ph_183 a2 a3 a4).length = 165 := px_len_set (pl_167 a2 a3 a4)
set_option maxRecDepth 100000 in
theorem pg_464 (a2 a3 a4 : Int32) : (ph_184 a2 a3 a4)[95]? = some (.inl (1, .inl (List.replicate 36 0 ++ [1] ++ List.replicate 11 0))) := (px_get_eq (pl_168 a2 a3 a4) (Nat.le_of_ble_eq_true rfl))
set_option maxRecDepth 100000 in
theorem pg_465 (a2 a3 a4 : Int32) : (ph_184 a2 a3 a4)[164]? = some (.inl (2, .inr (.inl ([0])))) := (px_get_ne (Nat.ne_of_beq_eq_false rfl) (px_get_ne (Nat.ne_of_beq_eq_false rfl) (px_get_ne (Nat.ne_of_beq_eq_false rfl) (px_get_ne (Nat.ne_of_beq_eq_false rfl) (px_get_ne (Nat.ne_of_beq_eq_false rfl) (px_get_ne (Nat.ne_of_beq_eq_false rfl) (px_get_ne (Nat.ne_of_beq_eq_false rfl) (px_get_ne (Nat.ne_of_beq_eq_false rfl) (px_get_ne (Nat.ne_of_beq_eq_false rfl) (px_get_ne (Nat.ne_of_beq_eq_false rfl) pg_9))))))))))
set_option maxRecDepth 100000 in
theorem pg_466 (a2 a3 a4 : Int32) : (ph_185 a2 a3 a4)[136]? = some (.inr (10, [.ref 137, .int 0, .int 0, .ref 138, .ref 151, .long 0])) := (px_get_ne (Nat.ne_of_beq_eq_false rfl) (px_get_ne (Nat.ne_of_beq_eq_false rfl) (px_get_ne (Nat.ne_of_beq_eq_false rfl) (px_get_ne (Nat.ne_of_beq_eq_false rfl) (px_get_ne (Nat.ne_of_beq_eq_false rfl) (px_get_ne (Nat.ne_of_beq_eq_false rfl) (px_get_ne (Nat.ne_of_beq_eq_false rfl) (px_get_ne (Nat.ne_of_beq_eq_false rfl) (px_get_ne (Nat.ne_of_beq_eq_false rfl) (px_get_ne (Nat.ne_of_beq_eq_false rfl) (px_get_ne (Nat.ne_of_beq_eq_false rfl) pg_1)))))))))))
set_option maxRecDepth 100000 in
theorem pl_169 (a2 a3 a4 : Int32) : (ph_184 a2 a3 a4).length = 165 := px_len_set (pl_168 a2 a3 a4)
set_option maxRecDepth 100000 in
theorem pl_170 (a2 a3 a4 : Int32) : (ph_185 a2 a3 a4).length = 165 := px_len_set (pl_169 a2 a3 a4)
set_option maxRecDepth 100000 in
theorem pg_467 (a2 a3 a4 : Int32) : (ph_186 a2 a3 a4)[136]? = some (.inr (10, [.ref 137, .int 0, .int 0, .ref 138, .ref 151, .long 0])) := (px_get_eq (pl_170 a2 a3 a4) (Nat.le_of_ble_eq_true rfl))
set_option maxRecDepth 100000 in
theorem pg_468 (a2 a3 a4 : Int32) : (ph_186 a2 a3 a4)[138]? = some (.inr (9, [.int 0, .int 0, .int 0, .ref 139, .ref 140, .ref 141, .ref 143, .ref 145, .ref 147, .ref 149, .ref 150, .int 0, .ref 136])) := (px_get_ne (Nat.ne_of_beq_eq_false rfl) (px_get_ne (Nat.ne_of_beq_eq_false rfl) (px_get_ne (Nat.ne_of_beq_eq_false rfl) (px_get_ne (Nat.ne_of_beq_eq_false rfl) (px_get_ne (Nat.ne_of_beq_eq_false rfl) (px_get_ne (Nat.ne_of_beq_eq_false rfl) (px_get_ne (Nat.ne_of_beq_eq_false rfl) (px_get_ne (Nat.ne_of_beq_eq_false rfl) (px_get_ne (Nat.ne_of_beq_eq_false rfl) (px_get_ne (Nat.ne_of_beq_eq_false rfl) (px_get_ne (Nat.ne_of_beq_eq_false rfl) (px_get_ne (Nat.ne_of_beq_eq_false rfl) pg_70))))))))))))
set_option maxRecDepth 100000 in
theorem pg_469 (a2 a3 a4 : Int32) : (ph_186 a2 a3 a4)[141]? = some (.inr (7, [.int 6, .int 0, .ref 142])) := (px_get_ne (Nat.ne_of_beq_eq_false rfl) (px_get_ne (Nat.ne_of_beq_eq_false rfl) (px_get_ne (Nat.ne_of_beq_eq_false rfl) (px_get_ne (Nat.ne_of_beq_eq_false rfl) (px_get_ne (Nat.ne_of_beq_eq_false rfl) (px_get_ne (Nat.ne_of_beq_eq_false rfl) (px_get_ne (Nat.ne_of_beq_eq_false rfl) (px_get_ne (Nat.ne_of_beq_eq_false rfl) (px_get_ne (Nat.ne_of_beq_eq_false rfl) (px_get_ne (Nat.ne_of_beq_eq_false rfl) (px_get_ne (Nat.ne_of_beq_eq_false rfl) (px_get_ne (Nat.ne_of_beq_eq_false rfl) pg_72))))))))))))
set_option maxRecDepth 100000 in
theorem pl_171 (a2 a3 a4 : Int32) : (ph_186 a2 a3 a4).length = 165 := px_len_set (pl_170 a2 a3 a4)
set_option maxRecDepth 100000 in
theorem pg_470 (a2 a3 a4 : Int32) : (ph_187 a2 a3 a4)[138]? = some (.inr (9, [.int 0, .int 0, .int 0, .ref 139, .ref 140, .ref 141, .ref 143, .ref 145, .ref 147, .ref 149, .ref 150, .int 0, .ref 136])) := (px_get_lt (pl_171 a2 a3 a4) (Nat.le_of_ble_eq_true rfl) (pg_468 a2 a3 a4))
set_option maxRecDepth 100000 in
theorem pg_471 (a2 a3 a4 : Int32) : (ph_187 a2 a3 a4)[165]? = some (.inl (0, .inl (List.replicate 6 0))) := (px_get_ge (k := 0) (pl_171 a2 a3 a4) rfl rfl)
set_option maxRecDepth 100000 in
theorem pl_172 (a2 a3 a4 : Int32) : (ph_187 a2 a3 a4).length = 166 := px_len_app (pl_171 a2 a3 a4) rfl
set_option maxRecDepth 100000 in
theorem pg_472 (a2 a3 a4 : Int32) : (ph_188 a2 a3 a4)[165]? = some (.inl (0, .inl (List.replicate 6 0))) := (px_get_eq (pl_172 a2 a3 a4) (Nat.le_of_ble_eq_true rfl))
set_option maxRecDepth 100000 in
theorem pl_173 (a2 a3 a4 : Int32) : (ph_188 a2 a3 a4).length = 166 := px_len_set (pl_172 a2 a3 a4)
set_option maxRecDepth 100000 in
theorem pg_473 (a2 a3 a4 : Int32) : (ph_189 a2 a3 a4)[165]? = some (.inl (0, .inl ([0, 6, 0, 0, 0, 0]))) := (px_get_eq (pl_173 a2 a3 a4) (Nat.le_of_ble_eq_true rfl))
set_option maxRecDepth 100000 in
theorem pl_174 (a2 a3 a4 : Int32) : (ph_189 a2 a3 a4).length = 166 := px_len_set (pl_173 a2 a3 a4)
set_option maxRecDepth 100000 in
theorem pg_474 (a2 a3 a4 : Int32) : (ph_190 a2 a3 a4)[165]? = some (.inl (0, .inl ([0, 6, a2, 0, 0, 0]))) := (px_get_eq (pl_174 a2 a3 a4) (Nat.le_of_ble_eq_true rfl))
set_option maxRecDepth 100000 in
theorem pl_175 (a2 a3 a4 : Int32) : (ph_190 a2 a3 a4).length = 166 := px_len_set (pl_174 a2 a3 a4)
set_option maxRecDepth 100000 in
theorem pg_475 (a2 a3 a4 : Int32) : (ph_191 a2 a3 a4)[165]? = some (.inl (0, .inl ([0, 6, a2, a3, 0, 0]))) := (px_get_eq (pl_175 a2 a3 a4) (Nat.le_of_ble_eq_true rfl))
set_option maxRecDepth 100000 in
theorem pl_176 (a2 a3 a4 : Int32) : (ph_191 a2 a3 a4).length = 166 := px_len_set (pl_175 a2 a3 a4)
set_option maxRecDepth 100000 in
theorem pg_476 (a2 a3 a4 : Int32) : (ph_192 a2 a3 a4)[165]? = some (.inl (0, .inl ([0, 6, a2, a3, a4, 0]))) := (px_get_eq (pl_176 a2 a3 a4) (Nat.le_of_ble_eq_true rfl))
set_option maxRecDepth 100000 in
theorem pg_477 (a2 a3 a4 : Int32) : (ph_193 a2 a3 a4)[141]? = some (.inr (7, [.int 6, .int 0, .ref 142])) := (px_get_ne (Nat.ne_of_beq_eq_false rfl) (px_get_ne (Nat.ne_of_beq_eq_false rfl) (px_get_ne (Nat.ne_of_beq_eq_false rfl) (px_get_ne (Nat.ne_of_beq_eq_false rfl) (px_get_ne (Nat.ne_of_beq_eq_false rfl) (px_get_ne (Nat.ne_of_beq_eq_false rfl) (px_get_lt (pl_171 a2 a3 a4) (Nat.le_of_ble_eq_true rfl) (pg_469 a2 a3 a4))))))))
set_option maxRecDepth 100000 in
theorem pg_478 (a2 a3 a4 : Int32) : (ph_193 a2 a3 a4)[142]? = some (.inl (0, .inl (List.replicate 96 0))) := (px_get_ne (Nat.ne_of_beq_eq_false rfl) (px_get_ne (Nat.ne_of_beq_eq_false rfl) (px_get_ne (Nat.ne_of_beq_eq_false rfl) (px_get_ne (Nat.ne_of_beq_eq_false rfl) (px_get_ne (Nat.ne_of_beq_eq_false rfl) (px_get_ne (Nat.ne_of_beq_eq_false rfl) (px_get_lt (pl_171 a2 a3 a4) (Nat.le_of_ble_eq_true rfl) (px_get_ne (Nat.ne_of_beq_eq_false rfl) (px_get_ne (Nat.ne_of_beq_eq_false rfl) (px_get_ne (Nat.ne_of_beq_eq_false rfl) (px_get_ne (Nat.ne_of_beq_eq_false rfl) (px_get_ne (Nat.ne_of_beq_eq_false rfl) (px_get_ne (Nat.ne_of_beq_eq_false rfl) (px_get_ne (Nat.ne_of_beq_eq_false rfl) (px_get_ne (Nat.ne_of_beq_eq_false rfl) (px_get_ne (Nat.ne_of_beq_eq_false rfl) (px_get_ne (Nat.ne_of_beq_eq_false rfl) (px_get_ne (Nat.ne_of_beq_eq_false rfl) (px_get_ne (Nat.ne_of_beq_eq_false rfl) pg_82)))))))))))))))))))
set_option maxRecDepth 100000 in
theorem pl_177 (a2 a3 a4 : Int32) : (ph_192 a2 a3 a4).length = 166 := px_len_set (pl_176 a2 a3 a4)
set_option maxRecDepth 100000 in
theorem pg_479 (a2 a3 a4 : Int32) : (ph_193 a2 a3 a4)[165]? = some (.inl (0, .inl ([0, 6, a2, a3, a4, 1]))) := (px_get_eq (pl_177 a2 a3 a4) (Nat.le_of_ble_eq_true rfl))
set_option maxRecDepth 100000 in
theorem pg_480 (a2 a3 a4 : Int32) : (ph_194 a2 a3 a4)[141]? = some (.inr (7, [.int 6, .int 0, .ref 142])) := (px_get_ne (Nat.ne_of_beq_eq_false rfl) (pg_477 a2 a3 a4))
set_option maxRecDepth 100000 in
theorem pg_481 (a2 a3 a4 : Int32) : (ph_195 a2 a3 a4)[138]? = some (.inr (9, [.int 0, .int 0, .int 0, .ref 139, .ref 140, .ref 141, .ref 143, .ref 145, .ref 147, .ref 149, .ref 150, .int 0, .ref 136])) := (px_get_ne (Nat.ne_of_beq_eq_false rfl) (px_get_ne (Nat.ne_of_beq_eq_false rfl) (px_get_ne (Nat.ne_of_beq_eq_false rfl) (px_get_ne (Nat.ne_of_beq_eq_false rfl) (px_get_ne (Nat.ne_of_beq_eq_false rfl) (px_get_ne (Nat.ne_of_beq_eq_false rfl) (px_get_ne (Nat.ne_of_beq_eq_false rfl) (px_get_ne (Nat.ne_of_beq_eq_false rfl) (pg_470 a2 a3 a4)))))))))
set_option maxRecDepth 100000 in
theorem pl_178 (a2 a3 a4 : Int32) : (ph_193 a2 a3 a4).length = 166 := px_len_set (pl_177 a2 a3 a4)
set_option maxRecDepth 100000 in
theorem pl_179 (a2 a3 a4 : Int32) : (ph_194 a2 a3 a4).length = 166 := px_len_set (pl_178 a2 a3 a4)
set_option maxRecDepth 100000 in
theorem pl_180 (a2 a3 a4 : Int32) : (ph_195 a2 a3 a4).length = 166 := px_len_set (pl_179 a2 a3 a4)
set_option maxRecDepth 100000 in
theorem pg_482 (a2 a3 a4 : Int32) : (ph_196 a2 a3 a4)[138]? = some (.inr (9, [.int 1, .int 0, .int 0, .ref 139, .ref 140, .ref 141, .ref 143, .ref 145, .ref 147, .ref 149, .ref 150, .int 0, .ref 136])) := (px_get_eq (pl_180 a2 a3 a4) (Nat.le_of_ble_eq_true rfl))
set_option maxRecDepth 100000 in
theorem pg_483 (a2 a3 a4 : Int32) : (ph_196 a2 a3 a4)[136]? = some (.inr (10, [.ref 137, .int 0, .int 0, .ref 138, .ref 151, .long 0])) := (px_get_ne (Nat.ne_of_beq_eq_false rfl) (px_get_ne (Nat.ne_of_beq_eq_false rfl) (px_get_ne (Nat.ne_of_beq_eq_false rfl) (px_get_ne (Nat.ne_of_beq_eq_false rfl) (px_get_ne (Nat.ne_of_beq_eq_false rfl) (px_get_ne (Nat.ne_of_beq_eq_false rfl) (px_get_ne (Nat.ne_of_beq_eq_false rfl) (px_get_ne (Nat.ne_of_beq_eq_false rfl) (px_get_ne (Nat.ne_of_beq_eq_false rfl) (px_get_lt (pl_171 a2 a3 a4) (Nat.le_of_ble_eq_true rfl) (pg_467 a2 a3 a4)))))))))))
set_option maxRecDepth 100000 in
theorem pg_484 (a2 a3 a4 : Int32) : (ph_196 a2 a3 a4)[147]? = some (.inr (7, [.int 6, .int 0, .ref 148])) := (px_get_ne (Nat.ne_of_beq_eq_false rfl) (px_get_ne (Nat.ne_of_beq_eq_false rfl) (px_get_ne (Nat.ne_of_beq_eq_false rfl) (px_get_ne (Nat.ne_of_beq_eq_false rfl) (px_get_ne (Nat.ne_of_beq_eq_false rfl) (px_get_ne (Nat.ne_of_beq_eq_false rfl) (px_get_ne (Nat.ne_of_beq_eq_false rfl) (px_get_ne (Nat.ne_of_beq_eq_false rfl) (px_get_ne (Nat.ne_of_beq_eq_false rfl) (px_get_lt (pl_171 a2 a3 a4) (Nat.le_of_ble_eq_true rfl) (px_get_ne (Nat.ne_of_beq_eq_false rfl) (px_get_ne (Nat.ne_of_beq_eq_false rfl) (px_get_ne (Nat.ne_of_beq_eq_false rfl) (px_get_ne (Nat.ne_of_beq_eq_false rfl) (px_get_ne (Nat.ne_of_beq_eq_false rfl) (px_get_ne (Nat.ne_of_beq_eq_false rfl) (px_get_ne (Nat.ne_of_beq_eq_false rfl) (px_get_ne (Nat.ne_of_beq_eq_false rfl) (px_get_ne (Nat.ne_of_beq_eq_false rfl) (px_get_ne (Nat.ne_of_beq_eq_false rfl) (px_get_ne (Nat.ne_of_beq_eq_false rfl) (px_get_ne (Nat.ne_of_beq_eq_false rfl) pg_89))))))))))))))))))))))
set_option maxRecDepth 100000 in
theorem pg_485 (a2 a3 a4 : Int32) : (ph_197 a2 a3 a4)[138]? = some (.inr (9, [.int 1, .int 0, .int 0, .ref 139, .ref 140, .ref 141, .ref 143, .ref 145, .ref 147, .ref 149, .ref 150, .int 0, .ref 136])) := (px_get_ne (Nat.ne_of_beq_eq_false rfl) (pg_482 a2 a3 a4))
set_option maxRecDepth 100000 in
theorem pl_181 (a2 a3 a4 : Int32) : (ph_196 a2 a3 a4).length = 166 := px_len_set (pl_180 a2 a3 a4)
set_option maxRecDepth 100000 in
theorem pl_182 (a2 a3 a4 : Int32) : (ph_197 a2 a3 a4).length = 166 := px_len_set (pl_181 a2 a3 a4)
set_option maxRecDepth 100000 in
theorem pg_486 (a2 a3 a4 : Int32) : (ph_198 a2 a3 a4)[138]? = some (.inr (9, [.int 1, .int 0, .int 0, .ref 139, .ref 140, .ref 141, .ref 143, .ref 145, .ref 147, .ref 149, .ref 150, .int 0, .ref 136])) := (px_get_eq (pl_182 a2 a3 a4) (Nat.le_of_ble_eq_true rfl))
set_option maxRecDepth 100000 in
theorem pg_487 (a2 a3 a4 : Int32) : (ph_198 a2 a3 a4)[136]? = some (.inr (10, [.ref 137, .int 0, .int 0, .ref 138, .ref 151, .long 0])) := (px_get_ne (Nat.ne_of_beq_eq_false rfl) (px_get_ne (Nat.ne_of_beq_eq_false rfl) (pg_483 a2 a3 a4)))
set_option maxRecDepth 100000 in
theorem pg_488 (a2 a3 a4 : Int32) : (ph_198 a2 a3 a4)[147]? = some (.inr (7, [.int 6, .int 0, .ref 148])) := (px_get_ne (Nat.ne_of_beq_eq_false rfl) (px_get_eq (pl_181 a2 a3 a4) (Nat.le_of_ble_eq_true rfl)))
set_option maxRecDepth 100000 in
theorem pg_489 (a2 a3 a4 : Int32) : (ph_198 a2 a3 a4)[143]? = some (.inr (7, [.int 6, .int 0, .ref 144])) := (px_get_ne (Nat.ne_of_beq_eq_false rfl) (px_get_ne (Nat.ne_of_beq_eq_false rfl) (px_get_ne (Nat.ne_of_beq_eq_false rfl) (px_get_ne (Nat.ne_of_beq_eq_false rfl) (px_get_ne (Nat.ne_of_beq_eq_false rfl) (px_get_ne (Nat.ne_of_beq_eq_false rfl) (px_get_ne (Nat.ne_of_beq_eq_false rfl) (px_get_ne (Nat.ne_of_beq_eq_false rfl) (px_get_ne (Nat.ne_of_beq_eq_false rfl) (px_get_ne (Nat.ne_of_beq_eq_false rfl) (px_get_ne (Nat.ne_of_beq_eq_false rfl) (px_get_lt (pl_171 a2 a3 a4) (Nat.le_of_ble_eq_true rfl) (px_get_ne (Nat.ne_of_beq_eq_false rfl) (px_get_ne (Nat.ne_of_beq_eq_false rfl) (px_get_ne (Nat.ne_of_beq_eq_false rfl) (px_get_ne (Nat.ne_of_beq_eq_false rfl) (px_get_ne (Nat.ne_of_beq_eq_false rfl) (px_get_ne (Nat.ne_of_beq_eq_false rfl) (px_get_ne (Nat.ne_of_beq_eq_false rfl) (px_get_ne (Nat.ne_of_beq_eq_false rfl) (px_get_ne (Nat.ne_of_beq_eq_false rfl) (px_get_ne (Nat.ne_of_beq_eq_false rfl) (px_get_ne (Nat.ne_of_beq_eq_false rfl) (px_get_ne (Nat.ne_of_beq_eq_false rfl) pg_95))))))))))))))))))))))))
set_option maxRecDepth 100000 in
theorem pl_183 (a2 a3 a4 : Int32) : (ph_198 a2 a3 a4).length = 166 := px_len_set (pl_182 a2 a3 a4)
set_option maxRecDepth 100000 in
theorem pg_490 (a2 a3 a4 : Int32) : (ph_199 a2 a3 a4)[143]? = some (.inr (7, [.int 6, .int 0, .ref 144])) := (px_get_eq (pl_183 a2 a3 a4) (Nat.le_of_ble_eq_true rfl))
set_option maxRecDepth 100000 in
theorem pg_491 (a2 a3 a4 : Int32) : (ph_199 a2 a3 a4)[144]? = some (.inl (0, .inl (List.replicate 96 0))) := (px_get_ne (Nat.ne_of_beq_eq_false rfl) (px_get_ne (Nat.ne_of_beq_eq_false rfl) (px_get_ne (Nat.ne_of_beq_eq_false rfl) (px_get_ne (Nat.ne_of_beq_eq_false rfl) (px_get_ne (Nat.ne_of_beq_eq_false rfl) (px_get_ne (Nat.ne_of_beq_eq_false rfl) (px_get_ne (Nat.ne_of_beq_eq_false rfl) (px_get_ne (Nat.ne_of_beq_eq_false rfl) (px_get_ne (Nat.ne_of_beq_eq_false rfl) (px_get_ne (Nat.ne_of_beq_eq_false rfl) (px_get_ne (Nat.ne_of_beq_eq_false rfl) (px_get_ne (Nat.ne_of_beq_eq_false rfl) (px_get_lt (pl_171 a2 a3 a4) (Nat.le_of_ble_eq_true rfl) (px_get_ne (Nat.ne_of_beq_eq_false rfl) (px_get_ne (Nat.ne_of_beq_eq_false rfl) (px_get_ne (Nat.ne_of_beq_eq_false rfl) (px_get_ne (Nat.ne_of_beq_eq_false rfl) (px_get_ne (Nat.ne_of_beq_eq_false rfl) (px_get_ne (Nat.ne_of_beq_eq_false rfl) (px_get_ne (Nat.ne_of_beq_eq_false rfl) (px_get_ne (Nat.ne_of_beq_eq_false rfl) (px_get_ne (Nat.ne_of_beq_eq_false rfl) (px_get_ne (Nat.ne_of_beq_eq_false rfl) (px_get_ne (Nat.ne_of_beq_eq_false rfl) (px_get_ne (Nat.ne_of_beq_eq_false rfl) pg_98)))))))))))))))))))))))))
set_option maxRecDepth 100000 in
theorem pg_492 (a2 a3 a4 : Int32) : (ph_199 a2 a3 a4)[147]? = some (.inr (7, [.int 6, .int 0, .ref 148])) := (px_get_ne (Nat.ne_of_beq_eq_false rfl) (pg_488 a2 a3 a4))
set_option maxRecDepth 100000 in
theorem pg_493 (a2 a3 a4 : Int32) : (ph_199 a2 a3 a4)[148]? = some (.inl (0, .inl (List.replicate 96 0))) := (px_get_ne (Nat.ne_of_beq_eq_false rfl) (px_get_ne (Nat.ne_of_beq_eq_false rfl) (px_get_ne (Nat.ne_of_beq_eq_false rfl) (px_get_ne (Nat.ne_of_beq_eq_false rfl) (px_get_ne (Nat.ne_of_beq_eq_false rfl) (px_get_ne (Nat.ne_of_beq_eq_false rfl) (px_get_ne (Nat.ne_of_beq_eq_false rfl) (px_get_ne (Nat.ne_of_beq_eq_false rfl) (px_get_ne (Nat.ne_of_beq_eq_false rfl) (px_get_ne (Nat.ne_of_beq_eq_false rfl) (px_get_ne (Nat.ne_of_beq_eq_false rfl) (px_get_ne (Nat.ne_of_beq_eq_false rfl) (px_get_lt (pl_171 a2 a3 a4) (Nat.le_of_ble_eq_true rfl) (px_get_ne (Nat.ne_of_beq_eq_false rfl) (px_get_ne (Nat.ne_of_beq_eq_false rfl) (px_get_ne (Nat.ne_of_beq_eq_false rfl) (px_get_ne (Nat.ne_of_beq_eq_false rfl) (px_get_ne (Nat.ne_of_beq_eq_false rfl) (px_get_ne (Nat.ne_of_beq_eq_false rfl) (px_get_ne (Nat.ne_of_beq_eq_false rfl) (px_get_ne (Nat.ne_of_beq_eq_false rfl) (px_get_ne (Nat.ne_of_beq_eq_false rfl) (px_get_ne (Nat.ne_of_beq_eq_false rfl) (px_get_ne (Nat.ne_of_beq_eq_false rfl) (px_get_ne (Nat.ne_of_beq_eq_false rfl) pg_101)))))))))))))))))))))))))
set_option maxRecDepth 100000 in
theorem pg_494 (a2 a3 a4 : Int32) : (ph_200 a2 a3 a4)[138]? = some (.inr (9, [.int 1, .int 0, .int 0, .ref 139, .ref 140, .ref 141, .ref 143, .ref 145, .ref 147, .ref 149, .ref 150, .int 0, .ref 136])) := (px_get_ne (Nat.ne_of_beq_eq_false rfl) (px_get_ne (Nat.ne_of_beq_eq_false rfl) (pg_486 a2 a3 a4)))
set_option maxRecDepth 100000 in
theorem pg_495 (a2 a3 a4 : Int32) : (ph_200 a2 a3 a4)[145]? = some (.inr (7, [.int 2, .int 0, .ref 146])) := (px_get_ne (Nat.ne_of_beq_eq_false rfl) (px_get_ne (Nat.ne_of_beq_eq_false rfl) (px_get_ne (Nat.ne_of_beq_eq_false rfl) (px_get_ne (Nat.ne_of_beq_eq_false rfl) (px_get_ne (Nat.ne_of_beq_eq_false rfl) (px_get_ne (Nat.ne_of_beq_eq_false rfl) (px_get_ne (Nat.ne_of_beq_eq_false rfl) (px_get_ne (Nat.ne_of_beq_eq_false rfl) (px_get_ne (Nat.ne_of_beq_eq_false rfl) (px_get_ne (Nat.ne_of_beq_eq_false rfl) (px_get_ne (Nat.ne_of_beq_eq_false rfl) (px_get_ne (Nat.ne_of_beq_eq_false rfl) (px_get_ne (Nat.ne_of_beq_eq_false rfl) (px_get_lt (pl_171 a2 a3 a4) (Nat.le_of_ble_eq_true rfl) (px_get_ne (Nat.ne_of_beq_eq_false rfl) (px_get_ne (Nat.ne_of_beq_eq_false rfl) (px_get_ne (Nat.ne_of_beq_eq_false rfl) (px_get_ne (Nat.ne_of_beq_eq_false rfl) (px_get_ne (Nat.ne_of_beq_eq_false rfl) (px_get_ne (Nat.ne_of_beq_eq_false rfl) (px_get_ne (Nat.ne_of_beq_eq_false rfl) (px_get_ne (Nat.ne_of_beq_eq_false rfl) (px_get_ne (Nat.ne_of_beq_eq_false rfl) (px_get_ne (Nat.ne_of_beq_eq_false rfl) (px_get_ne (Nat.ne_of_beq_eq_false rfl) (px_get_ne (Nat.ne_of_beq_eq_false rfl) pg_104))))))))))))))))))))))))))
set_option maxRecDepth 100000 in
theorem pg_496 (a2 a3 a4 : Int32) : (ph_200 a2 a3 a4)[141]? = some (.inr (7, [.int 6, .int 1, .ref 142])) := (px_get_ne (Nat.ne_of_beq_eq_false rfl) (px_get_ne (Nat.ne_of_beq_eq_false rfl) (px_get_ne (Nat.ne_of_beq_eq_false rfl) (px_get_ne (Nat.ne_of_beq_eq_false rfl) (px_get_ne (Nat.ne_of_beq_eq_false rfl) (px_get_eq (pl_179 a2 a3 a4) (Nat.le_of_ble_eq_true rfl)))))))
set_option maxRecDepth 100000 in
theorem pg_497 (a2 a3 a4 : Int32) : (ph_200 a2 a3 a4)[142]? = some (.inl (0, .inl ([0] ++ [6] ++ [a2] ++ [a3] ++ [a4] ++ [1] ++ List.replicate 90 0))) := (px_get_ne (Nat.ne_of_beq_eq_false rfl) (px_get_ne (Nat.ne_of_beq_eq_false rfl) (px_get_ne (Nat.ne_of_beq_eq_false rfl) (px_get_ne (Nat.ne_of_beq_eq_false rfl) (px_get_ne (Nat.ne_of_beq_eq_false rfl) (px_get_ne (Nat.ne_of_beq_eq_false rfl) (px_get_eq (pl_178 a2 a3 a4) (Nat.le_of_ble_eq_true rfl))))))))
set_option maxRecDepth 100000 in
theorem pg_498 (a2 a3 a4 : Int32) : (ph_200 a2 a3 a4)[136]? = some (.inr (10, [.ref 137, .int 0, .int 0, .ref 138, .ref 151, .long 0])) := (px_get_ne (Nat.ne_of_beq_eq_false rfl) (px_get_ne (Nat.ne_of_beq_eq_false rfl) (pg_487 a2 a3 a4)))
set_option maxRecDepth 100000 in
theorem pg_499 (a2 a3 a4 : Int32) : (ph_200 a2 a3 a4)[164]? = some (.inl (2, .inr (.inl ([0])))) := (px_get_ne (Nat.ne_of_beq_eq_false rfl) (px_get_ne (Nat.ne_of_beq_eq_false rfl) (px_get_ne (Nat.ne_of_beq_eq_false rfl) (px_get_ne (Nat.ne_of_beq_eq_false rfl) (px_get_ne (Nat.ne_of_beq_eq_false rfl) (px_get_ne (Nat.ne_of_beq_eq_false rfl) (px_get_ne (Nat.ne_of_beq_eq_false rfl) (px_get_ne (Nat.ne_of_beq_eq_false rfl) (px_get_ne (Nat.ne_of_beq_eq_false rfl) (px_get_ne (Nat.ne_of_beq_eq_false rfl) (px_get_ne (Nat.ne_of_beq_eq_false rfl) (px_get_ne (Nat.ne_of_beq_eq_false rfl) (px_get_ne (Nat.ne_of_beq_eq_false rfl) (px_get_lt (pl_171 a2 a3 a4) (Nat.le_of_ble_eq_true rfl) (px_get_ne (Nat.ne_of_beq_eq_false rfl) (px_get_eq (pl_169 a2 a3 a4) (Nat.le_of_ble_eq_true rfl)))))))))))))))))
set_option maxRecDepth 100000 in
theorem pg_500 : ph_201[93]? = some (.inr (2, [.int 0, .int 0, .ref 94, .ref 95, .ref 96, .ref 97, .ref 98])) := (px_get_ne (Nat.ne_of_beq_eq_false rfl) pg_26)
set_option maxRecDepth 100000 in
theorem pl_184 : ph_201.length = 165 := px_len_set pl_0
set_option maxRecDepth 100000 in
theorem pg_501 : ph_202[93]? = some (.inr (2, [.int 1, .int 0, .ref 94, .ref 95, .ref 96, .ref 97, .ref 98])) := (px_get_eq pl_184 (Nat.le_of_ble_eq_true rfl))
set_option maxRecDepth 100000 in
theorem pl_185 : ph_202.length = 165 := px_len_set pl_184
set_option maxRecDepth 100000 in
theorem pg_502 : ph_203[93]? = some (.inr (2, [.int 1, .int 1, .ref 94, .ref 95, .ref 96, .ref 97, .ref 98])) := (px_get_eq pl_185 (Nat.le_of_ble_eq_true rfl))
set_option maxRecDepth 100000 in
theorem pg_503 : ph_203[95]? = some (.inl (1, .inl (List.replicate 48 0))) := (px_get_ne (Nat.ne_of_beq_eq_false rfl) (px_get_ne (Nat.ne_of_beq_eq_false rfl) (px_get_ne (Nat.ne_of_beq_eq_false rfl) pg_32)))
set_option maxRecDepth 100000 in
theorem pg_504 : ph_204[93]? = some (.inr (2, [.int 1, .int 1, .ref 94, .ref 95, .ref 96, .ref 97, .ref 98])) := (px_get_ne (Nat.ne_of_beq_eq_false rfl) pg_502)
set_option maxRecDepth 100000 in
theorem pg_505 : ph_204[96]? = some (.inl (0, .inl (List.replicate 144 0))) := (px_get_ne (Nat.ne_of_beq_eq_false rfl) (px_get_ne (Nat.ne_of_beq_eq_false rfl) (px_get_ne (Nat.ne_of_beq_eq_false rfl) (px_get_ne (Nat.ne_of_beq_eq_false rfl) pg_35))))
set_option maxRecDepth 100000 in
theorem pg_506 (a2 : Int32) : (ph_205 a2)[93]? = some (.inr (2, [.int 1, .int 1, .ref 94, .ref 95, .ref 96, .ref 97, .ref 98])) := (px_get_ne (Nat.ne_of_beq_eq_false rfl) pg_504)
set_option maxRecDepth 100000 in
theorem pl_186 : ph_203.length = 165 := px_len_set pl_185
set_option maxRecDepth 100000 in
theorem pl_187 : ph_204.length = 165 := px_len_set pl_186
set_option maxRecDepth 100000 in
theorem pg_507 (a2 : Int32) : (ph_205 a2)[96]? = some (.inl (0, .inl (List.replicate 126 0 ++ [a2] ++ List.replicate 17 0))) := (px_get_eq pl_187 (Nat.le_of_ble_eq_true rfl))
set_option maxRecDepth 100000 in
theorem pg_508 (a2 a3 : Int32) : (ph_206 a2 a3)[93]? = some (.inr (2, [.int 1, .int 1, .ref 94, .ref 95, .ref 96, .ref 97, .ref 98])) := (px_get_ne (Nat.ne_of_beq_eq_false rfl) (pg_506 a2))
set_option maxRecDepth 100000 in
theorem pl_188 (a2 : Int32) : (ph_205 a2).length = 165 := px_len_set pl_187
set_option maxRecDepth 100000 in
theorem pg_509 (a2 a3 : Int32) : (ph_206 a2 a3)[96]? = some (.inl (0, .inl (List.replicate 126 0 ++ [a2] ++ [a3] ++ List.replicate 16 0))) := (px_get_eq (pl_188 a2) (Nat.le_of_ble_eq_true rfl))
set_option maxRecDepth 100000 in
theorem pg_510 (a2 a3 a4 : Int32) : (ph_207 a2 a3 a4)[93]? = some (.inr (2, [.int 1, .int 1, .ref 94, .ref 95, .ref 96, .ref 97, .ref 98])) := (px_get_ne (Nat.ne_of_beq_eq_false rfl) (pg_508 a2 a3))
set_option maxRecDepth 100000 in
theorem pg_511 (a2 a3 a4 : Int32) : (ph_207 a2 a3 a4)[97]? = some (.inl (0, .inl (List.replicate 8 0))) := (px_get_ne (Nat.ne_of_beq_eq_false rfl) (px_get_ne (Nat.ne_of_beq_eq_false rfl) (px_get_ne (Nat.ne_of_beq_eq_false rfl) (px_get_ne (Nat.ne_of_beq_eq_false rfl) (px_get_ne (Nat.ne_of_beq_eq_false rfl) (px_get_ne (Nat.ne_of_beq_eq_false rfl) (px_get_ne (Nat.ne_of_beq_eq_false rfl) pg_28)))))))
set_option maxRecDepth 100000 in
theorem pg_512 (a2 a3 a4 : Int32) : (ph_207 a2 a3 a4)[98]? = some (.inl (0, .inl (List.replicate 48 0))) := (px_get_ne (Nat.ne_of_beq_eq_false rfl) (px_get_ne (Nat.ne_of_beq_eq_false rfl) (px_get_ne (Nat.ne_of_beq_eq_false rfl) (px_get_ne (Nat.ne_of_beq_eq_false rfl) (px_get_ne (Nat.ne_of_beq_eq_false rfl) (px_get_ne (Nat.ne_of_beq_eq_false rfl) (px_get_ne (Nat.ne_of_beq_eq_false rfl) pg_43)))))))
set_option maxRecDepth 100000 in
theorem pg_513 (a2 a3 a4 : Int32) : (ph_208 a2 a3 a4)[93]? = some (.inr (2, [.int 1, .int 1, .ref 94, .ref 95, .ref 96, .ref 97, .ref 98])) := (px_get_ne (Nat.ne_of_beq_eq_false rfl) (pg_510 a2 a3 a4))
set_option maxRecDepth 100000 in
theorem pg_514 (a2 a3 a4 : Int32) : (ph_208 a2 a3 a4)[97]? = some (.inl (0, .inl (List.replicate 8 0))) := (px_get_ne (Nat.ne_of_beq_eq_false rfl) (pg_511 a2 a3 a4))
set_option maxRecDepth 100000 in
theorem pg_515 (a2 a3 a4 : Int32) : (ph_209 a2 a3 a4)[92]? = some (.inr (5, [.ref 1, .ref 93, .ref 99, .ref 110, .int 0, .ref 111, .ref 112, .ref 113])) := (px_get_ne (Nat.ne_of_beq_eq_false rfl) (px_get_ne (Nat.ne_of_beq_eq_false rfl) (px_get_ne (Nat.ne_of_beq_eq_false rfl) (px_get_ne (Nat.ne_of_beq_eq_false rfl) (px_get_ne (Nat.ne_of_beq_eq_false rfl) (px_get_ne (Nat.ne_of_beq_eq_false rfl) (px_get_ne (Nat.ne_of_beq_eq_false rfl) (px_get_ne (Nat.ne_of_beq_eq_false rfl) (px_get_ne (Nat.ne_of_beq_eq_false rfl) pg_25)))))))))
set_option maxRecDepth 100000 in
theorem pg_516 (a2 a3 a4 : Int32) : (ph_209 a2 a3 a4)[93]? = some (.inr (2, [.int 1, .int 1, .ref 94, .ref 95, .ref 96, .ref 97, .ref 98])) := (px_get_ne (Nat.ne_of_beq_eq_false rfl) (pg_513 a2 a3 a4))
set_option maxRecDepth 100000 in
theorem pg_517 (a2 a3 a4 : Int32) : (ph_209 a2 a3 a4)[94]? = some (.inl (0, .inl (List.replicate 42 (-1) ++ [0] ++ List.replicate 5 (-1)))) := (px_get_ne (Nat.ne_of_beq_eq_false rfl) (px_get_ne (Nat.ne_of_beq_eq_false rfl) (px_get_ne (Nat.ne_of_beq_eq_false rfl) (px_get_ne (Nat.ne_of_beq_eq_false rfl) (px_get_ne (Nat.ne_of_beq_eq_false rfl) (px_get_ne (Nat.ne_of_beq_eq_false rfl) (px_get_ne (Nat.ne_of_beq_eq_false rfl) (px_get_ne (Nat.ne_of_beq_eq_false rfl) (px_get_eq pl_0 (Nat.le_of_ble_eq_true rfl))))))))))
set_option maxRecDepth 100000 in
theorem pg_518 (a2 a3 a4 : Int32) : (ph_209 a2 a3 a4)[95]? = some (.inl (1, .inl (List.replicate 48 0))) := (px_get_ne (Nat.ne_of_beq_eq_false rfl) (px_get_ne (Nat.ne_of_beq_eq_false rfl) (px_get_ne (Nat.ne_of_beq_eq_false rfl) (px_get_ne (Nat.ne_of_beq_eq_false rfl) (px_get_ne (Nat.ne_of_beq_eq_false rfl) (px_get_eq pl_186 (Nat.le_of_ble_eq_true rfl)))))))
set_option maxRecDepth 100000 in
theorem pg_519 (a2 a3 a4 : Int32) : (ph_210 a2 a3 a4)[92]? = some (.inr (5, [.ref 1, .ref 93, .ref 99, .ref 110, .int 0, .ref 111, .ref 112, .ref 113])) := (px_get_ne (Nat.ne_of_beq_eq_false rfl) (pg_515 a2 a3 a4))
set_option maxRecDepth 100000 in
theorem pg_520 (a2 a3 a4 : Int32) : (ph_210 a2 a3 a4)[93]? = some (.inr (2, [.int 1, .int 1, .ref 94, .ref 95, .ref 96, .ref 97, .ref 98])) := (px_get_ne (Nat.ne_of_beq_eq_false rfl) (pg_516 a2 a3 a4))
set_option maxRecDepth 100000 in
theorem pg_521 (a2 a3 a4 : Int32) : (ph_210 a2 a3 a4)[1]? = some (.inl (3, .inr (.inr ([some 2, some 17, some 32, some 47, some 62, some 77])))) := (px_get_ne (Nat.ne_of_beq_eq_false rfl) (px_get_ne (Nat.ne_of_beq_eq_false rfl) (px_get_ne (Nat.ne_of_beq_eq_false rfl) (px_get_ne (Nat.ne_of_beq_eq_false rfl) (px_get_ne (Nat.ne_of_beq_eq_false rfl) (px_get_ne (Nat.ne_of_beq_eq_false rfl) (px_get_ne (Nat.ne_of_beq_eq_false rfl) (px_get_ne (Nat.ne_of_beq_eq_false rfl) (px_get_ne (Nat.ne_of_beq_eq_false rfl) (px_get_ne (Nat.ne_of_beq_eq_false rfl) pg_5))))))))))
set_option maxRecDepth 100000 in
theorem pg_522 (a2 a3 a4 : Int32) : (ph_210 a2 a3 a4)[2]? = some (.inr (4, [.int 0, .int 0, .ref 3, .ref 11])) := (px_get_ne (Nat.ne_of_beq_eq_false rfl) (px_get_ne (Nat.ne_of_beq_eq_false rfl) (px_get_ne (Nat.ne_of_beq_eq_false rfl) (px_get_ne (Nat.ne_of_beq_eq_false rfl) (px_get_ne (Nat.ne_of_beq_eq_false rfl) (px_get_ne (Nat.ne_of_beq_eq_false rfl) (px_get_ne (Nat.ne_of_beq_eq_false rfl) (px_get_ne (Nat.ne_of_beq_eq_false rfl) (px_get_ne (Nat.ne_of_beq_eq_false rfl) (px_get_ne (Nat.ne_of_beq_eq_false rfl) pg_6))))))))))
set_option maxRecDepth 100000 in
theorem pg_523 (a2 a3 a4 : Int32) : (ph_210 a2 a3 a4)[17]? = some (.inr (4, [.int 0, .int 0, .ref 18, .ref 26])) := (px_get_ne (Nat.ne_of_beq_eq_false rfl) (px_get_ne (Nat.ne_of_beq_eq_false rfl) (px_get_ne (Nat.ne_of_beq_eq_false rfl) (px_get_ne (Nat.ne_of_beq_eq_false rfl) (px_get_ne (Nat.ne_of_beq_eq_false rfl) (px_get_ne (Nat.ne_of_beq_eq_false rfl) (px_get_ne (Nat.ne_of_beq_eq_false rfl) (px_get_ne (Nat.ne_of_beq_eq_false rfl) (px_get_ne (Nat.ne_of_beq_eq_false rfl) (px_get_ne (Nat.ne_of_beq_eq_false rfl) pg_55))))))))))
set_option maxRecDepth 100000 in
theorem pg_524 (a2 a3 a4 : Int32) : (ph_210 a2 a3 a4)[32]? = some (.inr (4, [.int 0, .int 0, .ref 33, .ref 41])) := (px_get_ne (Nat.ne_of_beq_eq_false rfl) (px_get_ne (Nat.ne_of_beq_eq_false rfl) (px_get_ne (Nat.ne_of_beq_eq_false rfl) (px_get_ne (Nat.ne_of_beq_eq_false rfl) (px_get_ne (Nat.ne_of_beq_eq_false rfl) (px_get_ne (Nat.ne_of_beq_eq_false rfl) (px_get_ne (Nat.ne_of_beq_eq_false rfl) (px_get_ne (Nat.ne_of_beq_eq_false rfl) (px_get_ne (Nat.ne_of_beq_eq_false rfl) (px_get_ne (Nat.ne_of_beq_eq_false rfl) pg_57))))))))))
set_option maxRecDepth 100000 in
theorem pg_525 (a2 a3 a4 : Int32) : (ph_210 a2 a3 a4)[47]? = some (.inr (4, [.int 0, .int 0, .ref 48, .ref 56])) := (px_get_ne (Nat.ne_of_beq_eq_false rfl) (px_get_ne (Nat.ne_of_beq_eq_false rfl) (px_get_ne (Nat.ne_of_beq_eq_false rfl) (px_get_ne (Nat.ne_of_beq_eq_false rfl) (px_get_ne (Nat.ne_of_beq_eq_false rfl) (px_get_ne (Nat.ne_of_beq_eq_false rfl) (px_get_ne (Nat.ne_of_beq_eq_false rfl) (px_get_ne (Nat.ne_of_beq_eq_false rfl) (px_get_ne (Nat.ne_of_beq_eq_false rfl) (px_get_ne (Nat.ne_of_beq_eq_false rfl) pg_59))))))))))
set_option maxRecDepth 100000 in
theorem pg_526 (a2 a3 a4 : Int32) : (ph_210 a2 a3 a4)[62]? = some (.inr (4, [.int 0, .int 0, .ref 63, .ref 71])) := (px_get_ne (Nat.ne_of_beq_eq_false rfl) (px_get_ne (Nat.ne_of_beq_eq_false rfl) (px_get_ne (Nat.ne_of_beq_eq_false rfl) (px_get_ne (Nat.ne_of_beq_eq_false rfl) (px_get_ne (Nat.ne_of_beq_eq_false rfl) (px_get_ne (Nat.ne_of_beq_eq_false rfl) (px_get_ne (Nat.ne_of_beq_eq_false rfl) (px_get_ne (Nat.ne_of_beq_eq_false rfl) (px_get_ne (Nat.ne_of_beq_eq_false rfl) (px_get_ne (Nat.ne_of_beq_eq_false rfl) pg_61))))))))))
set_option maxRecDepth 100000 in
theorem pg_527 (a2 a3 a4 : Int32) : (ph_210 a2 a3 a4)[77]? = some (.inr (4, [.int 0, .int 0, .ref 78, .ref 86])) := (px_get_ne (Nat.ne_of_beq_eq_false rfl) (px_get_ne (Nat.ne_of_beq_eq_false rfl) (px_get_ne (Nat.ne_of_beq_eq_false rfl) (px_get_ne (Nat.ne_of_beq_eq_false rfl) (px_get_ne (Nat.ne_of_beq_eq_false rfl) (px_get_ne (Nat.ne_of_beq_eq_false rfl) (px_get_ne (Nat.ne_of_beq_eq_false rfl) (px_get_ne (Nat.ne_of_beq_eq_false rfl) (px_get_ne (Nat.ne_of_beq_eq_false rfl) (px_get_ne (Nat.ne_of_beq_eq_false rfl) pg_63))))))))))
set_option maxRecDepth 100000 in
theorem pg_528 (a2 a3 a4 : Int32) : (ph_210 a2 a3 a4)[94]? = some (.inl (0, .inl (List.replicate 42 (-1) ++ [0] ++ List.replicate 5 (-1)))) := (px_get_ne (Nat.ne_of_beq_eq_false rfl) (pg_517 a2 a3 a4))
set_option maxRecDepth 100000 in
theorem pl_189 (a2 a3 : Int32) : (ph_206 a2 a3).length = 165 := px_len_set (pl_188 a2)
set_option maxRecDepth 100000 in
theorem pl_190 (a2 a3 a4 : Int32) : (ph_207 a2 a3 a4).length = 165 := px_len_set (pl_189 a2 a3)
set_option maxRecDepth 100000 in
theorem pl_191 (a2 a3 a4 : Int32) : (ph_208 a2 a3 a4).length = 165 := px_len_set (pl_190 a2 a3 a4)
set_option maxRecDepth 100000 in
theorem pl_192 (a2 a3 a4 : Int32) : (ph_209 a2 a3 a4).length = 165 := px_len_set (pl_191 a2 a3 a4)
set_option maxRecDepth 100000 in
theorem pg_529 (a2 a3 a4 : Int32) : (ph_210 a2 a3 a4)[95]? = some (.inl (1, .inl (List.replicate 42 0 ++ [1] ++ List.replicate 5 0))) := (px_get_eq (pl_192 a2 a3 a4) (Nat.le_of_ble_eq_true rfl))
set_option maxRecDepth 100000 in
theorem pg_530 (a2 a3 a4 : Int32) : (ph_210 a2 a3 a4)[164]? = some (.inl (2, .inr (.inl ([0])))) := (px_get_ne (Nat.ne_of_beq_eq_false rfl) (px_get_ne (Nat.ne_of_beq_eq_false rfl) (px_get_ne (Nat.ne_of_beq_eq_false rfl) (px_get_ne (Nat.ne_of_beq_eq_false rfl) (px_get_ne (Nat.ne_of_beq_eq_false rfl) (px_get_ne (Nat.ne_of_beq_eq_false rfl) (px_get_ne (Nat.ne_of_beq_eq_false rfl) (px_get_ne (Nat.ne_of_beq_eq_false rfl) (px_get_ne (Nat.ne_of_beq_eq_false rfl) (px_get_ne (Nat.ne_of_beq_eq_false rfl) pg_9))))))))))
set_option maxRecDepth 100000 in
theorem pg_531 (a2 a3 a4 : Int32) : (ph_211 a2 a3 a4)[136]? = some (.inr (10, [.ref 137, .int 0, .int 0, .ref 138, .ref 151, .long 0])) := (px_get_ne (Nat.ne_of_beq_eq_false rfl) (px_get_ne (Nat.ne_of_beq_eq_false rfl) (px_get_ne (Nat.ne_of_beq_eq_false rfl) (px_get_ne (Nat.ne_of_beq_eq_false rfl) (px_get_ne (Nat.ne_of_beq_eq_false rfl) (px_get_ne (Nat.ne_of_beq_eq_false rfl) (px_get_ne (Nat.ne_of_beq_eq_false rfl) (px_get_ne (Nat.ne_of_beq_eq_false rfl) (px_get_ne (Nat.ne_of_beq_eq_false rfl) (px_get_ne (Nat.ne_of_beq_eq_false rfl) (px_get_ne (Nat.ne_of_beq_eq_false rfl) pg_1)))))))))))
set_option maxRecDepth 100000 in
theorem pl_193 (a2 a3 a4 : Int32) : (ph_210 a2 a3 a4).length = 165 := px_len_set (pl_192 a2 a3 a4)
set_option maxRecDepth 100000 in
theorem pl_194 (a2 a3 a4 : Int32) : (ph_211 a2 a3 a4).length = 165 := px_len_set (pl_193 a2 a3 a4)
set_option maxRecDepth 100000 in
theorem pg_532 (a2 a3 a4 : Int32) : (ph_212 a2 a3 a4)[136]? = some (.inr (10, [.ref 137, .int 0, .int 0, .ref 138, .ref 151, .long 0])) := (px_get_eq (pl_194 a2 a3 a4) (Nat.le_of_ble_eq_true rfl))
set_option maxRecDepth 100000 in
theorem pg_533 (a2 a3 a4 : Int32) : (ph_212 a2 a3 a4)[138]? = some (.inr (9, [.int 0, .int 0, .int 0, .ref 139, .ref 140, .ref 141, .ref 143, .ref 145, .ref 147, .ref 149, .ref 150, .int 0, .ref 136])) := (px_get_ne (Nat.ne_of_beq_eq_false rfl) (px_get_ne (Nat.ne_of_beq_eq_false rfl) (px_get_ne (Nat.ne_of_beq_eq_false rfl) (px_get_ne (Nat.ne_of_beq_eq_false rfl) (px_get_ne (Nat.ne_of_beq_eq_false rfl) (px_get_ne (Nat.ne_of_beq_eq_false rfl) (px_get_ne (Nat.ne_of_beq_eq_false rfl) (px_get_ne (Nat.ne_of_beq_eq_false rfl) (px_get_ne (Nat.ne_of_beq_eq_false rfl) (px_get_ne (Nat.ne_of_beq_eq_false rfl) (px_get_ne (Nat.ne_of_beq_eq_false rfl) (px_get_ne (Nat.ne_of_beq_eq_false rfl) pg_70))))))))))))
set_option maxRecDepth 100000 in
theorem pg_534 (a2 a3 a4 : Int32) : (ph_212 a2 a3 a4)[141]? = some (.inr (7, [.int 6, .int 0, .ref 142])) := (px_get_ne (Nat.ne_of_beq_eq_false rfl) (px_get_ne (Nat.ne_of_beq_eq_false rfl) (px_get_ne (Nat.ne_of_beq_eq_false rfl) (px_get_ne (Nat.ne_of_beq_eq_false rfl) (px_get_ne (Nat.ne_of_beq_eq_false rfl) (px_get_ne (Nat.ne_of_beq_eq_false rfl) (px_get_ne (Nat.ne_of_beq_eq_false rfl) (px_get_ne (Nat.ne_of_beq_eq_false rfl) (px_get_ne (Nat.ne_of_beq_eq_false rfl) (px_get_ne (Nat.ne_of_beq_eq_false rfl) (px_get_ne (Nat.ne_of_beq_eq_false rfl) (px_get_ne (Nat.ne_of_beq_eq_false rfl) pg_72))))))))))))
set_option maxRecDepth 100000 in
theorem pl_195 (a2 a3 a4 : Int32) : (ph_212 a2 a3 a4).length = 165 := px_len_set (pl_194 a2 a3 a4)
set_option maxRecDepth 100000 in
theorem pg_535 (a2 a3 a4 : Int32) : (ph_213 a2 a3 a4)[138]? = some (.inr (9, [.int 0, .int 0, .int 0, .ref 139, .ref 140, .ref 141, .ref 143, .ref 145, .ref 147, .ref 149, .ref 150, .int 0, .ref 136])) := (px_get_lt (pl_195 a2 a3 a4) (Nat.le_of_ble_eq_true rfl) (pg_533 a2 a3 a4))
set_option maxRecDepth 100000 in
theorem pg_536 (a2 a3 a4 : Int32) : (ph_213 a2 a3 a4)[165]? = some (.inl (0, .inl (List.replicate 6 0))) := (px_get_ge (k := 0) (pl_195 a2 a3 a4) rfl rfl)
set_option maxRecDepth 100000 in
theorem pl_196 (a2 a3 a4 : Int32) : (ph_213 a2 a3 a4).length = 166 := px_len_app (pl_195 a2 a3 a4) rfl
set_option maxRecDepth 100000 in
theorem pg_537 (a2 a3 a4 : Int32) : (ph_214 a2 a3 a4)[165]? = some (.inl (0, .inl (List.replicate 6 0))) := (px_get_eq (pl_196 a2 a3 a4) (Nat.le_of_ble_eq_true rfl))
set_option maxRecDepth 100000 in
theorem pl_197 (a2 a3 a4 : Int32) : (ph_214 a2 a3 a4).length = 166 := px_len_set (pl_196 a2 a3 a4)
set_option maxRecDepth 100000 in
theorem pg_538 (a2 a3 a4 : Int32) : (ph_215 a2 a3 a4)[165]? = some (.inl (0, .inl ([0, 7, 0, 0, 0, 0]))) := (px_get_eq (pl_197 a2 a3 a4) (Nat.le_of_ble_eq_true rfl))
set_option maxRecDepth 100000 in
theorem pl_198 (a2 a3 a4 : Int32) : (ph_215 a2 a3 a4).length = 166 := px_len_set (pl_197 a2 a3 a4)
set_option maxRecDepth 100000 in
theorem pg_539 (a2 a3 a4 : Int32) : (ph_216 a2 a3 a4)[165]? = some (.inl (0, .inl ([0, 7, a2, 0, 0, 0]))) := (px_get_eq (pl_198 a2 a3 a4) (Nat.le_of_ble_eq_true rfl))
set_option maxRecDepth 100000 in
theorem pl_199 (a2 a3 a4 : Int32) : (ph_216 a2 a3 a4).length = 166 := px_len_set (pl_198 a2 a3 a4)
set_option maxRecDepth 100000 in
theorem pg_540 (a2 a3 a4 : Int32) : (ph_217 a2 a3 a4)[165]? = some (.inl (0, .inl ([0, 7, a2, a3, 0, 0]))) := (px_get_eq (pl_199 a2 a3 a4) (Nat.le_of_ble_eq_true rfl))
set_option maxRecDepth 100000 in
theorem pl_200 (a2 a3 a4 : Int32) : (ph_217 a2 a3 a4).length = 166 := px_len_set (pl_199 a2 a3 a4)
set_option maxRecDepth 100000 in
theorem pg_541 (a2 a3 a4 : Int32) : (ph_218 a2 a3 a4)[165]? = some (.inl (0, .inl ([0, 7, a2, a3, a4, 0]))) := (px_get_eq (pl_200 a2 a3 a4) (Nat.le_of_ble_eq_true rfl))
set_option maxRecDepth 100000 in
theorem pg_542 (a2 a3 a4 : Int32) : (ph_219 a2 a3 a4)[141]? = some (.inr (7, [.int 6, .int 0, .ref 142])) := (px_get_ne (Nat.ne_of_beq_eq_false rfl) (px_get_ne (Nat.ne_of_beq_eq_false rfl) (px_get_ne (Nat.ne_of_beq_eq_false rfl) (px_get_ne (Nat.ne_of_beq_eq_false rfl) (px_get_ne (Nat.ne_of_beq_eq_false rfl) (px_get_ne (Nat.ne_of_beq_eq_false rfl) (px_get_lt (pl_195 a2 a3 a4) (Nat.le_of_ble_eq_true rfl) (pg_534 a2 a3 a4))))))))
set_option maxRecDepth 100000 in
theorem pg_543 (a2 a3 a4 : Int32) : (ph_219 a2 a3 a4)[142]? = some (.inl (0, .inl (List.replicate 96 0))) := (px_get_ne (Nat.ne_of_beq_eq_false rfl) (px_get_ne (Nat.ne_of_beq_eq_false rfl) (px_get_ne (Nat.ne_of_beq_eq_false rfl) (px_get_ne (Nat.ne_of_beq_eq_false rfl) (px_get_ne (Nat.ne_of_beq_eq_false rfl) (px_get_ne (Nat.ne_of_beq_eq_false rfl) (px_get_lt (pl_195 a2 a3 a4) (Nat.le_of_ble_eq_true rfl) (px_get_ne (Nat.ne_of_beq_eq_false rfl) (px_get_ne (Nat.ne_of_beq_eq_false rfl) (px_get_ne (Nat.ne_of_beq_eq_false rfl) (px_get_ne (Nat.ne_of_beq_eq_false rfl) (px_get_ne (Nat.ne_of_beq_eq_false rfl) (px_get_ne (Nat.ne_of_beq_eq_false rfl) (px_get_ne (Nat.ne_of_beq_eq_false rfl) (px_get_ne (Nat.ne_of_beq_eq_false rfl) (px_get_ne (Nat.ne_of_beq_eq_false rfl) (px_get_ne (Nat.ne_of_beq_eq_false rfl) (px_get_ne (Nat.ne_of_beq_eq_false rfl) (px_get_ne (Nat.ne_of_beq_eq_false rfl) pg_82)))))))))))))))))))
set_option maxRecDepth 100000 in
theorem pl_201 (a2 a3 a4 : Int32) : (ph_218 a2 a3 a4).length = 166 := px_len_set (pl_200 a2 a3 a4)
set_option maxRecDepth 100000 in
theorem pg_544 (a2 a3 a4 : Int32) : (ph_219 a2 a3 a4)[165]? = some (.inl (0, .inl ([0, 7, a2, a3, a4, 1]))) := (px_get_eq (pl_201 a2 a3 a4) (Nat.le_of_ble_eq_true rfl))
set_option maxRecDepth 100000 in
theorem pg_545 (a2 a3 a4 : Int32) : (ph_220 a2 a3 a4)[141]? = some (.inr (7, [.int 6, .int 0, .ref 142])) := (px_get_ne (Nat.ne_of_beq_eq_false rfl) (pg_542 a2 a3 a4))
set_option maxRecDepth 100000 in
theorem pg_546 (a2 a3 a4 : Int32) : (ph_221 a2 a3 a4)[138]? = some (.inr (9, [.int 0, .int 0, .int 0, .ref 139, .ref 140, .ref 141, .ref 143, .ref 145, .ref 147, .ref 149, .ref 150, .int 0, .ref 136])) := (px_get_ne (Nat.ne_of_beq_eq_false rfl) (px_get_ne (Nat.ne_of_beq_eq_false rfl) (px_get_ne (Nat.ne_of_beq_eq_false rfl) (px_get_ne (Nat.ne_of_beq_eq_false rfl) (px_get_ne (Nat.ne_of_beq_eq_false rfl) (px_get_ne (Nat.ne_of_beq_eq_false rfl) (px_get_ne (Nat.ne_of_beq_eq_false rfl) (px_get_ne (Nat.ne_of_beq_eq_false rfl) (pg_535 a2 a3 a4)))))))))
set_option maxRecDepth 100000 in
theorem pl_202 (a2 a3 a4 : Int32) : (ph_219 a2 a3 a4).length = 166 := px_len_set (pl_201 a2 a3 a4)
set_option maxRecDepth 100000 in
theorem pl_203 (a2 a3 a4 : Int32) : (ph_220 a2 a3 a4).length = 166 := px_len_set (pl_202 a2 a3 a4)
set_option maxRecDepth 100000 in
theorem pl_204 (a2 a3 a4 : Int32) : (ph_221 a2 a3 a4).length = 166 := px_len_set (pl_203 a2 a3 a4)
set_option maxRecDepth 100000 in
theorem pg_547 (a2 a3 a4 : Int32) : (ph_222 a2 a3 a4)[138]? = some (.inr (9, [.int 1, .int 0, .int 0, .ref 139, .ref 140, .ref 141, .ref 143, .ref 145, .ref 147, .ref 149, .ref 150, .int 0, .ref 136])) := (px_get_eq (pl_204 a2 a3 a4) (Nat.le_of_ble_eq_true rfl))
set_option maxRecDepth 100000 in
theorem pg_548 (a2 a3 a4 : Int32) : (ph_222 a2 a3 a4)[136]? = some (.inr (10, [.ref 137, .int 0, .int 0, .ref 138, .ref 151, .long 0])) := (px_get_ne (Nat.ne_of_beq_eq_false rfl) (px_get_ne (Nat.ne_of_beq_eq_false rfl) (px_get_ne (Nat.ne_of_beq_eq_false rfl) (px_get_ne (Nat.ne_of_beq_eq_false rfl) (px_get_ne (Nat.ne_of_beq_eq_false rfl) (px_get_ne (Nat.ne_of_beq_eq_false rfl) (px_get_ne (Nat.ne_of_beq_eq_false rfl) (px_get_ne (Nat.ne_of_beq_eq_false rfl) (px_get_ne (Nat.ne_of_beq_eq_false rfl) (px_get_lt (pl_195 a2 a3 a4) (Nat.le_of_ble_eq_true rfl) (pg_532 a2 a3 a4)))))))))))
set_option maxRecDepth 100000 in
theorem pg_549 (a2 a3 a4 : Int32) : (ph_222 a2 a3 a4)[147]? = some (.inr (7, [.int 6, .int 0, .ref 148])) := (px_get_ne (Nat.ne_of_beq_eq_false rfl) (px_get_ne (Nat.ne_of_beq_eq_false rfl) (px_get_ne (Nat.ne_of_beq_eq_false rfl) (px_get_ne (Nat.ne_of_beq_eq_false rfl) (px_get_ne (Nat.ne_of_beq_eq_false rfl) (px_get_ne (Nat.ne_of_beq_eq_false rfl) (px_get_ne (Nat.ne_of_beq_eq_false rfl) (px_get_ne (Nat.ne_of_beq_eq_false rfl) (px_get_ne (Nat.ne_of_beq_eq_false rfl) (px_get_lt (pl_195 a2 a3 a4) (Nat.le_of_ble_eq_true rfl) (px_get_ne (Nat.ne_of_beq_eq_false rfl) (px_get_ne (Nat.ne_of_beq_eq_false rfl) (px_get_ne (Nat.ne_of_beq_eq_false rfl) (px_get_ne (Nat.ne_of_beq_eq_false rfl) (px_get_ne (Nat.ne_of_beq_eq_false rfl) (px_get_ne (Nat.ne_of_beq_eq_false rfl) (px_get_ne (Nat.ne_of_beq_eq_false rfl) (px_get_ne (Nat.ne_of_beq_eq_false rfl) (px_get_ne (Nat.ne_of_beq_eq_false rfl) (px_get_ne (Nat.ne_of_beq_eq_false rfl) (px_get_ne (Nat.ne_of_beq_eq_false rfl) (px_get_ne (Nat.ne_of_beq_eq_false rfl) pg_89))))))))))))))))))))))
set_option maxRecDepth 100000 in
theorem pg_550 (a2 a3 a4 : Int32) : (ph_223 a2 a3 a4)[138]? = some (.inr (9, [.int 1, .int 0, .int 0, .ref 139, .ref 140, .ref 141, .ref 143, .ref 145, .ref 147, .ref 149, .ref 150, .int 0, .ref 136])) := (px_get_ne (Nat.ne_of_beq_eq_false rfl) (pg_547 a2 a3 a4))
set_option maxRecDepth 100000 in
theorem pl_205 (a2 a3 a4 : Int32) : (ph_222 a2 a3 a4).length = 166 := px_len_set (pl_204 a2 a3 a4)
set_option maxRecDepth 100000 in
theorem pl_206 (a2 a3 a4 : Int32) : (ph_223 a2 a3 a4).length = 166 := px_len_set (pl_205 a2 a3 a4)
set_option maxRecDepth 100000 in
theorem pg_551 (a2 a3 a4 : Int32) : (ph_224 a2 a3 a4)[138]? = some (.inr (9, [.int 1, .int 0, .int 0, .ref 139, .ref 140, .ref 141, .ref 143, .ref 145, .ref 147, .ref 149, .ref 150, .int 0, .ref 136])) := (px_get_eq (pl_206 a2 a3 a4) (Nat.le_of_ble_eq_true rfl))
set_option maxRecDepth 100000 in
theorem pg_552 (a2 a3 a4 : Int32) : (ph_224 a2 a3 a4)[136]? = some (.inr (10, [.ref 137, .int 0, .int 0, .ref 138, .ref 151, .long 0])) := (px_get_ne (Nat.ne_of_beq_eq_false rfl) (px_get_ne (Nat.ne_of_beq_eq_false rfl) (pg_548 a2 a3 a4)))
set_option maxRecDepth 100000 in
theorem pg_553 (a2 a3 a4 : Int32) : (ph_224 a2 a3 a4)[147]? = some (.inr (7, [.int 6, .int 0, .ref 148])) := (px_get_ne (Nat.ne_of_beq_eq_false rfl) (px_get_eq (pl_205 a2 a3 a4) (Nat.le_of_ble_eq_true rfl)))
set_option maxRecDepth 100000 in
theorem pg_554 (a2 a3 a4 : Int32) : (ph_224 a2 a3 a4)[143]? = some (.inr (7, [.int 6, .int 0, .ref 144])) := (px_get_ne (Nat.ne_of_beq_eq_false rfl) (px_get_ne (Nat.ne_of_beq_eq_false rfl) (px_get_ne (Nat.ne_of_beq_eq_false rfl) (px_get_ne (Nat.ne_of_beq_eq_false rfl) (px_get_ne (Nat.ne_of_beq_eq_false rfl) (px_get_ne (Nat.ne_of_beq_eq_false rfl) (px_get_ne (Nat.ne_of_beq_eq_false rfl) (px_get_ne (Nat.ne_of_beq_eq_false rfl) (px_get_ne (Nat.ne_of_beq_eq_false rfl) (px_get_ne (Nat.ne_of_beq_eq_false rfl) (px_get_ne (Nat.ne_of_beq_eq_false rfl) (px_get_lt (pl_195 a2 a3 a4) (Nat.le_of_ble_eq_true rfl) (px_get_ne (Nat.ne_of_beq_eq_false rfl) (px_get_ne (Nat.ne_of_beq_eq_false rfl) (px_get_ne (Nat.ne_of_beq_eq_false rfl) (px_get_ne (Nat.ne_of_beq_eq_false rfl) (px_get_ne (Nat.ne_of_beq_eq_false rfl) (px_get_ne (Nat.ne_of_beq_eq_false rfl) (px_get_ne (Nat.ne_of_beq_eq_false rfl) (px_get_ne (Nat.ne_of_beq_eq_false rfl) (px_get_ne (Nat.ne_of_beq_eq_false rfl) (px_get_ne (Nat.ne_of_beq_eq_false rfl) (px_get_ne (Nat.ne_of_beq_eq_false rfl) (px_get_ne (Nat.ne_of_beq_eq_false rfl) pg_95))))))))))))))))))))))))
set_option maxRecDepth 100000 in
theorem pl_207 (a2 a3 a4 : Int32) : (ph_224 a2 a3 a4).length = 166 := px_len_set (pl_206 a2 a3 a4)
set_option maxRecDepth 100000 in
theorem pg_555 (a2 a3 a4 : Int32) : (ph_225 a2 a3 a4)[143]? = some (.inr (7, [.int 6, .int 0, .ref 144])) := (px_get_eq (pl_207 a2 a3 a4) (Nat.le_of_ble_eq_true rfl))
set_option maxRecDepth 100000 in
theorem pg_556 (a2 a3 a4 : Int32) : (ph_225 a2 a3 a4)[144]? = some (.inl (0, .inl (List.replicate 96 0))) := (px_get_ne (Nat.ne_of_beq_eq_false rfl) (px_get_ne (Nat.ne_of_beq_eq_false rfl) (px_get_ne (Nat.ne_of_beq_eq_false rfl) (px_get_ne (Nat.ne_of_beq_eq_false rfl) (px_get_ne (Nat.ne_of_beq_eq_false rfl) (px_get_ne (Nat.ne_of_beq_eq_false rfl) (px_get_ne (Nat.ne_of_beq_eq_false rfl) (px_get_ne (Nat.ne_of_beq_eq_false rfl) (px_get_ne (Nat.ne_of_beq_eq_false rfl) (px_get_ne (Nat.ne_of_beq_eq_false rfl) (px_get_ne (Nat.ne_of_beq_eq_false rfl) (px_get_ne (Nat.ne_of_beq_eq_false rfl) (px_get_lt (pl_195 a2 a3 a4) (Nat.le_of_ble_eq_true rfl) (px_get_ne (Nat.ne_of_beq_eq_false rfl) (px_get_ne (Nat.ne_of_beq_eq_false rfl) (px_get_ne (Nat.ne_of_beq_eq_false rfl) (px_get_ne (Nat.ne_of_beq_eq_false rfl) (px_get_ne (Nat.ne_of_beq_eq_false rfl) (px_get_ne (Nat.ne_of_beq_eq_false rfl) (px_get_ne (Nat.ne_of_beq_eq_false rfl) (px_get_ne (Nat.ne_of_beq_eq_false rfl) (px_get_ne (Nat.ne_of_beq_eq_false rfl) (px_get_ne (Nat.ne_of_beq_eq_false rfl) (px_get_ne (Nat.ne_of_beq_eq_false rfl) (px_get_ne (Nat.ne_of_beq_eq_false rfl) pg_98)))))))))))))))))))))))))
set_option maxRecDepth 100000 in
theorem pg_557 (a2 a3 a4 : Int32) : (ph_225 a2 a3 a4)[147]? = some (.inr (7, [.int 6, .int 0, .ref 148])) := (px_get_ne (Nat.ne_of_beq_eq_false rfl) (pg_553 a2 a3 a4))
set_option maxRecDepth 100000 in
theorem pg_558 (a2 a3 a4 : Int32) : (ph_225 a2 a3 a4)[148]? = some (.inl (0, .inl (List.replicate 96 0))) := (px_get_ne (Nat.ne_of_beq_eq_false rfl) (px_get_ne (Nat.ne_of_beq_eq_false rfl) (px_get_ne (Nat.ne_of_beq_eq_false rfl) (px_get_ne (Nat.ne_of_beq_eq_false rfl) (px_get_ne (Nat.ne_of_beq_eq_false rfl) (px_get_ne (Nat.ne_of_beq_eq_false rfl) (px_get_ne (Nat.ne_of_beq_eq_false rfl) (px_get_ne (Nat.ne_of_beq_eq_false rfl) (px_get_ne (Nat.ne_of_beq_eq_false rfl) (px_get_ne (Nat.ne_of_beq_eq_false rfl) (px_get_ne (Nat.ne_of_beq_eq_false rfl) (px_get_ne (Nat.ne_of_beq_eq_false rfl) (px_get_lt (pl_195 a2 a3 a4) (Nat.le_of_ble_eq_true rfl) (px_get_ne (Nat.ne_of_beq_eq_false rfl) (px_get_ne (Nat.ne_of_beq_eq_false rfl) (px_get_ne (Nat.ne_of_beq_eq_false rfl) (px_get_ne (Nat.ne_of_beq_eq_false rfl) (px_get_ne (Nat.ne_of_beq_eq_false rfl) (px_get_ne (Nat.ne_of_beq_eq_false rfl) (px_get_ne (Nat.ne_of_beq_eq_false rfl) (px_get_ne (Nat.ne_of_beq_eq_false rfl) (px_get_ne (Nat.ne_of_beq_eq_false rfl) (px_get_ne (Nat.ne_of_beq_eq_false rfl) (px_get_ne (Nat.ne_of_beq_eq_false rfl) (px_get_ne (Nat.ne_of_beq_eq_false rfl) pg_101)))))))))))))))))))))))))
set_option maxRecDepth 100000 in
theorem pg_559 (a2 a3 a4 : Int32) : (ph_226 a2 a3 a4)[138]? = some (.inr (9, [.int 1, .int 0, .int 0, .ref 139, .ref 140, .ref 141, .ref 143, .ref 145, .ref 147, .ref 149, .ref 150, .int 0, .ref 136])) := (px_get_ne (Nat.ne_of_beq_eq_false rfl) (px_get_ne (Nat.ne_of_beq_eq_false rfl) (pg_551 a2 a3 a4)))
set_option maxRecDepth 100000 in
theorem pg_560 (a2 a3 a4 : Int32) : (ph_226 a2 a3 a4)[145]? = some (.inr (7, [.int 2, .int 0, .ref 146])) := (px_get_ne (Nat.ne_of_beq_eq_false rfl) (px_get_ne (Nat.ne_of_beq_eq_false rfl) (px_get_ne (Nat.ne_of_beq_eq_false rfl) (px_get_ne (Nat.ne_of_beq_eq_false rfl) (px_get_ne (Nat.ne_of_beq_eq_false rfl) (px_get_ne (Nat.ne_of_beq_eq_false rfl) (px_get_ne (Nat.ne_of_beq_eq_false rfl) (px_get_ne (Nat.ne_of_beq_eq_false rfl) (px_get_ne (Nat.ne_of_beq_eq_false rfl) (px_get_ne (Nat.ne_of_beq_eq_false rfl) (px_get_ne (Nat.ne_of_beq_eq_false rfl) (px_get_ne (Nat.ne_of_beq_eq_false rfl) (px_get_ne (Nat.ne_of_beq_eq_false rfl) (px_get_lt (pl_195 a2 a3 a4) (Nat.le_of_ble_eq_true rfl) (px_get_ne (Nat.ne_of_beq_eq_false rfl) (px_get_ne (Nat.ne_of_beq_eq_false rfl) (px_get_ne (Nat.ne_of_beq_eq_false rfl) (px_get_ne (Nat.ne_of_beq_eq_false rfl) (px_get_ne (Nat.ne_of_beq_eq_false rfl) (px_get_ne (Nat.ne_of_beq_eq_false rfl) (px_get_ne (Nat.ne_of_beq_eq_false rfl) (px_get_ne (Nat.ne_of_beq_eq_false rfl) (px_get_ne (Nat.ne_of_beq_eq_false rfl) (px_get_ne (Nat.ne_of_beq_eq_false rfl) (px_get_ne (Nat.ne_of_beq_eq_false rfl) (px_get_ne (Nat.ne_of_beq_eq_false rfl) pg_104))))))))))))))))))))))))))
set_option maxRecDepth 100000 in
theorem pg_561 (a2 a3 a4 : Int32) : (ph_226 a2 a3 a4)[141]? = some (.inr (7, [.int 6, .int 1, .ref 142])) := (px_get_ne (Nat.ne_of_beq_eq_false rfl) (px_get_ne (Nat.ne_of_beq_eq_false rfl) (px_get_ne (Nat.ne_of_beq_eq_false rfl) (px_get_ne (Nat.ne_of_beq_eq_false rfl) (px_get_ne (Nat.ne_of_beq_eq_false rfl) (px_get_eq (pl_203 a2 a3 a4) (Nat.le_of_ble_eq_true rfl)))))))
set_option maxRecDepth 100000 in
theorem pg_562 (a2 a3 a4 : Int32) : (ph_226 a2 a3 a4)[142]? = some (.inl (0, .inl ([0] ++ [7] ++ [a2] ++ [a3] ++ [a4] ++ [1] ++ List.replicate 90 0))) := (px_get_ne (Nat.ne_of_beq_eq_false rfl) (px_get_ne (Nat.ne_of_beq_eq_false rfl) (px_get_ne (Nat.ne_of_beq_eq_false rfl) (px_get_ne (Nat.ne_of_beq_eq_false rfl) (px_get_ne (Nat.ne_of_beq_eq_false rfl) (px_get_ne (Nat.ne_of_beq_eq_false rfl) (px_get_eq (pl_202 a2 a3 a4) (Nat.le_of_ble_eq_true rfl))))))))
set_option maxRecDepth 100000 in
theorem pg_563 (a2 a3 a4 : Int32) : (ph_226 a2 a3 a4)[136]? = some (.inr (10, [.ref 137, .int 0, .int 0, .ref 138, .ref 151, .long 0])) := (px_get_ne (Nat.ne_of_beq_eq_false rfl) (px_get_ne (Nat.ne_of_beq_eq_false rfl) (pg_552 a2 a3 a4)))
set_option maxRecDepth 100000 in
theorem pg_564 (a2 a3 a4 : Int32) : (ph_226 a2 a3 a4)[164]? = some (.inl (2, .inr (.inl ([0])))) := (px_get_ne (Nat.ne_of_beq_eq_false rfl) (px_get_ne (Nat.ne_of_beq_eq_false rfl) (px_get_ne (Nat.ne_of_beq_eq_false rfl) (px_get_ne (Nat.ne_of_beq_eq_false rfl) (px_get_ne (Nat.ne_of_beq_eq_false rfl) (px_get_ne (Nat.ne_of_beq_eq_false rfl) (px_get_ne (Nat.ne_of_beq_eq_false rfl) (px_get_ne (Nat.ne_of_beq_eq_false rfl) (px_get_ne (Nat.ne_of_beq_eq_false rfl) (px_get_ne (Nat.ne_of_beq_eq_false rfl) (px_get_ne (Nat.ne_of_beq_eq_false rfl) (px_get_ne (Nat.ne_of_beq_eq_false rfl) (px_get_ne (Nat.ne_of_beq_eq_false rfl) (px_get_lt (pl_195 a2 a3 a4) (Nat.le_of_ble_eq_true rfl) (px_get_ne (Nat.ne_of_beq_eq_false rfl) (px_get_eq (pl_193 a2 a3 a4) (Nat.le_of_ble_eq_true rfl)))))))))))))))))
set_option maxRecDepth 100000 in
theorem pg_565 : ph_16[138]? = some (.inr (9, [.int 0, .int 0, .int 0, .ref 139, .ref 140, .ref 141, .ref 143, .ref 145, .ref 147, .ref 149, .ref 150, .int 0, .ref 136])) := (px_get_lt pl_0 (Nat.le_of_ble_eq_true rfl) pg_70)
set_option maxRecDepth 100000 in
theorem pg_566 : ph_16[141]? = some (.inr (7, [.int 6, .int 0, .ref 142])) := (px_get_lt pl_0 (Nat.le_of_ble_eq_true rfl) pg_72)
set_option maxRecDepth 100000 in
theorem pg_567 : ph_227[136]? = some (.inr (10, [.ref 137, .int 0, .int 1, .ref 138, .ref 151, .long 0])) := (px_get_eq pl_14 (Nat.le_of_ble_eq_true rfl))
set_option maxRecDepth 100000 in
theorem pg_568 : ph_228[136]? = some (.inr (10, [.ref 137, .int 0, .int 0, .ref 138, .ref 151, .long 0])) := (px_get_ne (Nat.ne_of_beq_eq_false rfl) pg_1)
set_option maxRecDepth 100000 in
theorem pl_208 : ph_228.length = 165 := px_len_set pl_0
set_option maxRecDepth 100000 in
theorem pg_569 : ph_229[136]? = some (.inr (10, [.ref 137, .int 0, .int 0, .ref 138, .ref 151, .long 0])) := (px_get_eq pl_208 (Nat.le_of_ble_eq_true rfl))
set_option maxRecDepth 100000 in
theorem pg_570 : ph_229[138]? = some (.inr (9, [.int 0, .int 0, .int 0, .ref 139, .ref 140, .ref 141, .ref 143, .ref 145, .ref 147, .ref 149, .ref 150, .int 0, .ref 136])) := (px_get_ne (Nat.ne_of_beq_eq_false rfl) (px_get_ne (Nat.ne_of_beq_eq_false rfl) pg_70))
set_option maxRecDepth 100000 in
theorem pg_571 : ph_229[143]? = some (.inr (7, [.int 6, .int 0, .ref 144])) := (px_get_ne (Nat.ne_of_beq_eq_false rfl) (px_get_ne (Nat.ne_of_beq_eq_false rfl) pg_95))
set_option maxRecDepth 100000 in
theorem pg_572 : ph_229[164]? = some (.inl (2, .inr (.inl ([0])))) := (px_get_ne (Nat.ne_of_beq_eq_false rfl) (px_get_eq pl_0 (Nat.le_of_ble_eq_true rfl)))
set_option maxRecDepth 100000 in
theorem pg_573 : ph_230[136]? = some (.inr (10, [.ref 137, .int 0, .int 0, .ref 138, .ref 151, .long 0])) := (px_get_eq pl_0 (Nat.le_of_ble_eq_true rfl))
set_option maxRecDepth 100000 in
theorem pg_574 : ph_230[138]? = some (.inr (9, [.int 0, .int 0, .int 0, .ref 139, .ref 140, .ref 141, .ref 143, .ref 145, .ref 147, .ref 149, .ref 150, .int 0, .ref 136])) := (px_get_ne (Nat.ne_of_beq_eq_false rfl) pg_70)
set_option maxRecDepth 100000 in
theorem pg_575 : ph_230[141]? = some (.inr (7, [.int 6, .int 0, .ref 142])) := (px_get_ne (Nat.ne_of_beq_eq_false rfl) pg_72)
set_option maxRecDepth 100000 in
theorem pg_576 : ph_231[136]? = some (.inr (10, [.ref 137, .int 0, .int 1, .ref 138, .ref 151, .long 0])) := (px_get_eq pl_0 (Nat.le_of_ble_eq_true rfl))
set_option maxRecDepth 100000 in
theorem pg_577 : ph_230[143]? = some (.inr (7, [.int 6, .int 0, .ref 144])) := (px_get_ne (Nat.ne_of_beq_eq_false rfl) pg_95)
set_option maxRecDepth 100000 in
theorem pg_578 : px_hs[99]? = some (.inr (3, [.ref 100, .ref 101, .ref 102, .ref 103, .ref 104, .ref 105, .ref 106, .ref 107, .ref 108, .ref 109])) := rfl
set_option maxRecDepth 100000 in
theorem pg_579 : px_hs[114]? = some (.inr (5, [.ref 1, .ref 115, .ref 121, .ref 132, .int 0, .ref 133, .ref 134, .ref 135])) := rfl
set_option maxRecDepth 100000 in
theorem pg_580 : px_hs[115]? = some (.inr (2, [.int 0, .int 0, .ref 116, .ref 117, .ref 118, .ref 119, .ref 120])) := rfl
set_option maxRecDepth 100000 in
theorem pg_581 : px_hs[151]? = some (.inr (9, [.int 0, .int 0, .int 0, .ref 152, .ref 153, .ref 154, .ref 156, .ref 158, .ref 160, .ref 162, .ref 163, .int 0, .ref 136])) := rfl
set_option maxRecDepth 100000 in
theorem pg_582 : ph_229[151]? = some (.inr (9, [.int 0, .int 0, .int 0, .ref 152, .ref 153, .ref 154, .ref 156, .ref 158, .ref 160, .ref 162, .ref 163, .int 0, .ref 136])) := (px_get_ne (Nat.ne_of_beq_eq_false rfl) (px_get_ne (Nat.ne_of_beq_eq_false rfl) pg_581))
set_option maxRecDepth 100000 in
theorem pg_583 : px_hs[156]? = some (.inr (7, [.int 6, .int 0, .ref 157])) := rfl
set_option maxRecDepth 100000 in
theorem pg_584 : ph_229[156]? = some (.inr (7, [.int 6, .int 0, .ref 157])) := (px_get_ne (Nat.ne_of_beq_eq_false rfl) (px_get_ne (Nat.ne_of_beq_eq_false rfl) pg_583))
set_option maxRecDepth 100000 in
theorem pg_585 : px_hs[154]? = some (.inr (7, [.int 6, .int 0, .ref 155])) := rfl
set_option maxRecDepth 100000 in
theorem pg_586 : ph_229[154]? = some (.inr (7, [.int 6, .int 0, .ref 155])) := (px_get_ne (Nat.ne_of_beq_eq_false rfl) (px_get_ne (Nat.ne_of_beq_eq_false rfl) pg_585))
set_option maxRecDepth 100000 in
theorem pg_587 : ph_233[136]? = some (.inr (10, [.ref 137, .int 0, .int 1, .ref 138, .ref 151, .long 0])) := (px_get_eq pl_1 (Nat.le_of_ble_eq_true rfl))
set_option maxRecDepth 100000 in
theorem pg_588 : px_hs[116]? = some (.inl (0, .inl (List.replicate 48 (-1)))) := rfl
set_option maxRecDepth 100000 in
theorem pg_589 : ph_234[136]? = some (.inr (10, [.ref 137, .int 0, .int 0, .ref 138, .ref 151, .long 0])) := (px_get_ne (Nat.ne_of_beq_eq_false rfl) pg_1)
