set_option maxRecDepth 100000 in
theorem pl_0 : px_hs.length = 165 := rfl
set_option maxRecDepth 100000 in
theorem pg_0 : px_hs[0]? = some (.inr (6, [.ref 1, .int 0, .ref 92, .ref 114])) := rfl
set_option maxRecDepth 100000 in
theorem pg_1 : px_hs[136]? = some (.inr (10, [.ref 137, .int 0, .int 0, .ref 138, .ref 151, .long 0])) := rfl
set_option maxRecDepth 100000 in
theorem pg_2 : ph_1[136]? = some (.inr (10, [.ref 137, .int 0, .int 0, .ref 138, .ref 151, .long 0])) := (px_get_lt pl_0 (Nat.le_of_ble_eq_true rfl) pg_1)
set_option maxRecDepth 100000 in
theorem pl_1 : ph_1.length = 166 := px_len_app pl_0 rfl
set_option maxRecDepth 100000 in
theorem pg_3 : ph_2[136]? = some (.inr (10, [.ref 137, .int 0, .int 1, .ref 138, .ref 151, .long 0])) := (px_get_eq pl_1 (Nat.le_of_ble_eq_true rfl))
set_option maxRecDepth 100000 in
theorem pg_4 : px_hs[1]? = some (.inl (3, .inr (.inr ([some 2, some 17, some 32, some 47, some 62, some 77])))) := rfl
set_option maxRecDepth 100000 in
theorem pg_5 : px_hs[2]? = some (.inr (4, [.int 0, .int 0, .ref 3, .ref 11])) := rfl
set_option maxRecDepth 100000 in
theorem pg_6 (a1 : Int32) : (ph_3 a1)[0]? = some (.inr (6, [.ref 1, .int 0, .ref 92, .ref 114])) := (px_get_ne (Nat.ne_of_beq_eq_false rfl) pg_0)
set_option maxRecDepth 100000 in
theorem pl_2 (a1 : Int32) : (ph_3 a1).length = 165 := px_len_set pl_0
set_option maxRecDepth 100000 in
theorem pg_7 (a1 : Int32) : (ph_4 a1)[0]? = some (.inr (6, [.ref 1, .int 1, .ref 92, .ref 114])) := (px_get_eq (pl_2 a1) (Nat.le_of_ble_eq_true rfl))
set_option maxRecDepth 100000 in
theorem pg_8 : px_hs[164]? = some (.inl (2, .inr (.inl ([0])))) := rfl
set_option maxRecDepth 100000 in
theorem pg_9 (a1 : Int32) : (ph_4 a1)[164]? = some (.inl (2, .inr (.inl ([0])))) := (px_get_ne (Nat.ne_of_beq_eq_false rfl) (px_get_ne (Nat.ne_of_beq_eq_false rfl) pg_8))
set_option maxRecDepth 100000 in
theorem pg_10 (a1 : Int32) : (ph_5 a1)[136]? = some (.inr (10, [.ref 137, .int 0, .int 0, .ref 138, .ref 151, .long 0])) := (px_get_ne (Nat.ne_of_beq_eq_false rfl) (px_get_ne (Nat.ne_of_beq_eq_false rfl) (px_get_ne (Nat.ne_of_beq_eq_false rfl) pg_1)))
set_option maxRecDepth 100000 in
theorem pl_3 (a1 : Int32) : (ph_4 a1).length = 165 := px_len_set (pl_2 a1)
set_option maxRecDepth 100000 in
theorem pl_4 (a1 : Int32) : (ph_5 a1).length = 165 := px_len_set (pl_3 a1)
set_option maxRecDepth 100000 in
theorem pl_5 (a1 : Int32) : (ph_6 a1).length = 166 := px_len_app (pl_4 a1) rfl
set_option maxRecDepth 100000 in
theorem pg_11 (a1 : Int32) : (ph_7 a1)[165]? = some (.inr (8, [.int 0, .int 0, .int 0, .null, .null])) := (px_get_lt (pl_5 a1) (Nat.le_of_ble_eq_true rfl) (px_get_ge (k := 0) (pl_4 a1) rfl rfl))
set_option maxRecDepth 100000 in
theorem pl_6 (a1 : Int32) : (ph_7 a1).length = 171 := px_len_app (pl_5 a1) rfl
set_option maxRecDepth 100000 in
theorem pl_7 (a1 : Int32) : (ph_8 a1).length = 171 := px_len_set (pl_6 a1)
set_option maxRecDepth 100000 in
theorem pg_12 (a1 : Int32) : (ph_9 a1)[165]? = some (.inr (8, [.int 0, .int 0, .int 0, .ref 166, .null])) := (px_get_lt (pl_7 a1) (Nat.le_of_ble_eq_true rfl) (px_get_eq (pl_6 a1) (Nat.le_of_ble_eq_true rfl)))
set_option maxRecDepth 100000 in
theorem pl_8 (a1 : Int32) : (ph_9 a1).length = 175 := px_len_app (pl_7 a1) rfl
set_option maxRecDepth 100000 in
theorem pg_13 (a1 : Int32) : (ph_10 a1)[165]? = some (.inr (8, [.int 0, .int 0, .int 0, .ref 166, .ref 171])) := (px_get_eq (pl_8 a1) (Nat.le_of_ble_eq_true rfl))
set_option maxRecDepth 100000 in
theorem pg_14 : px_hs[137]? = some (.inl (4, .inr (.inr (List.replicate 6 none)))) := rfl
set_option maxRecDepth 100000 in
theorem pg_15 (a1 : Int32) : (ph_11 a1)[137]? = some (.inl (4, .inr (.inr (List.replicate 6 none)))) := (px_get_ne (Nat.ne_of_beq_eq_false rfl) (px_get_ne (Nat.ne_of_beq_eq_false rfl) (px_get_lt (pl_7 a1) (Nat.le_of_ble_eq_true rfl) (px_get_ne (Nat.ne_of_beq_eq_false rfl) (px_get_lt (pl_5 a1) (Nat.le_of_ble_eq_true rfl) (px_get_lt (pl_4 a1) (Nat.le_of_ble_eq_true rfl) (px_get_ne (Nat.ne_of_beq_eq_false rfl) (px_get_ne (Nat.ne_of_beq_eq_false rfl) (px_get_ne (Nat.ne_of_beq_eq_false rfl) pg_14)))))))))
set_option maxRecDepth 100000 in
theorem pl_9 (a1 : Int32) : (ph_10 a1).length = 175 := px_len_set (pl_8 a1)
set_option maxRecDepth 100000 in
theorem pg_16 (a1 : Int32) : (ph_11 a1)[165]? = some (.inr (8, [.int a1, .int 0, .int 0, .ref 166, .ref 171])) := (px_get_eq (pl_9 a1) (Nat.le_of_ble_eq_true rfl))
set_option maxRecDepth 100000 in
theorem pg_17 (a1 : Int32) : (ph_12 a1)[136]? = some (.inr (10, [.ref 137, .int 0, .int 0, .ref 138, .ref 151, .long 0])) := (px_get_ne (Nat.ne_of_beq_eq_false rfl) (px_get_ne (Nat.ne_of_beq_eq_false rfl) (px_get_ne (Nat.ne_of_beq_eq_false rfl) (px_get_lt (pl_7 a1) (Nat.le_of_ble_eq_true rfl) (px_get_ne (Nat.ne_of_beq_eq_false rfl) (px_get_lt (pl_5 a1) (Nat.le_of_ble_eq_true rfl) (px_get_lt (pl_4 a1) (Nat.le_of_ble_eq_true rfl) (pg_10 a1))))))))
set_option maxRecDepth 100000 in
theorem pl_10 (a1 : Int32) : (ph_11 a1).length = 175 := px_len_set (pl_9 a1)
set_option maxRecDepth 100000 in
theorem pl_11 (a1 : Int32) : (ph_12 a1).length = 175 := px_len_set (pl_10 a1)
set_option maxRecDepth 100000 in
theorem pg_18 (a1 : Int32) : (ph_13 a1)[136]? = some (.inr (10, [.ref 137, .int 1, .int 0, .ref 138, .ref 151, .long 0])) := (px_get_eq (pl_11 a1) (Nat.le_of_ble_eq_true rfl))
set_option maxRecDepth 100000 in
theorem pg_19 (a1 : Int32) : (ph_13 a1)[164]? = some (.inl (2, .inr (.inl ([0])))) := (px_get_ne (Nat.ne_of_beq_eq_false rfl) (px_get_ne (Nat.ne_of_beq_eq_false rfl) (px_get_ne (Nat.ne_of_beq_eq_false rfl) (px_get_ne (Nat.ne_of_beq_eq_false rfl) (px_get_lt (pl_7 a1) (Nat.le_of_ble_eq_true rfl) (px_get_ne (Nat.ne_of_beq_eq_false rfl) (px_get_lt (pl_5 a1) (Nat.le_of_ble_eq_true rfl) (px_get_lt (pl_4 a1) (Nat.le_of_ble_eq_true rfl) (px_get_eq (pl_3 a1) (Nat.le_of_ble_eq_true rfl))))))))))
set_option maxRecDepth 100000 in
theorem pg_20 : ph_14[136]? = some (.inr (10, [.ref 137, .int 0, .int 0, .ref 138, .ref 151, .long 0])) := (px_get_lt pl_0 (Nat.le_of_ble_eq_true rfl) pg_1)
set_option maxRecDepth 100000 in
theorem pl_12 : ph_14.length = 166 := px_len_app pl_0 rfl
set_option maxRecDepth 100000 in
theorem pg_21 : ph_15[136]? = some (.inr (10, [.ref 137, .int 0, .int 1, .ref 138, .ref 151, .long 0])) := (px_get_eq pl_12 (Nat.le_of_ble_eq_true rfl))
set_option maxRecDepth 100000 in
theorem pg_22 : px_hs[92]? = some (.inr (5, [.ref 1, .ref 93, .ref 99, .ref 110, .int 0, .ref 111, .ref 112, .ref 113])) := rfl
set_option maxRecDepth 100000 in
theorem pg_23 : px_hs[93]? = some (.inr (2, [.int 0, .int 0, .ref 94, .ref 95, .ref 96, .ref 97, .ref 98])) := rfl
set_option maxRecDepth 100000 in
theorem pg_24 : px_hs[94]? = some (.inl (0, .inl (List.replicate 48 (-1)))) := rfl
set_option maxRecDepth 100000 in
theorem pg_25 : px_hs[97]? = some (.inl (0, .inl (List.replicate 8 0))) := rfl
set_option maxRecDepth 100000 in
theorem pg_26 : ph_16[93]? = some (.inr (2, [.int 0, .int 0, .ref 94, .ref 95, .ref 96, .ref 97, .ref 98])) := (px_get_ne (Nat.ne_of_beq_eq_false rfl) pg_23)
set_option maxRecDepth 100000 in
theorem pl_13 : ph_16.length = 165 := px_len_set pl_0
set_option maxRecDepth 100000 in
theorem pg_27 : ph_17[93]? = some (.inr (2, [.int 1, .int 0, .ref 94, .ref 95, .ref 96, .ref 97, .ref 98])) := (px_get_eq pl_13 (Nat.le_of_ble_eq_true rfl))
set_option maxRecDepth 100000 in
theorem pl_14 : ph_17.length = 165 := px_len_set pl_13
set_option maxRecDepth 100000 in
theorem pg_28 : ph_18[93]? = some (.inr (2, [.int 1, .int 1, .ref 94, .ref 95, .ref 96, .ref 97, .ref 98])) := (px_get_eq pl_14 (Nat.le_of_ble_eq_true rfl))
set_option maxRecDepth 100000 in
theorem pg_29 : px_hs[95]? = some (.inl (1, .inl (List.replicate 48 0))) := rfl
set_option maxRecDepth 100000 in
theorem pg_30 : ph_18[95]? = some (.inl (1, .inl (List.replicate 48 0))) := (px_get_ne (Nat.ne_of_beq_eq_false rfl) (px_get_ne (Nat.ne_of_beq_eq_false rfl) (px_get_ne (Nat.ne_of_beq_eq_false rfl) pg_29)))
set_option maxRecDepth 100000 in
theorem pg_31 : ph_19[93]? = some (.inr (2, [.int 1, .int 1, .ref 94, .ref 95, .ref 96, .ref 97, .ref 98])) := (px_get_ne (Nat.ne_of_beq_eq_false rfl) pg_28)
set_option maxRecDepth 100000 in
theorem pg_32 : px_hs[96]? = some (.inl (0, .inl (List.replicate 144 0))) := rfl
set_option maxRecDepth 100000 in
theorem pg_33 : ph_19[96]? = some (.inl (0, .inl (List.replicate 144 0))) := (px_get_ne (Nat.ne_of_beq_eq_false rfl) (px_get_ne (Nat.ne_of_beq_eq_false rfl) (px_get_ne (Nat.ne_of_beq_eq_false rfl) (px_get_ne (Nat.ne_of_beq_eq_false rfl) pg_32))))
set_option maxRecDepth 100000 in
theorem pg_34 (a2 : Int32) : (ph_20 a2)[93]? = some (.inr (2, [.int 1, .int 1, .ref 94, .ref 95, .ref 96, .ref 97, .ref 98])) := (px_get_ne (Nat.ne_of_beq_eq_false rfl) pg_31)
set_option maxRecDepth 100000 in
theorem pl_15 : ph_18.length = 165 := px_len_set pl_14
set_option maxRecDepth 100000 in
theorem pl_16 : ph_19.length = 165 := px_len_set pl_15
set_option maxRecDepth 100000 in
theorem pg_35 (a2 : Int32) : (ph_20 a2)[96]? = some (.inl (0, .inl ([a2] ++ List.replicate 143 0))) := (px_get_eq pl_16 (Nat.le_of_ble_eq_true rfl))
set_option maxRecDepth 100000 in
theorem pg_36 (a2 a3 : Int32) : (ph_21 a2 a3)[93]? = some (.inr (2, [.int 1, .int 1, .ref 94, .ref 95, .ref 96, .ref 97, .ref 98])) := (px_get_ne (Nat.ne_of_beq_eq_false rfl) (pg_34 a2))
set_option maxRecDepth 100000 in
theorem pl_17 (a2 : Int32) : (ph_20 a2).length = 165 := px_len_set pl_16
set_option maxRecDepth 100000 in
theorem pg_37 (a2 a3 : Int32) : (ph_21 a2 a3)[96]? = some (.inl (0, .inl ([a2] ++ [a3] ++ List.replicate 142 0))) := (px_get_eq (pl_17 a2) (Nat.le_of_ble_eq_true rfl))
set_option maxRecDepth 100000 in
theorem pg_38 (a2 a3 a4 : Int32) : (ph_22 a2 a3 a4)[93]? = some (.inr (2, [.int 1, .int 1, .ref 94, .ref 95, .ref 96, .ref 97, .ref 98])) := (px_get_ne (Nat.ne_of_beq_eq_false rfl) (pg_36 a2 a3))
set_option maxRecDepth 100000 in
theorem pg_39 (a2 a3 a4 : Int32) : (ph_22 a2 a3 a4)[97]? = some (.inl (0, .inl (List.replicate 8 0))) := (px_get_ne (Nat.ne_of_beq_eq_false rfl) (px_get_ne (Nat.ne_of_beq_eq_false rfl) (px_get_ne (Nat.ne_of_beq_eq_false rfl) (px_get_ne (Nat.ne_of_beq_eq_false rfl) (px_get_ne (Nat.ne_of_beq_eq_false rfl) (px_get_ne (Nat.ne_of_beq_eq_false rfl) (px_get_ne (Nat.ne_of_beq_eq_false rfl) pg_25)))))))
set_option maxRecDepth 100000 in
theorem pg_40 : px_hs[98]? = some (.inl (0, .inl (List.replicate 48 0))) := rfl
set_option maxRecDepth 100000 in
theorem pg_41 (a2 a3 a4 : Int32) : (ph_22 a2 a3 a4)[98]? = some (.inl (0, .inl (List.replicate 48 0))) := (px_get_ne (Nat.ne_of_beq_eq_false rfl) (px_get_ne (Nat.ne_of_beq_eq_false rfl) (px_get_ne (Nat.ne_of_beq_eq_false rfl) (px_get_ne (Nat.ne_of_beq_eq_false rfl) (px_get_ne (Nat.ne_of_beq_eq_false rfl) (px_get_ne (Nat.ne_of_beq_eq_false rfl) (px_get_ne (Nat.ne_of_beq_eq_false rfl) pg_40)))))))
set_option maxRecDepth 100000 in
theorem pg_42 (a2 a3 a4 : Int32) : (ph_23 a2 a3 a4)[93]? = some (.inr (2, [.int 1, .int 1, .ref 94, .ref 95, .ref 96, .ref 97, .ref 98])) := (px_get_ne (Nat.ne_of_beq_eq_false rfl) (pg_38 a2 a3 a4))
set_option maxRecDepth 100000 in
theorem pg_43 (a2 a3 a4 : Int32) : (ph_23 a2 a3 a4)[97]? = some (.inl (0, .inl (List.replicate 8 0))) := (px_get_ne (Nat.ne_of_beq_eq_false rfl) (pg_39 a2 a3 a4))
set_option maxRecDepth 100000 in
theorem pg_44 (a2 a3 a4 : Int32) : (ph_24 a2 a3 a4)[92]? = some (.inr (5, [.ref 1, .ref 93, .ref 99, .ref 110, .int 0, .ref 111, .ref 112, .ref 113])) := (px_get_ne (Nat.ne_of_beq_eq_false rfl) (px_get_ne (Nat.ne_of_beq_eq_false rfl) (px_get_ne (Nat.ne_of_beq_eq_false rfl) (px_get_ne (Nat.ne_of_beq_eq_false rfl) (px_get_ne (Nat.ne_of_beq_eq_false rfl) (px_get_ne (Nat.ne_of_beq_eq_false rfl) (px_get_ne (Nat.ne_of_beq_eq_false rfl) (px_get_ne (Nat.ne_of_beq_eq_false rfl) (px_get_ne (Nat.ne_of_beq_eq_false rfl) pg_22)))))))))
set_option maxRecDepth 100000 in
theorem pg_45 (a2 a3 a4 : Int32) : (ph_24 a2 a3 a4)[93]? = some (.inr (2, [.int 1, .int 1, .ref 94, .ref 95, .ref 96, .ref 97, .ref 98])) := (px_get_ne (Nat.ne_of_beq_eq_false rfl) (pg_42 a2 a3 a4))
set_option maxRecDepth 100000 in
theorem pg_46 (a2 a3 a4 : Int32) : (ph_24 a2 a3 a4)[94]? = some (.inl (0, .inl ([0] ++ List.replicate 47 (-1)))) := (px_get_ne (Nat.ne_of_beq_eq_false rfl) (px_get_ne (Nat.ne_of_beq_eq_false rfl) (px_get_ne (Nat.ne_of_beq_eq_false rfl) (px_get_ne (Nat.ne_of_beq_eq_false rfl) (px_get_ne (Nat.ne_of_beq_eq_false rfl) (px_get_ne (Nat.ne_of_beq_eq_false rfl) (px_get_ne (Nat.ne_of_beq_eq_false rfl) (px_get_ne (Nat.ne_of_beq_eq_false rfl) (px_get_eq pl_0 (Nat.le_of_ble_eq_true rfl))))))))))
set_option maxRecDepth 100000 in
theorem pg_47 (a2 a3 a4 : Int32) : (ph_24 a2 a3 a4)[95]? = some (.inl (1, .inl (List.replicate 48 0))) := (px_get_ne (Nat.ne_of_beq_eq_false rfl) (px_get_ne (Nat.ne_of_beq_eq_false rfl) (px_get_ne (Nat.ne_of_beq_eq_false rfl) (px_get_ne (Nat.ne_of_beq_eq_false rfl) (px_get_ne (Nat.ne_of_beq_eq_false rfl) (px_get_eq pl_15 (Nat.le_of_ble_eq_true rfl)))))))
set_option maxRecDepth 100000 in
theorem pg_48 (a2 a3 a4 : Int32) : (ph_25 a2 a3 a4)[92]? = some (.inr (5, [.ref 1, .ref 93, .ref 99, .ref 110, .int 0, .ref 111, .ref 112, .ref 113])) := (px_get_ne (Nat.ne_of_beq_eq_false rfl) (pg_44 a2 a3 a4))
set_option maxRecDepth 100000 in
theorem pg_49 (a2 a3 a4 : Int32) : (ph_25 a2 a3 a4)[93]? = some (.inr (2, [.int 1, .int 1, .ref 94, .ref 95, .ref 96, .ref 97, .ref 98])) := (px_get_ne (Nat.ne_of_beq_eq_false rfl) (pg_45 a2 a3 a4))
set_option maxRecDepth 100000 in
theorem pg_50 (a2 a3 a4 : Int32) : (ph_25 a2 a3 a4)[1]? = some (.inl (3, .inr (.inr ([some 2, some 17, some 32, some 47, some 62, some 77])))) := (px_get_ne (Nat.ne_of_beq_eq_false rfl) (px_get_ne (Nat.ne_of_beq_eq_false rfl) (px_get_ne (Nat.ne_of_beq_eq_false rfl) (px_get_ne (Nat.ne_of_beq_eq_false rfl) (px_get_ne (Nat.ne_of_beq_eq_false rfl) (px_get_ne (Nat.ne_of_beq_eq_false rfl) (px_get_ne (Nat.ne_of_beq_eq_false rfl) (px_get_ne (Nat.ne_of_beq_eq_false rfl) (px_get_ne (Nat.ne_of_beq_eq_false rfl) (px_get_ne (Nat.ne_of_beq_eq_false rfl) pg_4))))))))))
set_option maxRecDepth 100000 in
theorem pg_51 (a2 a3 a4 : Int32) : (ph_25 a2 a3 a4)[2]? = some (.inr (4, [.int 0, .int 0, .ref 3, .ref 11])) := (px_get_ne (Nat.ne_of_beq_eq_false rfl) (px_get_ne (Nat.ne_of_beq_eq_false rfl) (px_get_ne (Nat.ne_of_beq_eq_false rfl) (px_get_ne (Nat.ne_of_beq_eq_false rfl) (px_get_ne (Nat.ne_of_beq_eq_false rfl) (px_get_ne (Nat.ne_of_beq_eq_false rfl) (px_get_ne (Nat.ne_of_beq_eq_false rfl) (px_get_ne (Nat.ne_of_beq_eq_false rfl) (px_get_ne (Nat.ne_of_beq_eq_false rfl) (px_get_ne (Nat.ne_of_beq_eq_false rfl) pg_5))))))))))
set_option maxRecDepth 100000 in
theorem pg_52 : px_hs[17]? = some (.inr (4, [.int 0, .int 0, .ref 18, .ref 26])) := rfl
set_option maxRecDepth 100000 in
theorem pg_53 (a2 a3 a4 : Int32) : (ph_25 a2 a3 a4)[17]? = some (.inr (4, [.int 0, .int 0, .ref 18, .ref 26])) := (px_get_ne (Nat.ne_of_beq_eq_false rfl) (px_get_ne (Nat.ne_of_beq_eq_false rfl) (px_get_ne (Nat.ne_of_beq_eq_false rfl) (px_get_ne (Nat.ne_of_beq_eq_false rfl) (px_get_ne (Nat.ne_of_beq_eq_false rfl) (px_get_ne (Nat.ne_of_beq_eq_false rfl) (px_get_ne (Nat.ne_of_beq_eq_false rfl) (px_get_ne (Nat.ne_of_beq_eq_false rfl) (px_get_ne (Nat.ne_of_beq_eq_false rfl) (px_get_ne (Nat.ne_of_beq_eq_false rfl) pg_52))))))))))
set_option maxRecDepth 100000 in
theorem pg_54 : px_hs[32]? = some (.inr (4, [.int 0, .int 0, .ref 33, .ref 41])) := rfl
set_option maxRecDepth 100000 in
theorem pg_55 (a2 a3 a4 : Int32) : (ph_25 a2 a3 a4)[32]? = some (.inr (4, [.int 0, .int 0, .ref 33, .ref 41])) := (px_get_ne (Nat.ne_of_beq_eq_false rfl) (px_get_ne (Nat.ne_of_beq_eq_false rfl) (px_get_ne (Nat.ne_of_beq_eq_false rfl) (px_get_ne (Nat.ne_of_beq_eq_false rfl) (px_get_ne (Nat.ne_of_beq_eq_false rfl) (px_get_ne (Nat.ne_of_beq_eq_false rfl) (px_get_ne (Nat.ne_of_beq_eq_false rfl) (px_get_ne (Nat.ne_of_beq_eq_false rfl) (px_get_ne (Nat.ne_of_beq_eq_false rfl) (px_get_ne (Nat.ne_of_beq_eq_false rfl) pg_54))))))))))
set_option maxRecDepth 100000 in
theorem pg_56 : px_hs[47]? = some (.inr (4, [.int 0, .int 0, .ref 48, .ref 56])) := rfl
set_option maxRecDepth 100000 in
theorem pg_57 (a2 a3 a4 : Int32) : (ph_25 a2 a3 a4)[47]? = some (.inr (4, [.int 0, .int 0, .ref 48, .ref 56])) := (px_get_ne (Nat.ne_of_beq_eq_false rfl) (px_get_ne (Nat.ne_of_beq_eq_false rfl) (px_get_ne (Nat.ne_of_beq_eq_false rfl) (px_get_ne (Nat.ne_of_beq_eq_false rfl) (px_get_ne (Nat.ne_of_beq_eq_false rfl) (px_get_ne (Nat.ne_of_beq_eq_false rfl) (px_get_ne (Nat.ne_of_beq_eq_false rfl) (px_get_ne (Nat.ne_of_beq_eq_false rfl) (px_get_ne (Nat.ne_of_beq_eq_false rfl) (px_get_ne (Nat.ne_of_beq_eq_false rfl) pg_56))))))))))
set_option maxRecDepth 100000 in
theorem pg_58 : px_hs[62]? = some (.inr (4, [.int 0, .int 0, .ref 63, .ref 71])) := rfl
set_option maxRecDepth 100000 in
theorem pg_59 (a2 a3 a4 : Int32) : (ph_25 a2 a3 a4)[62]? = some (.inr (4, [.int 0, .int 0, .ref 63, .ref 71])) := (px_get_ne (Nat.ne_of_beq_eq_false rfl) (px_get_ne (Nat.ne_of_beq_eq_false rfl) (px_get_ne (Nat.ne_of_beq_eq_false rfl) (px_get_ne (Nat.ne_of_beq_eq_false rfl) (px_get_ne (Nat.ne_of_beq_eq_false rfl) (px_get_ne (Nat.ne_of_beq_eq_false rfl) (px_get_ne (Nat.ne_of_beq_eq_false rfl) (px_get_ne (Nat.ne_of_beq_eq_false rfl) (px_get_ne (Nat.ne_of_beq_eq_false rfl) (px_get_ne (Nat.ne_of_beq_eq_false rfl) pg_58))))))))))
set_option maxRecDepth 100000 in
theorem pg_60 : px_hs[77]? = some (.inr (4, [.int 0, .int 0, .ref 78, .ref 86])) := rfl
set_option maxRecDepth 100000 in
theorem pg_61 (a2 a3 a4 : Int32) : (ph_25 a2 a3 a4)[77]? = some (.inr (4, [.int 0, .int 0, .ref 78, .ref 86])) := (px_get_ne (Nat.ne_of_beq_eq_false rfl) (px_get_ne (Nat.ne_of_beq_eq_false rfl) (px_get_ne (Nat.ne_of_beq_eq_false rfl) (px_get_ne (Nat.ne_of_beq_eq_false rfl) (px_get_ne (Nat.ne_of_beq_eq_false rfl) (px_get_ne (Nat.ne_of_beq_eq_false rfl) (px_get_ne (Nat.ne_of_beq_eq_false rfl) (px_get_ne (Nat.ne_of_beq_eq_false rfl) (px_get_ne (Nat.ne_of_beq_eq_false rfl) (px_get_ne (Nat.ne_of_beq_eq_false rfl) pg_60))))))))))
set_option maxRecDepth 100000 in
theorem pg_62 (a2 a3 a4 : Int32) : (ph_25 a2 a3 a4)[94]? = some (.inl (0, .inl ([0] ++ List.replicate 47 (-1)))) := (px_get_ne (Nat.ne_of_beq_eq_false rfl) (pg_46 a2 a3 a4))
set_option maxRecDepth 100000 in
theorem pl_18 (a2 a3 : Int32) : (ph_21 a2 a3).length = 165 := px_len_set (pl_17 a2)
set_option maxRecDepth 100000 in
theorem pl_19 (a2 a3 a4 : Int32) : (ph_22 a2 a3 a4).length = 165 := px_len_set (pl_18 a2 a3)
set_option maxRecDepth 100000 in
theorem pl_20 (a2 a3 a4 : Int32) : (ph_23 a2 a3 a4).length = 165 := px_len_set (pl_19 a2 a3 a4)
set_option maxRecDepth 100000 in
theorem pl_21 (a2 a3 a4 : Int32) : (ph_24 a2 a3 a4).length = 165 := px_len_set (pl_20 a2 a3 a4)
set_option maxRecDepth 100000 in
theorem pg_63 (a2 a3 a4 : Int32) : (ph_25 a2 a3 a4)[95]? = some (.inl (1, .inl ([1] ++ List.replicate 47 0))) := (px_get_eq (pl_21 a2 a3 a4) (Nat.le_of_ble_eq_true rfl))
set_option maxRecDepth 100000 in
theorem pg_64 (a2 a3 a4 : Int32) : (ph_25 a2 a3 a4)[164]? = some (.inl (2, .inr (.inl ([0])))) := (px_get_ne (Nat.ne_of_beq_eq_false rfl) (px_get_ne (Nat.ne_of_beq_eq_false rfl) (px_get_ne (Nat.ne_of_beq_eq_false rfl) (px_get_ne (Nat.ne_of_beq_eq_false rfl) (px_get_ne (Nat.ne_of_beq_eq_false rfl) (px_get_ne (Nat.ne_of_beq_eq_false rfl) (px_get_ne (Nat.ne_of_beq_eq_false rfl) (px_get_ne (Nat.ne_of_beq_eq_false rfl) (px_get_ne (Nat.ne_of_beq_eq_false rfl) (px_get_ne (Nat.ne_of_beq_eq_false rfl) pg_8))))))))))
set_option maxRecDepth 100000 in
theorem pg_65 (a2 a3 a4 : Int32) : (ph_26 a2 a3 a4)[136]? = some (.inr (10, [.ref 137, .int 0, .int 0, .ref 138, .ref 151, .long 0])) := (px_get_ne (Nat.ne_of_beq_eq_false rfl) (px_get_ne (Nat.ne_of_beq_eq_false rfl) (px_get_ne (Nat.ne_of_beq_eq_false rfl) (px_get_ne (Nat.ne_of_beq_eq_false rfl) (px_get_ne (Nat.ne_of_beq_eq_false rfl) (px_get_ne (Nat.ne_of_beq_eq_false rfl) (px_get_ne (Nat.ne_of_beq_eq_false rfl) (px_get_ne (Nat.ne_of_beq_eq_false rfl) (px_get_ne (Nat.ne_of_beq_eq_false rfl) (px_get_ne (Nat.ne_of_beq_eq_false rfl) (px_get_ne (Nat.ne_of_beq_eq_false rfl) pg_1)))))))))))
set_option maxRecDepth 100000 in
theorem pg_66 : px_hs[138]? = some (.inr (9, [.int 0, .int 0, .int 0, .ref 139, .ref 140, .ref 141, .ref 143, .ref 145, .ref 147, .ref 149, .ref 150, .int 0, .ref 136])) := rfl
set_option maxRecDepth 100000 in
theorem pg_67 (a2 a3 a4 : Int32) : (ph_26 a2 a3 a4)[138]? = some (.inr (9, [.int 0, .int 0, .int 0, .ref 139, .ref 140, .ref 141, .ref 143, .ref 145, .ref 147, .ref 149, .ref 150, .int 0, .ref 136])) := (px_get_ne (Nat.ne_of_beq_eq_false rfl) (px_get_ne (Nat.ne_of_beq_eq_false rfl) (px_get_ne (Nat.ne_of_beq_eq_false rfl) (px_get_ne (Nat.ne_of_beq_eq_false rfl) (px_get_ne (Nat.ne_of_beq_eq_false rfl) (px_get_ne (Nat.ne_of_beq_eq_false rfl) (px_get_ne (Nat.ne_of_beq_eq_false rfl) (px_get_ne (Nat.ne_of_beq_eq_false rfl) (px_get_ne (Nat.ne_of_beq_eq_false rfl) (px_get_ne (Nat.ne_of_beq_eq_false rfl) (px_get_ne (Nat.ne_of_beq_eq_false rfl) pg_66)))))))))))
set_option maxRecDepth 100000 in
theorem pg_68 : px_hs[141]? = some (.inr (7, [.int 6, .int 0, .ref 142])) := rfl
set_option maxRecDepth 100000 in
theorem pg_69 (a2 a3 a4 : Int32) : (ph_26 a2 a3 a4)[141]? = some (.inr (7, [.int 6, .int 0, .ref 142])) := (px_get_ne (Nat.ne_of_beq_eq_false rfl) (px_get_ne (Nat.ne_of_beq_eq_false rfl) (px_get_ne (Nat.ne_of_beq_eq_false rfl) (px_get_ne (Nat.ne_of_beq_eq_false rfl) (px_get_ne (Nat.ne_of_beq_eq_false rfl) (px_get_ne (Nat.ne_of_beq_eq_false rfl) (px_get_ne (Nat.ne_of_beq_eq_false rfl) (px_get_ne (Nat.ne_of_beq_eq_false rfl) (px_get_ne (Nat.ne_of_beq_eq_false rfl) (px_get_ne (Nat.ne_of_beq_eq_false rfl) (px_get_ne (Nat.ne_of_beq_eq_false rfl) pg_68)))))))))))
set_option maxRecDepth 100000 in
theorem pl_22 (a2 a3 a4 : Int32) : (ph_25 a2 a3 a4).length = 165 := px_len_set (pl_21 a2 a3 a4)
set_option maxRecDepth 100000 in
theorem pl_23 (a2 a3 a4 : Int32) : (ph_26 a2 a3 a4).length = 165 := px_len_set (pl_22 a2 a3 a4)
set_option maxRecDepth 100000 in
theorem pg_70 (a2 a3 a4 : Int32) : (ph_27 a2 a3 a4)[138]? = some (.inr (9, [.int 0, .int 0, .int 0, .ref 139, .ref 140, .ref 141, .ref 143, .ref 145, .ref 147, .ref 149, .ref 150, .int 0, .ref 136])) := (px_get_lt (pl_23 a2 a3 a4) (Nat.le_of_ble_eq_true rfl) (pg_67 a2 a3 a4))
set_option maxRecDepth 100000 in
theorem pg_71 (a2 a3 a4 : Int32) : (ph_27 a2 a3 a4)[165]? = some (.inl (0, .inl (List.replicate 6 0))) := (px_get_ge (k := 0) (pl_23 a2 a3 a4) rfl rfl)
set_option maxRecDepth 100000 in
theorem pl_24 (a2 a3 a4 : Int32) : (ph_27 a2 a3 a4).length = 166 := px_len_app (pl_23 a2 a3 a4) rfl
set_option maxRecDepth 100000 in
theorem pg_72 (a2 a3 a4 : Int32) : (ph_28 a2 a3 a4)[165]? = some (.inl (0, .inl (List.replicate 6 0))) := (px_get_eq (pl_24 a2 a3 a4) (Nat.le_of_ble_eq_true rfl))
set_option maxRecDepth 100000 in
theorem pl_25 (a2 a3 a4 : Int32) : (ph_28 a2 a3 a4).length = 166 := px_len_set (pl_24 a2 a3 a4)
set_option maxRecDepth 100000 in
theorem pg_73 (a2 a3 a4 : Int32) : (ph_29 a2 a3 a4)[165]? = some (.inl (0, .inl (List.replicate 6 0))) := (px_get_eq (pl_25 a2 a3 a4) (Nat.le_of_ble_eq_true rfl))
set_option maxRecDepth 100000 in
theorem pl_26 (a2 a3 a4 : Int32) : (ph_29 a2 a3 a4).length = 166 := px_len_set (pl_25 a2 a3 a4)
set_option maxRecDepth 100000 in
theorem pg_74 (a2 a3 a4 : Int32) : (ph_30 a2 a3 a4)[165]? = some (.inl (0, .inl ([0, 0, a2, 0, 0, 0]))) := (px_get_eq (pl_26 a2 a3 a4) (Nat.le_of_ble_eq_true rfl))
set_option maxRecDepth 100000 in
theorem pl_27 (a2 a3 a4 : Int32) : (ph_30 a2 a3 a4).length = 166 := px_len_set (pl_26 a2 a3 a4)
set_option maxRecDepth 100000 in
theorem pg_75 (a2 a3 a4 : Int32) : (ph_31 a2 a3 a4)[165]? = some (.inl (0, .inl ([0, 0, a2, a3, 0, 0]))) := (px_get_eq (pl_27 a2 a3 a4) (Nat.le_of_ble_eq_true rfl))
set_option maxRecDepth 100000 in
theorem pl_28 (a2 a3 a4 : Int32) : (ph_31 a2 a3 a4).length = 166 := px_len_set (pl_27 a2 a3 a4)
set_option maxRecDepth 100000 in
theorem pg_76 (a2 a3 a4 : Int32) : (ph_32 a2 a3 a4)[165]? = some (.inl (0, .inl ([0, 0, a2, a3, a4, 0]))) := (px_get_eq (pl_28 a2 a3 a4) (Nat.le_of_ble_eq_true rfl))
set_option maxRecDepth 100000 in
theorem pg_77 (a2 a3 a4 : Int32) : (ph_33 a2 a3 a4)[141]? = some (.inr (7, [.int 6, .int 0, .ref 142])) := (px_get_ne (Nat.ne_of_beq_eq_false rfl) (px_get_ne (Nat.ne_of_beq_eq_false rfl) (px_get_ne (Nat.ne_of_beq_eq_false rfl) (px_get_ne (Nat.ne_of_beq_eq_false rfl) (px_get_ne (Nat.ne_of_beq_eq_false rfl) (px_get_ne (Nat.ne_of_beq_eq_false rfl) (px_get_lt (pl_23 a2 a3 a4) (Nat.le_of_ble_eq_true rfl) (pg_69 a2 a3 a4))))))))
set_option maxRecDepth 100000 in
theorem pg_78 : px_hs[142]? = some (.inl (0, .inl (List.replicate 96 0))) := rfl
set_option maxRecDepth 100000 in
theorem pg_79 (a2 a3 a4 : Int32) : (ph_33 a2 a3 a4)[142]? = some (.inl (0, .inl (List.replicate 96 0))) := (px_get_ne (Nat.ne_of_beq_eq_false rfl) (px_get_ne (Nat.ne_of_beq_eq_false rfl) (px_get_ne (Nat.ne_of_beq_eq_false rfl) (px_get_ne (Nat.ne_of_beq_eq_false rfl) (px_get_ne (Nat.ne_of_beq_eq_false rfl) (px_get_ne (Nat.ne_of_beq_eq_false rfl) (px_get_lt (pl_23 a2 a3 a4) (Nat.le_of_ble_eq_true rfl) (px_get_ne (Nat.ne_of_beq_eq_false rfl) (px_get_ne (Nat.ne_of_beq_eq_false rfl) (px_get_ne (Nat.ne_of_beq_eq_false rfl) (px_get_ne (Nat.ne_of_beq_eq_false rfl) (px_get_ne (Nat.ne_of_beq_eq_false rfl) (px_get_ne (Nat.ne_of_beq_eq_false rfl) (px_get_ne (Nat.ne_of_beq_eq_false rfl) (px_get_ne (Nat.ne_of_beq_eq_false rfl) (px_get_ne (Nat.ne_of_beq_eq_false rfl) (px_get_ne (Nat.ne_of_beq_eq_false rfl) (px_get_ne (Nat.ne_of_beq_eq_false rfl) pg_78))))))))))))))))))
set_option maxRecDepth 100000 in
theorem pl_29 (a2 a3 a4 : Int32) : (ph_32 a2 a3 a4).length = 166 := px_len_set (pl_28 a2 a3 a4)
set_option maxRecDepth 100000 in
theorem pg_80 (a2 a3 a4 : Int32) : (ph_33 a2 a3 a4)[165]? = some (.inl (0, .inl ([0, 0, a2, a3, a4, 1]))) := (px_get_eq (pl_29 a2 a3 a4) (Nat.le_of_ble_eq_true rfl))
set_option maxRecDepth 100000 in
theorem pg_81 (a2 a3 a4 : Int32) : (ph_34 a2 a3 a4)[141]? = some (.inr (7, [.int 6, .int 0, .ref 142])) := (px_get_ne (Nat.ne_of_beq_eq_false rfl) (pg_77 a2 a3 a4))
set_option maxRecDepth 100000 in
theorem pg_82 (a2 a3 a4 : Int32) : (ph_35 a2 a3 a4)[138]? = some (.inr (9, [.int 0, .int 0, .int 0, .ref 139, .ref 140, .ref 141, .ref 143, .ref 145, .ref 147, .ref 149, .ref 150, .int 0, .ref 136])) := (px_get_ne (Nat.ne_of_beq_eq_false rfl) (px_get_ne (Nat.ne_of_beq_eq_false rfl) (px_get_ne (Nat.ne_of_beq_eq_false rfl) (px_get_ne (Nat.ne_of_beq_eq_false rfl) (px_get_ne (Nat.ne_of_beq_eq_false rfl) (px_get_ne (Nat.ne_of_beq_eq_false rfl) (px_get_ne (Nat.ne_of_beq_eq_false rfl) (px_get_ne (Nat.ne_of_beq_eq_false rfl) (pg_70 a2 a3 a4)))))))))
set_option maxRecDepth 100000 in
theorem pl_30 (a2 a3 a4 : Int32) : (ph_33 a2 a3 a4).length = 166 := px_len_set (pl_29 a2 a3 a4)
set_option maxRecDepth 100000 in
theorem pl_31 (a2 a3 a4 : Int32) : (ph_34 a2 a3 a4).length = 166 := px_len_set (pl_30 a2 a3 a4)
set_option maxRecDepth 100000 in
theorem pl_32 (a2 a3 a4 : Int32) : (ph_35 a2 a3 a4).length = 166 := px_len_set (pl_31 a2 a3 a4)
set_option maxRecDepth 100000 in
theorem pg_83 (a2 a3 a4 : Int32) : (ph_36 a2 a3 a4)[138]? = some (.inr (9, [.int 1, .int 0, .int 0, .ref 139, .ref 140, .ref 141, .ref 143, .ref 145, .ref 147, .ref 149, .ref 150, .int 0, .ref 136])) := (px_get_eq (pl_32 a2 a3 a4) (Nat.le_of_ble_eq_true rfl))
set_option maxRecDepth 100000 in
theorem pg_84 (a2 a3 a4 : Int32) : (ph_36 a2 a3 a4)[136]? = some (.inr (10, [.ref 137, .int 0, .int 0, .ref 138, .ref 151, .long 0])) := (px_get_ne (Nat.ne_of_beq_eq_false rfl) (px_get_ne (Nat.ne_of_beq_eq_false rfl) (px_get_ne (Nat.ne_of_beq_eq_false rfl) (px_get_ne (Nat.ne_of_beq_eq_false rfl) (px_get_ne (Nat.ne_of_beq_eq_false rfl) (px_get_ne (Nat.ne_of_beq_eq_false rfl) (px_get_ne (Nat.ne_of_beq_eq_false rfl) (px_get_ne (Nat.ne_of_beq_eq_false rfl) (px_get_ne (Nat.ne_of_beq_eq_false rfl) (px_get_lt (pl_23 a2 a3 a4) (Nat.le_of_ble_eq_true rfl) (pg_65 a2 a3 a4)))))))))))
set_option maxRecDepth 100000 in
theorem pg_85 : px_hs[147]? = some (.inr (7, [.int 6, .int 0, .ref 148])) := rfl
set_option maxRecDepth 100000 in
theorem pg_86 (a2 a3 a4 : Int32) : (ph_36 a2 a3 a4)[147]? = some (.inr (7, [.int 6, .int 0, .ref 148])) := (px_get_ne (Nat.ne_of_beq_eq_false rfl) (px_get_ne (Nat.ne_of_beq_eq_false rfl) (px_get_ne (Nat.ne_of_beq_eq_false rfl) (px_get_ne (Nat.ne_of_beq_eq_false rfl) (px_get_ne (Nat.ne_of_beq_eq_false rfl) (px_get_ne (Nat.ne_of_beq_eq_false rfl) (px_get_ne (Nat.ne_of_beq_eq_false rfl) (px_get_ne (Nat.ne_of_beq_eq_false rfl) (px_get_ne (Nat.ne_of_beq_eq_false rfl) (px_get_lt (pl_23 a2 a3 a4) (Nat.le_of_ble_eq_true rfl) (px_get_ne (Nat.ne_of_beq_eq_false rfl) (px_get_ne (Nat.ne_of_beq_eq_false rfl) (px_get_ne (Nat.ne_of_beq_eq_false rfl) (px_get_ne (Nat.ne_of_beq_eq_false rfl) (px_get_ne (Nat.ne_of_beq_eq_false rfl) (px_get_ne (Nat.ne_of_beq_eq_false rfl) (px_get_ne (Nat.ne_of_beq_eq_false rfl) (px_get_ne (Nat.ne_of_beq_eq_false rfl) (px_get_ne (Nat.ne_of_beq_eq_false rfl) (px_get_ne (Nat.ne_of_beq_eq_false rfl) (px_get_ne (Nat.ne_of_beq_eq_false rfl) pg_85)))))))))))))))))))))
set_option maxRecDepth 100000 in
theorem pg_87 : px_hs[143]? = some (.inr (7, [.int 6, .int 0, .ref 144])) := rfl
set_option maxRecDepth 100000 in
theorem pg_88 (a2 a3 a4 : Int32) : (ph_36 a2 a3 a4)[143]? = some (.inr (7, [.int 6, .int 0, .ref 144])) := (px_get_ne (Nat.ne_of_beq_eq_false rfl) (px_get_ne (Nat.ne_of_beq_eq_false rfl) (px_get_ne (Nat.ne_of_beq_eq_false rfl) (px_get_ne (Nat.ne_of_beq_eq_false rfl) (px_get_ne (Nat.ne_of_beq_eq_false rfl) (px_get_ne (Nat.ne_of_beq_eq_false rfl) (px_get_ne (Nat.ne_of_beq_eq_false rfl) (px_get_ne (Nat.ne_of_beq_eq_false rfl) (px_get_ne (Nat.ne_of_beq_eq_false rfl) (px_get_lt (pl_23 a2 a3 a4) (Nat.le_of_ble_eq_true rfl) (px_get_ne (Nat.ne_of_beq_eq_false rfl) (px_get_ne (Nat.ne_of_beq_eq_false rfl) (px_get_ne (Nat.ne_of_beq_eq_false rfl) (px_get_ne (Nat.ne_of_beq_eq_false rfl) (px_get_ne (Nat.ne_of_beq_eq_false rfl) (px_get_ne (Nat.ne_of_beq_eq_false rfl) (px_get_ne (Nat.ne_of_beq_eq_false rfl) (px_get_ne (Nat.ne_of_beq_eq_false rfl) (px_get_ne (Nat.ne_of_beq_eq_false rfl) (px_get_ne (Nat.ne_of_beq_eq_false rfl) (px_get_ne (Nat.ne_of_beq_eq_false rfl) pg_87)))))))))))))))))))))
set_option maxRecDepth 100000 in
theorem pg_89 : px_hs[144]? = some (.inl (0, .inl (List.replicate 96 0))) := rfl
set_option maxRecDepth 100000 in
theorem pg_90 (a2 a3 a4 : Int32) : (ph_36 a2 a3 a4)[144]? = some (.inl (0, .inl (List.replicate 96 0))) := (px_get_ne (Nat.ne_of_beq_eq_false rfl) (px_get_ne (Nat.ne_of_beq_eq_false rfl) (px_get_ne (Nat.ne_of_beq_eq_false rfl) (px_get_ne (Nat.ne_of_beq_eq_false rfl) (px_get_ne (Nat.ne_of_beq_eq_false rfl) (px_get_ne (Nat.ne_of_beq_eq_false rfl) (px_get_ne (Nat.ne_of_beq_eq_false rfl) (px_get_ne (Nat.ne_of_beq_eq_false rfl) (px_get_ne (Nat.ne_of_beq_eq_false rfl) (px_get_lt (pl_23 a2 a3 a4) (Nat.le_of_ble_eq_true rfl) (px_get_ne (Nat.ne_of_beq_eq_false rfl) (px_get_ne (Nat.ne_of_beq_eq_false rfl) (px_get_ne (Nat.ne_of_beq_eq_false rfl) (px_get_ne (Nat.ne_of_beq_eq_false rfl) (px_get_ne (Nat.ne_of_beq_eq_false rfl) (px_get_ne (Nat.ne_of_beq_eq_false rfl) (px_get_ne (Nat.ne_of_beq_eq_false rfl) (px_get_ne (Nat.ne_of_beq_eq_false rfl) (px_get_ne (Nat.ne_of_beq_eq_false rfl) (px_get_ne (Nat.ne_of_beq_eq_false rfl) (px_get_ne (Nat.ne_of_beq_eq_false rfl) pg_89)))))))))))))))))))))
set_option maxRecDepth 100000 in
theorem pg_91 : px_hs[148]? = some (.inl (0, .inl (List.replicate 96 0))) := rfl
set_option maxRecDepth 100000 in
theorem pg_92 (a2 a3 a4 : Int32) : (ph_36 a2 a3 a4)[148]? = some (.inl (0, .inl (List.replicate 96 0))) := (px_get_ne (Nat.ne_of_beq_eq_false rfl) (px_get_ne (Nat.ne_of_beq_eq_false rfl) (px_get_ne (Nat.ne_of_beq_eq_false rfl) (px_get_ne (Nat.ne_of_beq_eq_false rfl) (px_get_ne (Nat.ne_of_beq_eq_false rfl) (px_get_ne (Nat.ne_of_beq_eq_false rfl) (px_get_ne (Nat.ne_of_beq_eq_false rfl) (px_get_ne (Nat.ne_of_beq_eq_false rfl) (px_get_ne (Nat.ne_of_beq_eq_false rfl) (px_get_lt (pl_23 a2 a3 a4) (Nat.le_of_ble_eq_true rfl) (px_get_ne (Nat.ne_of_beq_eq_false rfl) (px_get_ne (Nat.ne_of_beq_eq_false rfl) (px_get_ne (Nat.ne_of_beq_eq_false rfl) (px_get_ne (Nat.ne_of_beq_eq_false rfl) (px_get_ne (Nat.ne_of_beq_eq_false rfl) (px_get_ne (Nat.ne_of_beq_eq_false rfl) (px_get_ne (Nat.ne_of_beq_eq_false rfl) (px_get_ne (Nat.ne_of_beq_eq_false rfl) (px_get_ne (Nat.ne_of_beq_eq_false rfl) (px_get_ne (Nat.ne_of_beq_eq_false rfl) (px_get_ne (Nat.ne_of_beq_eq_false rfl) pg_91)))))))))))))))))))))
set_option maxRecDepth 100000 in
theorem pg_93 (a2 a3 a4 : Int32) : (ph_37 a2 a3 a4)[138]? = some (.inr (9, [.int 1, .int 0, .int 0, .ref 139, .ref 140, .ref 141, .ref 143, .ref 145, .ref 147, .ref 149, .ref 150, .int 0, .ref 136])) := (px_get_ne (Nat.ne_of_beq_eq_false rfl) (pg_83 a2 a3 a4))
set_option maxRecDepth 100000 in
theorem pg_94 : px_hs[145]? = some (.inr (7, [.int 2, .int 0, .ref 146])) := rfl
set_option maxRecDepth 100000 in
theorem pg_95 (a2 a3 a4 : Int32) : (ph_37 a2 a3 a4)[145]? = some (.inr (7, [.int 2, .int 0, .ref 146])) := (px_get_ne (Nat.ne_of_beq_eq_false rfl) (px_get_ne (Nat.ne_of_beq_eq_false rfl) (px_get_ne (Nat.ne_of_beq_eq_false rfl) (px_get_ne (Nat.ne_of_beq_eq_false rfl) (px_get_ne (Nat.ne_of_beq_eq_false rfl) (px_get_ne (Nat.ne_of_beq_eq_false rfl) (px_get_ne (Nat.ne_of_beq_eq_false rfl) (px_get_ne (Nat.ne_of_beq_eq_false rfl) (px_get_ne (Nat.ne_of_beq_eq_false rfl) (px_get_ne (Nat.ne_of_beq_eq_false rfl) (px_get_lt (pl_23 a2 a3 a4) (Nat.le_of_ble_eq_true rfl) (px_get_ne (Nat.ne_of_beq_eq_false rfl) (px_get_ne (Nat.ne_of_beq_eq_false rfl) (px_get_ne (Nat.ne_of_beq_eq_false rfl) (px_get_ne (Nat.ne_of_beq_eq_false rfl) (px_get_ne (Nat.ne_of_beq_eq_false rfl) (px_get_ne (Nat.ne_of_beq_eq_false rfl) (px_get_ne (Nat.ne_of_beq_eq_false rfl) (px_get_ne (Nat.ne_of_beq_eq_false rfl) (px_get_ne (Nat.ne_of_beq_eq_false rfl) (px_get_ne (Nat.ne_of_beq_eq_false rfl) (px_get_ne (Nat.ne_of_beq_eq_false rfl) pg_94))))))))))))))))))))))
set_option maxRecDepth 100000 in
theorem pg_96 (a2 a3 a4 : Int32) : (ph_37 a2 a3 a4)[141]? = some (.inr (7, [.int 6, .int 1, .ref 142])) := (px_get_ne (Nat.ne_of_beq_eq_false rfl) (px_get_ne (Nat.ne_of_beq_eq_false rfl) (px_get_eq (pl_31 a2 a3 a4) (Nat.le_of_ble_eq_true rfl))))
set_option maxRecDepth 100000 in
theorem pg_97 (a2 a3 a4 : Int32) : (ph_37 a2 a3 a4)[142]? = some (.inl (0, .inl ([0, 0] ++ [a2] ++ [a3] ++ [a4] ++ [1] ++ List.replicate 90 0))) := (px_get_ne (Nat.ne_of_beq_eq_false rfl) (px_get_ne (Nat.ne_of_beq_eq_false rfl) (px_get_ne (Nat.ne_of_beq_eq_false rfl) (px_get_eq (pl_30 a2 a3 a4) (Nat.le_of_ble_eq_true rfl)))))
set_option maxRecDepth 100000 in
theorem pg_98 (a2 a3 a4 : Int32) : (ph_37 a2 a3 a4)[136]? = some (.inr (10, [.ref 137, .int 0, .int 0, .ref 138, .ref 151, .long 0])) := (px_get_ne (Nat.ne_of_beq_eq_false rfl) (pg_84 a2 a3 a4))
set_option maxRecDepth 100000 in
theorem pg_99 (a2 a3 a4 : Int32) : (ph_37 a2 a3 a4)[164]? = some (.inl (2, .inr (.inl ([0])))) := (px_get_ne (Nat.ne_of_beq_eq_false rfl) (px_get_ne (Nat.ne_of_beq_eq_false rfl) (px_get_ne (Nat.ne_of_beq_eq_false rfl) (px_get_ne (Nat.ne_of_beq_eq_false rfl) (px_get_ne (Nat.ne_of_beq_eq_false rfl) (px_get_ne (Nat.ne_of_beq_eq_false rfl) (px_get_ne (Nat.ne_of_beq_eq_false rfl) (px_get_ne (Nat.ne_of_beq_eq_false rfl) (px_get_ne (Nat.ne_of_beq_eq_false rfl) (px_get_ne (Nat.ne_of_beq_eq_false rfl) (px_get_lt (pl_23 a2 a3 a4) (Nat.le_of_ble_eq_true rfl) (px_get_eq (pl_22 a2 a3 a4) (Nat.le_of_ble_eq_true rfl)))))))))))))
set_option maxRecDepth 100000 in
theorem pg_100 : ph_38[93]? = some (.inr (2, [.int 0, .int 0, .ref 94, .ref 95, .ref 96, .ref 97, .ref 98])) := (px_get_ne (Nat.ne_of_beq_eq_false rfl) pg_23)
set_option maxRecDepth 100000 in
theorem pl_33 : ph_38.length = 165 := px_len_set pl_0
set_option maxRecDepth 100000 in
theorem pg_101 : ph_39[93]? = some (.inr (2, [.int 1, .int 0, .ref 94, .ref 95, .ref 96, .ref 97, .ref 98])) := (px_get_eq pl_33 (Nat.le_of_ble_eq_true rfl))
set_option maxRecDepth 100000 in
theorem pl_34 : ph_39.length = 165 := px_len_set pl_33
set_option maxRecDepth 100000 in
theorem pg_102 : ph_40[93]? = some (.inr (2, [.int 1, .int 1, .ref 94, .ref 95, .ref 96, .ref 97, .ref 98])) := (px_get_eq pl_34 (Nat.le_of_ble_eq_true rfl))
set_option maxRecDepth 100000 in
theorem pg_103 : ph_40[95]? = some (.inl (1, .inl (List.replicate 48 0))) := (px_get_ne (Nat.ne_of_beq_eq_false rfl) (px_get_ne (Nat.ne_of_beq_eq_false rfl) (px_get_ne (Nat.ne_of_beq_eq_false rfl) pg_29)))
set_option maxRecDepth 100000 in
theorem pg_104 : ph_41[93]? = some (.inr (2, [.int 1, .int 1, .ref 94, .ref 95, .ref 96, .ref 97, .ref 98])) := (px_get_ne (Nat.ne_of_beq_eq_false rfl) pg_102)
set_option maxRecDepth 100000 in
theorem pg_105 : ph_41[96]? = some (.inl (0, .inl (List.replicate 144 0))) := (px_get_ne (Nat.ne_of_beq_eq_false rfl) (px_get_ne (Nat.ne_of_beq_eq_false rfl) (px_get_ne (Nat.ne_of_beq_eq_false rfl) (px_get_ne (Nat.ne_of_beq_eq_false rfl) pg_32))))
set_option maxRecDepth 100000 in
theorem pg_106 (a2 : Int32) : (ph_42 a2)[93]? = some (.inr (2, [.int 1, .int 1, .ref 94, .ref 95, .ref 96, .ref 97, .ref 98])) := (px_get_ne (Nat.ne_of_beq_eq_false rfl) pg_104)
set_option maxRecDepth 100000 in
theorem pl_35 : ph_40.length = 165 := px_len_set pl_34
set_option maxRecDepth 100000 in
theorem pl_36 : ph_41.length = 165 := px_len_set pl_35
set_option maxRecDepth 100000 in
theorem pg_107 (a2 : Int32) : (ph_42 a2)[96]? = some (.inl (0, .inl (List.replicate 18 0 ++ [a2] ++ List.replicate 125 0))) := (px_get_eq pl_36 (Nat.le_of_ble_eq_true rfl))
set_option maxRecDepth 100000 in
theorem pg_108 (a2 a3 : Int32) : (ph_43 a2 a3)[93]? = some (.inr (2, [.int 1, .int 1, .ref 94, .ref 95, .ref 96, .ref 97, .ref 98])) := (px_get_ne (Nat.ne_of_beq_eq_false rfl) (pg_106 a2))
set_option maxRecDepth 100000 in
theorem pl_37 (a2 : Int32) : (ph_42 a2).length = 165 := px_len_set pl_36
set_option maxRecDepth 100000 in
theorem pg_109 (a2 a3 : Int32) : (ph_43 a2 a3)[96]? = some (.inl (0, .inl (List.replicate 18 0 ++ [a2] ++ [a3] ++ List.replicate 124 0))) := (px_get_eq (pl_37 a2) (Nat.le_of_ble_eq_true rfl))
set_option maxRecDepth 100000 in
theorem pg_110 (a2 a3 a4 : Int32) : (ph_44 a2 a3 a4)[93]? = some (.inr (2, [.int 1, .int 1, .ref 94, .ref 95, .ref 96, .ref 97, .ref 98])) := (px_get_ne (Nat.ne_of_beq_eq_false rfl) (pg_108 a2 a3))
set_option maxRecDepth 100000 in
theorem pg_111 (a2 a3 a4 : Int32) : (ph_44 a2 a3 a4)[97]? = some (.inl (0, .inl (List.replicate 8 0))) := (px_get_ne (Nat.ne_of_beq_eq_false rfl) (px_get_ne (Nat.ne_of_beq_eq_false rfl) (px_get_ne (Nat.ne_of_beq_eq_false rfl) (px_get_ne (Nat.ne_of_beq_eq_false rfl) (px_get_ne (Nat.ne_of_beq_eq_false rfl) (px_get_ne (Nat.ne_of_beq_eq_false rfl) (px_get_ne (Nat.ne_of_beq_eq_false rfl) pg_25)))))))
set_option maxRecDepth 100000 in
theorem pg_112 (a2 a3 a4 : Int32) : (ph_44 a2 a3 a4)[98]? = some (.inl (0, .inl (List.replicate 48 0))) := (px_get_ne (Nat.ne_of_beq_eq_false rfl) (px_get_ne (Nat.ne_of_beq_eq_false rfl) (px_get_ne (Nat.ne_of_beq_eq_false rfl) (px_get_ne (Nat.ne_of_beq_eq_false rfl) (px_get_ne (Nat.ne_of_beq_eq_false rfl) (px_get_ne (Nat.ne_of_beq_eq_false rfl) (px_get_ne (Nat.ne_of_beq_eq_false rfl) pg_40)))))))
set_option maxRecDepth 100000 in
theorem pg_113 (a2 a3 a4 : Int32) : (ph_45 a2 a3 a4)[93]? = some (.inr (2, [.int 1, .int 1, .ref 94, .ref 95, .ref 96, .ref 97, .ref 98])) := (px_get_ne (Nat.ne_of_beq_eq_false rfl) (pg_110 a2 a3 a4))
set_option maxRecDepth 100000 in
theorem pg_114 (a2 a3 a4 : Int32) : (ph_45 a2 a3 a4)[97]? = some (.inl (0, .inl (List.replicate 8 0))) := (px_get_ne (Nat.ne_of_beq_eq_false rfl) (pg_111 a2 a3 a4))
set_option maxRecDepth 100000 in
theorem pg_115 (a2 a3 a4 : Int32) : (ph_46 a2 a3 a4)[92]? = some (.inr (5, [.ref 1, .ref 93, .ref 99, .ref 110, .int 0, .ref 111, .ref 112, .ref 113])) := (px_get_ne (Nat.ne_of_beq_eq_false rfl) (px_get_ne (Nat.ne_of_beq_eq_false rfl) (px_get_ne (Nat.ne_of_beq_eq_false rfl) (px_get_ne (Nat.ne_of_beq_eq_false rfl) (px_get_ne (Nat.ne_of_beq_eq_false rfl) (px_get_ne (Nat.ne_of_beq_eq_false rfl) (px_get_ne (Nat.ne_of_beq_eq_false rfl) (px_get_ne (Nat.ne_of_beq_eq_false rfl) (px_get_ne (Nat.ne_of_beq_eq_false rfl) pg_22)))))))))
set_option maxRecDepth 100000 in
theorem pg_116 (a2 a3 a4 : Int32) : (ph_46 a2 a3 a4)[93]? = some (.inr (2, [.int 1, .int 1, .ref 94, .ref 95, .ref 96, .ref 97, .ref 98])) := (px_get_ne (Nat.ne_of_beq_eq_false rfl) (pg_113 a2 a3 a4))
set_option maxRecDepth 100000 in
theorem pg_117 (a2 a3 a4 : Int32) : (ph_46 a2 a3 a4)[94]? = some (.inl (0, .inl (List.replicate 6 (-1) ++ [0] ++ List.replicate 41 (-1)))) := (px_get_ne (Nat.ne_of_beq_eq_false rfl) (px_get_ne (Nat.ne_of_beq_eq_false rfl) (px_get_ne (Nat.ne_of_beq_eq_false rfl) (px_get_ne (Nat.ne_of_beq_eq_false rfl) (px_get_ne (Nat.ne_of_beq_eq_false rfl) (px_get_ne (Nat.ne_of_beq_eq_false rfl) (px_get_ne (Nat.ne_of_beq_eq_false rfl) (px_get_ne (Nat.ne_of_beq_eq_false rfl) (px_get_eq pl_0 (Nat.le_of_ble_eq_true rfl))))))))))
set_option maxRecDepth 100000 in
theorem pg_118 (a2 a3 a4 : Int32) : (ph_46 a2 a3 a4)[95]? = some (.inl (1, .inl (List.replicate 48 0))) := (px_get_ne (Nat.ne_of_beq_eq_false rfl) (px_get_ne (Nat.ne_of_beq_eq_false rfl) (px_get_ne (Nat.ne_of_beq_eq_false rfl) (px_get_ne (Nat.ne_of_beq_eq_false rfl) (px_get_ne (Nat.ne_of_beq_eq_false rfl) (px_get_eq pl_35 (Nat.le_of_ble_eq_true rfl)))))))
set_option maxRecDepth 100000 in
theorem pg_119 (a2 a3 a4 : Int32) : (ph_47 a2 a3 a4)[92]? = some (.inr (5, [.ref 1, .ref 93, .ref 99, .ref 110, .int 0, .ref 111, .ref 112, .ref 113])) := (px_get_ne (Nat.ne_of_beq_eq_false rfl) (pg_115 a2 a3 a4))
set_option maxRecDepth 100000 in
theorem pg_120 (a2 a3 a4 : Int32) : (ph_47 a2 a3 a4)[93]? = some (.inr (2, [.int 1, .int 1, .ref 94, .ref 95, .ref 96, .ref 97, .ref 98])) := (px_get_ne (Nat.ne_of_beq_eq_false rfl) (pg_116 a2 a3 a4))
set_option maxRecDepth 100000 in
theorem pg_121 (a2 a3 a4 : Int32) : (ph_47 a2 a3 a4)[1]? = some (.inl (3, .inr (.inr ([some 2, some 17, some 32, some 47, some 62, some 77])))) := (px_get_ne (Nat.ne_of_beq_eq_false rfl) (px_get_ne (Nat.ne_of_beq_eq_false rfl) (px_get_ne (Nat.ne_of_beq_eq_false rfl) (px_get_ne (Nat.ne_of_beq_eq_false rfl) (px_get_ne (Nat.ne_of_beq_eq_false rfl) (px_get_ne (Nat.ne_of_beq_eq_false rfl) (px_get_ne (Nat.ne_of_beq_eq_false rfl) (px_get_ne (Nat.ne_of_beq_eq_false rfl) (px_get_ne (Nat.ne_of_beq_eq_false rfl) (px_get_ne (Nat.ne_of_beq_eq_false rfl) pg_4))))))))))
set_option maxRecDepth 100000 in
theorem pg_122 (a2 a3 a4 : Int32) : (ph_47 a2 a3 a4)[2]? = some (.inr (4, [.int 0, .int 0, .ref 3, .ref 11])) := (px_get_ne (Nat.ne_of_beq_eq_false rfl) (px_get_ne (Nat.ne_of_beq_eq_false rfl) (px_get_ne (Nat.ne_of_beq_eq_false rfl) (px_get_ne (Nat.ne_of_beq_eq_false rfl) (px_get_ne (Nat.ne_of_beq_eq_false rfl) (px_get_ne (Nat.ne_of_beq_eq_false rfl) (px_get_ne (Nat.ne_of_beq_eq_false rfl) (px_get_ne (Nat.ne_of_beq_eq_false rfl) (px_get_ne (Nat.ne_of_beq_eq_false rfl) (px_get_ne (Nat.ne_of_beq_eq_false rfl) pg_5))))))))))
set_option maxRecDepth 100000 in
theorem pg_123 (a2 a3 a4 : Int32) : (ph_47 a2 a3 a4)[17]? = some (.inr (4, [.int 0, .int 0, .ref 18, .ref 26])) := (px_get_ne (Nat.ne_of_beq_eq_false rfl) (px_get_ne (Nat.ne_of_beq_eq_false rfl) (px_get_ne (Nat.ne_of_beq_eq_false rfl) (px_get_ne (Nat.ne_of_beq_eq_false rfl) (px_get_ne (Nat.ne_of_beq_eq_false rfl) (px_get_ne (Nat.ne_of_beq_eq_false rfl) (px_get_ne (Nat.ne_of_beq_eq_false rfl) (px_get_ne (Nat.ne_of_beq_eq_false rfl) (px_get_ne (Nat.ne_of_beq_eq_false rfl) (px_get_ne (Nat.ne_of_beq_eq_false rfl) pg_52))))))))))
set_option maxRecDepth 100000 in
theorem pg_124 (a2 a3 a4 : Int32) : (ph_47 a2 a3 a4)[32]? = some (.inr (4, [.int 0, .int 0, .ref 33, .ref 41])) := (px_get_ne (Nat.ne_of_beq_eq_false rfl) (px_get_ne (Nat.ne_of_beq_eq_false rfl) (px_get_ne (Nat.ne_of_beq_eq_false rfl) (px_get_ne (Nat.ne_of_beq_eq_false rfl) (px_get_ne (Nat.ne_of_beq_eq_false rfl) (px_get_ne (Nat.ne_of_beq_eq_false rfl) (px_get_ne (Nat.ne_of_beq_eq_false rfl) (px_get_ne (Nat.ne_of_beq_eq_false rfl) (px_get_ne (Nat.ne_of_beq_eq_false rfl) (px_get_ne (Nat.ne_of_beq_eq_false rfl) pg_54))))))))))
set_option maxRecDepth 100000 in
theorem pg_125 (a2 a3 a4 : Int32) : (ph_47 a2 a3 a4)[47]? = some (.inr (4, [.int 0, .int 0, .ref 48, .ref 56])) := (px_get_ne (Nat.ne_of_beq_eq_false rfl) (px_get_ne (Nat.ne_of_beq_eq_false rfl) (px_get_ne (Nat.ne_of_beq_eq_false rfl) (px_get_ne (Nat.ne_of_beq_eq_false rfl) (px_get_ne (Nat.ne_of_beq_eq_false rfl) (px_get_ne (Nat.ne_of_beq_eq_false rfl) (px_get_ne (Nat.ne_of_beq_eq_false rfl) (px_get_ne (Nat.ne_of_beq_eq_false rfl) (px_get_ne (Nat.ne_of_beq_eq_false rfl) (px_get_ne (Nat.ne_of_beq_eq_false rfl) pg_56))))))))))
set_option maxRecDepth 100000 in
theorem pg_126 (a2 a3 a4 : Int32) : (ph_47 a2 a3 a4)[62]? = some (.inr (4, [.int 0, .int 0, .ref 63, .ref 71])) := (px_get_ne (Nat.ne_of_beq_eq_false rfl) (px_get_ne (Nat.ne_of_beq_eq_false rfl) (px_get_ne (Nat.ne_of_beq_eq_false rfl) (px_get_ne (Nat.ne_of_beq_eq_false rfl) (px_get_ne (Nat.ne_of_beq_eq_false rfl) (px_get_ne (Nat.ne_of_beq_eq_false rfl) (px_get_ne (Nat.ne_of_beq_eq_false rfl) (px_get_ne (Nat.ne_of_beq_eq_false rfl) (px_get_ne (Nat.ne_of_beq_eq_false rfl) (px_get_ne (Nat.ne_of_beq_eq_false rfl) pg_58))))))))))
set_option maxRecDepth 100000 in
theorem pg_127 (a2 a3 a4 : Int32) : (ph_47 a2 a3 a4)[77]? = some (.inr (4, [.int 0, .int 0, .ref 78, .ref 86])) := (px_get_ne (Nat.ne_of_beq_eq_false rfl) (px_get_ne (Nat.ne_of_beq_eq_false rfl) (px_get_ne (Nat.ne_of_beq_eq_false rfl) (px_get_ne (Nat.ne_of_beq_eq_false rfl) (px_get_ne (Nat.ne_of_beq_eq_false rfl) (px_get_ne (Nat.ne_of_beq_eq_false rfl) (px_get_ne (Nat.ne_of_beq_eq_false rfl) (px_get_ne (Nat.ne_of_beq_eq_false rfl) (px_get_ne (Nat.ne_of_beq_eq_false rfl) (px_get_ne (Nat.ne_of_beq_eq_false rfl) pg_60))))))))))
set_option maxRecDepth 100000 in
theorem pg_128 (a2 a3 a4 : Int32) : (ph_47 a2 a3 a4)[94]? = some (.inl (0, .inl (List.replicate 6 (-1) ++ [0] ++ List.replicate 41 (-1)))) := (px_get_ne (Nat.ne_of_beq_eq_false rfl) (pg_117 a2 a3 a4))
set_option maxRecDepth 100000 in
theorem pl_38 (a2 a3 : Int32) : (ph_43 a2 a3).length = 165 := px_len_set (pl_37 a2)
set_option maxRecDepth 100000 in
theorem pl_39 (a2 a3 a4 : Int32) : (ph_44 a2 a3 a4).length = 165 := px_len_set (pl_38 a2 a3)
set_option maxRecDepth 100000 in
theorem pl_40 (a2 a3 a4 : Int32) : (ph_45 a2 a3 a4).length = 165 := px_len_set (pl_39 a2 a3 a4)
set_option maxRecDepth 100000 in
theorem pl_41 (a2 a3 a4 : Int32) : (ph_46 a2 a3 a4).length = 165 := px_len_set (pl_40 a2 a3 a4)
set_option maxRecDepth 100000 in
theorem pg_129 (a2 a3 a4 : Int32) : (ph_47 a2 a3 a4)[95]? = some (.inl (1, .inl (List.replicate 6 0 ++ [1] ++ List.replicate 41 0))) := (px_get_eq (pl_41 a2 a3 a4) (Nat.le_of_ble_eq_true rfl))
set_option maxRecDepth 100000 in
theorem pg_130 (a2 a3 a4 : Int32) : (ph_47 a2 a3 a4)[164]? = some (.inl (2, .inr (.inl ([0])))) := (px_get_ne (Nat.ne_of_beq_eq_false rfl) (px_get_ne (Nat.ne_of_beq_eq_false rfl) (px_get_ne (Nat.ne_of_beq_eq_false rfl) (px_get_ne (Nat.ne_of_beq_eq_false rfl) (px_get_ne (Nat.ne_of_beq_eq_false rfl) (px_get_ne (Nat.ne_of_beq_eq_false rfl) (px_get_ne (Nat.ne_of_beq_eq_false rfl) (px_get_ne (Nat.ne_of_beq_eq_false rfl) (px_get_ne (Nat.ne_of_beq_eq_false rfl) (px_get_ne (Nat.ne_of_beq_eq_false rfl) pg_8))))))))))
set_option maxRecDepth 100000 in
theorem pg_131 (a2 a3 a4 : Int32) : (ph_48 a2 a3 a4)[136]? = some (.inr (10, [.ref 137, .int 0, .int 0, .ref 138, .ref 151, .long 0])) := (px_get_ne (Nat.ne_of_beq_eq_false rfl) (px_get_ne (Nat.ne_of_beq_eq_false rfl) (px_get_ne (Nat.ne_of_beq_eq_false rfl) (px_get_ne (Nat.ne_of_beq_eq_false rfl) (px_get_ne (Nat.ne_of_beq_eq_false rfl) (px_get_ne (Nat.ne_of_beq_eq_false rfl) (px_get_ne (Nat.ne_of_beq_eq_false rfl) (px_get_ne (Nat.ne_of_beq_eq_false rfl) (px_get_ne (Nat.ne_of_beq_eq_false rfl) (px_get_ne (Nat.ne_of_beq_eq_false rfl) (px_get_ne (Nat.ne_of_beq_eq_false rfl) pg_1)))))))))))
set_option maxRecDepth 100000 in
theorem pg_132 (a2 a3 a4 : Int32) : (ph_48 a2 a3 a4)[138]? = some (.inr (9, [.int 0, .int 0, .int 0, .ref 139, .ref 140, .ref 141, .ref 143, .ref 145, .ref 147, .ref 149, .ref 150, .int 0, .ref 136])) := (px_get_ne (Nat.ne_of_beq_eq_false rfl) (px_get_ne (Nat.ne_of_beq_eq_false rfl) (px_get_ne (Nat.ne_of_beq_eq_false rfl) (px_get_ne (Nat.ne_of_beq_eq_false rfl) (px_get_ne (Nat.ne_of_beq_eq_false rfl) (px_get_ne (Nat.ne_of_beq_eq_false rfl) (px_get_ne (Nat.ne_of_beq_eq_false rfl) (px_get_ne (Nat.ne_of_beq_eq_false rfl) (px_get_ne (Nat.ne_of_beq_eq_false rfl) (px_get_ne (Nat.ne_of_beq_eq_false rfl) (px_get_ne (Nat.ne_of_beq_eq_false rfl) pg_66)))))))))))
set_option maxRecDepth 100000 in
theorem pg_133 (a2 a3 a4 : Int32) : (ph_48 a2 a3 a4)[141]? = some (.inr (7, [.int 6, .int 0, .ref 142])) := (px_get_ne (Nat.ne_of_beq_eq_false rfl) (px_get_ne (Nat.ne_of_beq_eq_false rfl) (px_get_ne (Nat.ne_of_beq_eq_false rfl) (px_get_ne (Nat.ne_of_beq_eq_false rfl) (px_get_ne (Nat.ne_of_beq_eq_false rfl) (px_get_ne (Nat.ne_of_beq_eq_false rfl) (px_get_ne (Nat.ne_of_beq_eq_false rfl) (px_get_ne (Nat.ne_of_beq_eq_false rfl) (px_get_ne (Nat.ne_of_beq_eq_false rfl) (px_get_ne (Nat.ne_of_beq_eq_false rfl) (px_get_ne (Nat.ne_of_beq_eq_false rfl) pg_68)))))))))))
set_option maxRecDepth 100000 in
theorem pl_42 (a2 a3 a4 : Int32) : (ph_47 a2 a3 a4).length = 165 := px_len_set (pl_41 a2 a3 a4)
set_option maxRecDepth 100000 in
theorem pl_43 (a2 a3 a4 : Int32) : (ph_48 a2 a3 a4).length = 165 := px_len_set (pl_42 a2 a3 a4)
set_option maxRecDepth 100000 in
theorem pg_134 (a2 a3 a4 : Int32) : (ph_49 a2 a3 a4)[138]? = some (.inr (9, [.int 0, .int 0, .int 0, .ref 139, .ref 140, .ref 141, .ref 143, .ref 145, .ref 147, .ref 149, .ref 150, .int 0, .ref 136])) := (px_get_lt (pl_43 a2 a3 a4) (Nat.le_of_ble_eq_true rfl) (pg_132 a2 a3 a4))
set_option maxRecDepth 100000 in
theorem pg_135 (a2 a3 a4 : Int32) : (ph_49 a2 a3 a4)[165]? = some (.inl (0, .inl (List.replicate 6 0))) := (px_get_ge (k := 0) (pl_43 a2 a3 a4) rfl rfl)
set_option maxRecDepth 100000 in
theorem pl_44 (a2 a3 a4 : Int32) : (ph_49 a2 a3 a4).length = 166 := px_len_app (pl_43 a2 a3 a4) rfl
set_option maxRecDepth 100000 in
theorem pg_136 (a2 a3 a4 : Int32) : (ph_50 a2 a3 a4)[165]? = some (.inl (0, .inl (List.replicate 6 0))) := (px_get_eq (pl_44 a2 a3 a4) (Nat.le_of_ble_eq_true rfl))
set_option maxRecDepth 100000 in
theorem pl_45 (a2 a3 a4 : Int32) : (ph_50 a2 a3 a4).length = 166 := px_len_set (pl_44 a2 a3 a4)
set_option maxRecDepth 100000 in
theorem pg_137 (a2 a3 a4 : Int32) : (ph_51 a2 a3 a4)[165]? = some (.inl (0, .inl ([0, 1, 0, 0, 0, 0]))) := (px_get_eq (pl_45 a2 a3 a4) (Nat.le_of_ble_eq_true rfl))
set_option maxRecDepth 100000 in
theorem pl_46 (a2 a3 a4 : Int32) : (ph_51 a2 a3 a4).length = 166 := px_len_set (pl_45 a2 a3 a4)
set_option maxRecDepth 100000 in
theorem pg_138 (a2 a3 a4 : Int32) : (ph_52 a2 a3 a4)[165]? = some (.inl (0, .inl ([0, 1, a2, 0, 0, 0]))) := (px_get_eq (pl_46 a2 a3 a4) (Nat.le_of_ble_eq_true rfl))
set_option maxRecDepth 100000 in
theorem pl_47 (a2 a3 a4 : Int32) : (ph_52 a2 a3 a4).length = 166 := px_len_set (pl_46 a2 a3 a4)
set_option maxRecDepth 100000 in
theorem pg_139 (a2 a3 a4 : Int32) : (ph_53 a2 a3 a4)[165]? = some (.inl (0, .inl ([0, 1, a2, a3, 0, 0]))) := (px_get_eq (pl_47 a2 a3 a4) (Nat.le_of_ble_eq_true rfl))
set_option maxRecDepth 100000 in
theorem pl_48 (a2 a3 a4 : Int32) : (ph_53 a2 a3 a4).length = 166 := px_len_set (pl_47 a2 a3 a4)
set_option maxRecDepth 100000 in
theorem pg_140 (a2 a3 a4 : Int32) : (ph_54 a2 a3 a4)[165]? = some (.inl (0, .inl ([0, 1, a2, a3, a4, 0]))) := (px_get_eq (pl_48 a2 a3 a4) (Nat.le_of_ble_eq_true rfl))
set_option maxRecDepth 100000 in
theorem pg_141 (a2 a3 a4 : Int32) : (ph_55 a2 a3 a4)[141]? = some (.inr (7, [.int 6, .int 0, .ref 142])) := (px_get_ne (Nat.ne_of_beq_eq_false rfl) (px_get_ne (Nat.ne_of_beq_eq_false rfl) (px_get_ne (Nat.ne_of_beq_eq_false rfl) (px_get_ne (Nat.ne_of_beq_eq_false rfl) (px_get_ne (Nat.ne_of_beq_eq_false rfl) (px_get_ne (Nat.ne_of_beq_eq_false rfl) (px_get_lt (pl_43 a2 a3 a4) (Nat.le_of_ble_eq_true rfl) (pg_133 a2 a3 a4))))))))
set_option maxRecDepth 100000 in
theorem pg_142 (a2 a3 a4 : Int32) : (ph_55 a2 a3 a4)[142]? = some (.inl (0, .inl (List.replicate 96 0))) := (px_get_ne (Nat.ne_of_beq_eq_false rfl) (px_get_ne (Nat.ne_of_beq_eq_false rfl) (px_get_ne (Nat.ne_of_beq_eq_false rfl) (px_get_ne (Nat.ne_of_beq_eq_false rfl) (px_get_ne (Nat.ne_of_beq_eq_false rfl) (px_get_ne (Nat.ne_of_beq_eq_false rfl) (px_get_lt (pl_43 a2 a3 a4) (Nat.le_of_ble_eq_true rfl) (px_get_ne (Nat.ne_of_beq_eq_false rfl) (px_get_ne (Nat.ne_of_beq_eq_false rfl) (px_get_ne (Nat.ne_of_beq_eq_false rfl) (px_get_ne (Nat.ne_of_beq_eq_false rfl) (px_get_ne (Nat.ne_of_beq_eq_false rfl) (px_get_ne (Nat.ne_of_beq_eq_false rfl) (px_get_ne (Nat.ne_of_beq_eq_false rfl) (px_get_ne (Nat.ne_of_beq_eq_false rfl) (px_get_ne (Nat.ne_of_beq_eq_false rfl) (px_get_ne (Nat.ne_of_beq_eq_false rfl) (px_get_ne (Nat.ne_of_beq_eq_false rfl) pg_78))))))))))))))))))
set_option maxRecDepth 100000 in
theorem pl_49 (a2 a3 a4 : Int32) : (ph_54 a2 a3 a4).length = 166 := px_len_set (pl_48 a2 a3 a4)
set_option maxRecDepth 100000 in
theorem pg_143 (a2 a3 a4 : Int32) : (ph_55 a2 a3 a4)[165]? = some (.inl (0, .inl ([0, 1, a2, a3, a4, 1]))) := (px_get_eq (pl_49 a2 a3 a4) (Nat.le_of_ble_eq_true rfl))
set_option maxRecDepth 100000 in
theorem pg_144 (a2 a3 a4 : Int32) : (ph_56 a2 a3 a4)[141]? = some (.inr (7, [.int 6, .int 0, .ref 142])) := (px_get_ne (Nat.ne_of_beq_eq_false rfl) (pg_141 a2 a3 a4))
set_option maxRecDepth 100000 in
theorem pg_145 (a2 a3 a4 : Int32) : (ph_57 a2 a3 a4)[138]? = some (.inr (9, [.int 0, .int 0, .int 0, .ref 139, .ref 140, .ref 141, .ref 143, .ref 145, .ref 147, .ref 149, .ref 150, .int 0, .ref 136])) := (px_get_ne (Nat.ne_of_beq_eq_false rfl) (px_get_ne (Nat.ne_of_beq_eq_false rfl) (px_get_ne (Nat.ne_of_beq_eq_false rfl) (px_get_ne (Nat.ne_of_beq_eq_false rfl) (px_get_ne (Nat.ne_of_beq_eq_false rfl) (px_get_ne (Nat.ne_of_beq_eq_false rfl) (px_get_ne (Nat.ne_of_beq_eq_false rfl) (px_get_ne (Nat.ne_of_beq_eq_false rfl) (pg_134 a2 a3 a4)))))))))
set_option maxRecDepth 100000 in
theorem pl_50 (a2 a3 a4 : Int32) : (ph_55 a2 a3 a4).length = 166 := px_len_set (pl_49 a2 a3 a4)
set_option maxRecDepth 100000 in
theorem pl_51 (a2 a3 a4 : Int32) : (ph_56 a2 a3 a4).length = 166 := px_len_set (pl_50 a2 a3 a4)
set_option maxRecDepth 100000 in
theorem pl_52 (a2 a3 a4 : Int32) : (ph_57 a2 a3 a4).length = 166 := px_len_set (pl_51 a2 a3 a4)
set_option maxRecDepth 100000 in
theorem pg_146 (a2 a3 a4 : Int32) : (ph_58 a2 a3 a4)[138]? = some (.inr (9, [.int 1, .int 0, .int 0, .ref 139, .ref 140, .ref 141, .ref 143, .ref 145, .ref 147, .ref 149, .ref 150, .int 0, .ref 136])) := (px_get_eq (pl_52 a2 a3 a4) (Nat.le_of_ble_eq_true rfl))
set_option maxRecDepth 100000 in
theorem pg_147 (a2 a3 a4 : Int32) : (ph_58 a2 a3 a4)[136]? = some (.inr (10, [.ref 137, .int 0, .int 0, .ref 138, .ref 151, .long 0])) := (px_get_ne (Nat.ne_of_beq_eq_false rfl) (px_get_ne (Nat.ne_of_beq_eq_false rfl) (px_get_ne (Nat.ne_of_beq_eq_false rfl) (px_get_ne (Nat.ne_of_beq_eq_false rfl) (px_get_ne (Nat.ne_of_beq_eq_false rfl) (px_get_ne (Nat.ne_of_beq_eq_false rfl) (px_get_ne (Nat.ne_of_beq_eq_false rfl) (px_get_ne (Nat.ne_of_beq_eq_false rfl) (px_get_ne (Nat.ne_of_beq_eq_false rfl) (px_get_lt (pl_43 a2 a3 a4) (Nat.le_of_ble_eq_true rfl) (pg_131 a2 a3 a4)))))))))))
set_option maxRecDepth 100000 in
theorem pg_148 (a2 a3 a4 : Int32) : (ph_58 a2 a3 a4)[147]? = some (.inr (7, [.int 6, .int 0, .ref 148])) := (px_get_ne (Nat.ne_of_beq_eq_false rfl) (px_get_ne (Nat.ne_of_beq_eq_false rfl) (px_get_ne (Nat.ne_of_beq_eq_false rfl) (px_get_ne (Nat.ne_of_beq_eq_false rfl) (px_get_ne (Nat.ne_of_beq_eq_false rfl) (px_get_ne (Nat.ne_of_beq_eq_false rfl) (px_get_ne (Nat.ne_of_beq_eq_false rfl) (px_get_ne (Nat.ne_of_beq_eq_false rfl) (px_get_ne (Nat.ne_of_beq_eq_false rfl) (px_get_lt (pl_43 a2 a3 a4) (Nat.le_of_ble_eq_true rfl) (px_get_ne (Nat.ne_of_beq_eq_false rfl) (px_get_ne (Nat.ne_of_beq_eq_false rfl) (px_get_ne (Nat.ne_of_beq_eq_false rfl) (px_get_ne (Nat.ne_of_beq_eq_false rfl) (px_get_ne (Nat.ne_of_beq_eq_false rfl) (px_get_ne (Nat.ne_of_beq_eq_false rfl) (px_get_ne (Nat.ne_of_beq_eq_false rfl) (px_get_ne (Nat.ne_of_beq_eq_false rfl) (px_get_ne (Nat.ne_of_beq_eq_false rfl) (px_get_ne (Nat.ne_of_beq_eq_false rfl) (px_get_ne (Nat.ne_of_beq_eq_false rfl) pg_85)))))))))))))))))))))
set_option maxRecDepth 100000 in
theorem pg_149 (a2 a3 a4 : Int32) : (ph_58 a2 a3 a4)[143]? = some (.inr (7, [.int 6, .int 0, .ref 144])) := (px_get_ne (Nat.ne_of_beq_eq_false rfl) (px_get_ne (Nat.ne_of_beq_eq_false rfl) (px_get_ne (Nat.ne_of_beq_eq_false rfl) (px_get_ne (Nat.ne_of_beq_eq_false rfl) (px_get_ne (Nat.ne_of_beq_eq_false rfl) (px_get_ne (Nat.ne_of_beq_eq_false rfl) (px_get_ne (Nat.ne_of_beq_eq_false rfl) (px_get_ne (Nat.ne_of_beq_eq_false rfl) (px_get_ne (Nat.ne_of_beq_eq_false rfl) (px_get_lt (pl_43 a2 a3 a4) (Nat.le_of_ble_eq_true rfl) (px_get_ne (Nat.ne_of_beq_eq_false rfl) (px_get_ne (Nat.ne_of_beq_eq_false rfl) (px_get_ne (Nat.ne_of_beq_eq_false rfl) (px_get_ne (Nat.ne_of_beq_eq_false rfl) (px_get_ne (Nat.ne_of_beq_eq_false rfl) (px_get_ne (Nat.ne_of_beq_eq_false rfl) (px_get_ne (Nat.ne_of_beq_eq_false rfl) (px_get_ne (Nat.ne_of_beq_eq_false rfl) (px_get_ne (Nat.ne_of_beq_eq_false rfl) (px_get_ne (Nat.ne_of_beq_eq_false rfl) (px_get_ne (Nat.ne_of_beq_eq_false rfl) pg_87)))))))))))))))))))))
set_option maxRecDepth 100000 in
theorem pg_150 (a2 a3 a4 : Int32) : (ph_58 a2 a3 a4)[144]? = some (.inl (0, .inl (List.replicate 96 0))) := (px_get_ne (Nat.ne_of_beq_eq_false rfl) (px_get_ne (Nat.ne_of_beq_eq_false rfl) (px_get_ne (Nat.ne_of_beq_eq_false rfl) (px_get_ne (Nat.ne_of_beq_eq_false rfl) (px_get_ne (Nat.ne_of_beq_eq_false rfl) (px_get_ne (Nat.ne_of_beq_eq_false rfl) (px_get_ne (Nat.ne_of_beq_eq_false rfl) (px_get_ne (Nat.ne_of_beq_eq_false rfl) (px_get_ne (Nat.ne_of_beq_eq_false rfl) (px_get_lt (pl_43 a2 a3 a4) (Nat.le_of_ble_eq_true rfl) (px_get_ne (Nat.ne_of_beq_eq_false rfl) (px_get_ne (Nat.ne_of_beq_eq_false rfl) (px_get_ne (Nat.ne_of_beq_eq_false rfl) (px_get_ne (Nat.ne_of_beq_eq_false rfl) (px_get_ne (Nat.ne_of_beq_eq_false rfl) (px_get_ne (Nat.ne_of_beq_eq_false rfl) (px_get_ne (Nat.ne_of_beq_eq_false rfl) (px_get_ne (Nat.ne_of_beq_eq_false rfl) (px_get_ne (Nat.ne_of_beq_eq_false rfl) (px_get_ne (Nat.ne_of_beq_eq_false rfl) (px_get_ne (Nat.ne_of_beq_eq_false rfl) pg_89)))))))))))))))))))))
set_option maxRecDepth 100000 in
theorem pg_151 (a2 a3 a4 : Int32) : (ph_58 a2 a3 a4)[148]? = some (.inl (0, .inl (List.replicate 96 0))) := (px_get_ne (Nat.ne_of_beq_eq_false rfl) (px_get_ne (Nat.ne_of_beq_eq_false rfl) (px_get_ne (Nat.ne_of_beq_eq_false rfl) (px_get_ne (Nat.ne_of_beq_eq_false rfl) (px_get_ne (Nat.ne_of_beq_eq_false rfl) (px_get_ne (Nat.ne_of_beq_eq_false rfl) (px_get_ne (Nat.ne_of_beq_eq_false rfl) (px_get_ne (Nat.ne_of_beq_eq_false rfl) (px_get_ne (Nat.ne_of_beq_eq_false rfl) (px_get_lt (pl_43 a2 a3 a4) (Nat.le_of_ble_eq_true rfl) (px_get_ne (Nat.ne_of_beq_eq_false rfl) (px_get_ne (Nat.ne_of_beq_eq_false rfl) (px_get_ne (Nat.ne_of_beq_eq_false rfl) (px_get_ne (Nat.ne_of_beq_eq_false rfl) (px_get_ne (Nat.ne_of_beq_eq_false rfl) (px_get_ne (Nat.ne_of_beq_eq_false rfl) (px_get_ne (Nat.ne_of_beq_eq_false rfl) (px_get_ne (Nat.ne_of_beq_eq_false rfl) (px_get_ne (Nat.ne_of_beq_eq_false rfl) (px_get_ne (Nat.ne_of_beq_eq_false rfl) (px_get_ne (Nat.ne_of_beq_eq_false rfl) pg_91)))))))))))))))))))))
set_option maxRecDepth 100000 in
theorem pg_152 (a2 a3 a4 : Int32) : (ph_59 a2 a3 a4)[138]? = some (.inr (9, [.int 1, .int 0, .int 0, .ref 139, .ref 140, .ref 141, .ref 143, .ref 145, .ref 147, .ref 149, .ref 150, .int 0, .ref 136])) := (px_get_ne (Nat.ne_of_beq_eq_false rfl) (pg_146 a2 a3 a4))
set_option maxRecDepth 100000 in
theorem pg_153 (a2 a3 a4 : Int32) : (ph_59 a2 a3 a4)[145]? = some (.inr (7, [.int 2, .int 0, .ref 146])) := (px_get_ne (Nat.ne_of_beq_eq_false rfl) (px_get_ne (Nat.ne_of_beq_eq_false rfl) (px_get_ne (Nat.ne_of_beq_eq_false rfl) (px_get_ne (Nat.ne_of_beq_eq_false rfl) (px_get_ne (Nat.ne_of_beq_eq_false rfl) (px_get_ne (Nat.ne_of_beq_eq_false rfl) (px_get_ne (Nat.ne_of_beq_eq_false rfl) (px_get_ne (Nat.ne_of_beq_eq_false rfl) (px_get_ne (Nat.ne_of_beq_eq_false rfl) (px_get_ne (Nat.ne_of_beq_eq_false rfl) (px_get_lt (pl_43 a2 a3 a4) (Nat.le_of_ble_eq_true rfl) (px_get_ne (Nat.ne_of_beq_eq_false rfl) (px_get_ne (Nat.ne_of_beq_eq_false rfl) (px_get_ne (Nat.ne_of_beq_eq_false rfl) (px_get_ne (Nat.ne_of_beq_eq_false rfl) (px_get_ne (Nat.ne_of_beq_eq_false rfl) (px_get_ne (Nat.ne_of_beq_eq_false rfl) (px_get_ne (Nat.ne_of_beq_eq_false rfl) (px_get_ne (Nat.ne_of_beq_eq_false rfl) (px_get_ne (Nat.ne_of_beq_eq_false rfl) (px_get_ne (Nat.ne_of_beq_eq_false rfl) (px_get_ne (Nat.ne_of_beq_eq_false rfl) pg_94))))))))))))))))))))))
set_option maxRecDepth 100000 in
theorem pg_154 (a2 a3 a4 : Int32) : (ph_59 a2 a3 a4)[141]? = some (.inr (7, [.int 6, .int 1, .ref 142])) := (px_get_ne (Nat.ne_of_beq_eq_false rfl) (px_get_ne (Nat.ne_of_beq_eq_false rfl) (px_get_eq (pl_51 a2 a3 a4) (Nat.le_of_ble_eq_true rfl))))
set_option maxRecDepth 100000 in
theorem pg_155 (a2 a3 a4 : Int32) : (ph_59 a2 a3 a4)[142]? = some (.inl (0, .inl ([0] ++ [1] ++ [a2] ++ [a3] ++ [a4] ++ [1] ++ List.replicate 90 0))) := (px_get_ne (Nat.ne_of_beq_eq_false rfl) (px_get_ne (Nat.ne_of_beq_eq_false rfl) (px_get_ne (Nat.ne_of_beq_eq_false rfl) (px_get_eq (pl_50 a2 a3 a4) (Nat.le_of_ble_eq_true rfl)))))
set_option maxRecDepth 100000 in
theorem pg_156 (a2 a3 a4 : Int32) : (ph_59 a2 a3 a4)[136]? = some (.inr (10, [.ref 137, .int 0, .int 0, .ref 138, .ref 151, .long 0])) := (px_get_ne (Nat.ne_of_beq_eq_false rfl) (pg_147 a2 a3 a4))
set_option maxRecDepth 100000 in
theorem pg_157 (a2 a3 a4 : Int32) : (ph_59 a2 a3 a4)[164]? = some (.inl (2, .inr (.inl ([0])))) := (px_get_ne (Nat.ne_of_beq_eq_false rfl) (px_get_ne (Nat.ne_of_beq_eq_false rfl) (px_get_ne (Nat.ne_of_beq_eq_false rfl) (px_get_ne (Nat.ne_of_beq_eq_false rfl) (px_get_ne (Nat.ne_of_beq_eq_false rfl) (px_get_ne (Nat.ne_of_beq_eq_false rfl) (px_get_ne (Nat.ne_of_beq_eq_false rfl) (px_get_ne (Nat.ne_of_beq_eq_false rfl) (px_get_ne (Nat.ne_of_beq_eq_false rfl) (px_get_ne (Nat.ne_of_beq_eq_false rfl) (px_get_lt (pl_43 a2 a3 a4) (Nat.le_of_ble_eq_true rfl) (px_get_eq (pl_42 a2 a3 a4) (Nat.le_of_ble_eq_true rfl)))))))))))))
set_option maxRecDepth 100000 in
theorem pg_158 : ph_60[93]? = some (.inr (2, [.int 0, .int 0, .ref 94, .ref 95, .ref 96, .ref 97, .ref 98])) := (px_get_ne (Nat.ne_of_beq_eq_false rfl) pg_23)
set_option maxRecDepth 100000 in
theorem pl_53 : ph_60.length = 165 := px_len_set pl_0
set_option maxRecDepth 100000 in
theorem pg_159 : ph_61[93]? = some (.inr (2, [.int 1, .int 0, .ref 94, .ref 95, .ref 96, .ref 97, .ref 98])) := (px_get_eq pl_53 (Nat.le_of_ble_eq_true rfl))
set_option maxRecDepth 100000 in
theorem pl_54 : ph_61.length = 165 := px_len_set pl_53
set_option maxRecDepth 100000 in
theorem pg_160 : ph_62[93]? = some (.inr (2, [.int 1, .int 1, .ref 94, .ref 95, .ref 96, .ref 97, .ref 98])) := (px_get_eq pl_54 (Nat.le_of_ble_eq_true rfl))
set_option maxRecDepth 100000 in
theorem pg_161 : ph_62[95]? = some (.inl (1, .inl (List.replicate 48 0))) := (px_get_ne (Nat.ne_of_beq_eq_false rfl) (px_get_ne (Nat.ne_of_beq_eq_false rfl) (px_get_ne (Nat.ne_of_beq_eq_false rfl) pg_29)))
set_option maxRecDepth 100000 in
theorem pg_162 : ph_63[93]? = some (.inr (2, [.int 1, .int 1, .ref 94, .ref 95, .ref 96, .ref 97, .ref 98])) := (px_get_ne (Nat.ne_of_beq_eq_false rfl) pg_160)
set_option maxRecDepth 100000 in
theorem pg_163 : ph_63[96]? = some (.inl (0, .inl (List.replicate 144 0))) := (px_get_ne (Nat.ne_of_beq_eq_false rfl) (px_get_ne (Nat.ne_of_beq_eq_false rfl) (px_get_ne (Nat.ne_of_beq_eq_false rfl) (px_get_ne (Nat.ne_of_beq_eq_false rfl) pg_32))))
set_option maxRecDepth 100000 in
theorem pg_164 (a2 : Int32) : (ph_64 a2)[93]? = some (.inr (2, [.int 1, .int 1, .ref 94, .ref 95, .ref 96, .ref 97, .ref 98])) := (px_get_ne (Nat.ne_of_beq_eq_false rfl) pg_162)
set_option maxRecDepth 100000 in
theorem pl_55 : ph_62.length = 165 := px_len_set pl_54
set_option maxRecDepth 100000 in
theorem pl_56 : ph_63.length = 165 := px_len_set pl_55
set_option maxRecDepth 100000 in
theorem pg_165 (a2 : Int32) : (ph_64 a2)[96]? = some (.inl (0, .inl (List.replicate 36 0 ++ [a2] ++ List.replicate 107 0))) := (px_get_eq pl_56 (Nat.le_of_ble_eq_true rfl))
set_option maxRecDepth 100000 in
theorem pg_166 (a2 a3 : Int32) : (ph_65 a2 a3)[93]? = some (.inr (2, [.int 1, .int 1, .ref 94, .ref 95, .ref 96, .ref 97, .ref 98])) := (px_get_ne (Nat.ne_of_beq_eq_false rfl) (pg_164 a2))
set_option maxRecDepth 100000 in
theorem pl_57 (a2 : Int32) : (ph_64 a2).length = 165 := px_len_set pl_56
set_option maxRecDepth 100000 in
theorem pg_167 (a2 a3 : Int32) : (ph_65 a2 a3)[96]? = some (.inl (0, .inl (List.replicate 36 0 ++ [a2] ++ [a3] ++ List.replicate 106 0))) := (px_get_eq (pl_57 a2) (Nat.le_of_ble_eq_true rfl))
set_option maxRecDepth 100000 in
theorem pg_168 (a2 a3 a4 : Int32) : (ph_66 a2 a3 a4)[93]? = some (.inr (2, [.int 1, .int 1, .ref 94, .ref 95, .ref 96, .ref 97, .ref 98])) := (px_get_ne (Nat.ne_of_beq_eq_false rfl) (pg_166 a2 a3))
set_option maxRecDepth 100000 in
theorem pg_169 (a2 a3 a4 : Int32) : (ph_66 a2 a3 a4)[97]? = some (.inl (0, .inl (List.replicate 8 0))) := (px_get_ne (Nat.ne_of_beq_eq_false rfl) (px_get_ne (Nat.ne_of_beq_eq_false rfl) (px_get_ne (Nat.ne_of_beq_eq_false rfl) (px_get_ne (Nat.ne_of_beq_eq_false rfl) (px_get_ne (Nat.ne_of_beq_eq_false rfl) (px_get_ne (Nat.ne_of_beq_eq_false rfl) (px_get_ne (Nat.ne_of_beq_eq_false rfl) pg_25)))))))
set_option maxRecDepth 100000 in
theorem pg_170 (a2 a3 a4 : Int32) : (ph_66 a2 a3 a4)[98]? = some (.inl (0, .inl (List.replicate 48 0))) := (px_get_ne (Nat.ne_of_beq_eq_false rfl) (px_get_ne (Nat.ne_of_beq_eq_false rfl) (px_get_ne (Nat.ne_of_beq_eq_false rfl) (px_get_ne (Nat.ne_of_beq_eq_false rfl) (px_get_ne (Nat.ne_of_beq_eq_false rfl) (px_get_ne (Nat.ne_of_beq_eq_false rfl) (px_get_ne (Nat.ne_of_beq_eq_false rfl) pg_40)))))))
set_option maxRecDepth 100000 in
theorem pg_171 (a2 a3 a4 : Int32) : (ph_67 a2 a3 a4)[93]? = some (.inr (2, [.int 1, .int 1, .ref 94, .ref 95, .ref 96, .ref 97, .ref 98])) := (px_get_ne (Nat.ne_of_beq_eq_false rfl) (pg_168 a2 a3 a4))
set_option maxRecDepth 100000 in
theorem pg_172 (a2 a3 a4 : Int32) : (ph_67 a2 a3 a4)[97]? = some (.inl (0, .inl (List.replicate 8 0))) := (px_get_ne (Nat.ne_of_beq_eq_false rfl) (pg_169 a2 a3 a4))
set_option maxRecDepth 100000 in
theorem pg_173 (a2 a3 a4 : Int32) : (ph_68 a2 a3 a4)[92]? = some (.inr (5, [.ref 1, .ref 93, .ref 99, .ref 110, .int 0, .ref 111, .ref 112, .ref 113])) := (px_get_ne (Nat.ne_of_beq_eq_false rfl) (px_get_ne (Nat.ne_of_beq_eq_false rfl) (px_get_ne (Nat.ne_of_beq_eq_false rfl) (px_get_ne (Nat.ne_of_beq_eq_false rfl) (px_get_ne (Nat.ne_of_beq_eq_false rfl) (px_get_ne (Nat.ne_of_beq_eq_false rfl) (px_get_ne (Nat.ne_of_beq_eq_false rfl) (px_get_ne (Nat.ne_of_beq_eq_false rfl) (px_get_ne (Nat.ne_of_beq_eq_false rfl) pg_22)))))))))
set_option maxRecDepth 100000 in
theorem pg_174 (a2 a3 a4 : Int32) : (ph_68 a2 a3 a4)[93]? = some (.inr (2, [.int 1, .int 1, .ref 94, .ref 95, .ref 96, .ref 97, .ref 98])) := (px_get_ne (Nat.ne_of_beq_eq_false rfl) (pg_171 a2 a3 a4))
set_option maxRecDepth 100000 in
theorem pg_175 (a2 a3 a4 : Int32) : (ph_68 a2 a3 a4)[94]? = some (.inl (0, .inl (List.replicate 12 (-1) ++ [0] ++ List.replicate 35 (-1)))) := (px_get_ne (Nat.ne_of_beq_eq_false rfl) (px_get_ne (Nat.ne_of_beq_eq_false rfl) (px_get_ne (Nat.ne_of_beq_eq_false rfl) (px_get_ne (Nat.ne_of_beq_eq_false rfl) (px_get_ne (Nat.ne_of_beq_eq_false rfl) (px_get_ne (Nat.ne_of_beq_eq_false rfl) (px_get_ne (Nat.ne_of_beq_eq_false rfl) (px_get_ne (Nat.ne_of_beq_eq_false rfl) (px_get_eq pl_0 (Nat.le_of_ble_eq_true rfl))))))))))
set_option maxRecDepth 100000 in
theorem pg_176 (a2 a3 a4 : Int32) : (ph_68 a2 a3 a4)[95]? = some (.inl (1, .inl (List.replicate 48 0))) := (px_get_ne (Nat.ne_of_beq_eq_false rfl) (px_get_ne (Nat.ne_of_beq_eq_false rfl) (px_get_ne (Nat.ne_of_beq_eq_false rfl) (px_get_ne (Nat.ne_of_beq_eq_false rfl) (px_get_ne (Nat.ne_of_beq_eq_false rfl) (px_get_eq pl_55 (Nat.le_of_ble_eq_true rfl)))))))
set_option maxRecDepth 100000 in
theorem pg_177 (a2 a3 a4 : Int32) : (ph_69 a2 a3 a4)[92]? = some (.inr (5, [.ref 1, .ref 93, .ref 99, .ref 110, .int 0, .ref 111, .ref 112, .ref 113])) := (px_get_ne (Nat.ne_of_beq_eq_false rfl) (pg_173 a2 a3 a4))
set_option maxRecDepth 100000 in
theorem pg_178 (a2 a3 a4 : Int32) : (ph_69 a2 a3 a4)[93]? = some (.inr (2, [.int 1, .int 1, .ref 94, .ref 95, .ref 96, .ref 97, .ref 98])) := (px_get_ne (Nat.ne_of_beq_eq_false rfl) (pg_174 a2 a3 a4))
set_option maxRecDepth 100000 in
theorem pg_179 (a2 a3 a4 : Int32) : (ph_69 a2 a3 a4)[1]? = some (.inl (3, .inr (.inr ([some 2, some 17, some 32, some 47, some 62, some 77])))) := (px_get_ne (Nat.ne_of_beq_eq_false rfl) (px_get_ne (Nat.ne_of_beq_eq_false rfl) (px_get_ne (Nat.ne_of_beq_eq_false rfl) (px_get_ne (Nat.ne_of_beq_eq_false rfl) (px_get_ne (Nat.ne_of_beq_eq_false rfl) (px_get_ne (Nat.ne_of_beq_eq_false rfl) (px_get_ne (Nat.ne_of_beq_eq_false rfl) (px_get_ne (Nat.ne_of_beq_eq_false rfl) (px_get_ne (Nat.ne_of_beq_eq_false rfl) (px_get_ne (Nat.ne_of_beq_eq_false rfl) pg_4))))))))))
set_option maxRecDepth 100000 in
theorem pg_180 (a2 a3 a4 : Int32) : (ph_69 a2 a3 a4)[2]? = some (.inr (4, [.int 0, .int 0, .ref 3, .ref 11])) := (px_get_ne (Nat.ne_of_beq_eq_false rfl) (px_get_ne (Nat.ne_of_beq_eq_false rfl) (px_get_ne (Nat.ne_of_beq_eq_false rfl) (px_get_ne (Nat.ne_of_beq_eq_false rfl) (px_get_ne (Nat.ne_of_beq_eq_false rfl) (px_get_ne (Nat.ne_of_beq_eq_false rfl) (px_get_ne (Nat.ne_of_beq_eq_false rfl) (px_get_ne (Nat.ne_of_beq_eq_false rfl) (px_get_ne (Nat.ne_of_beq_eq_false rfl) (px_get_ne (Nat.ne_of_beq_eq_false rfl) pg_5))))))))))
set_option maxRecDepth 100000 in
theorem pg_181 (a2 a3 a4 : Int32) : (ph_69 a2 a3 a4)[17]? = some (.inr (4, [.int 0, .int 0, .ref 18, .ref 26])) := (px_get_ne (Nat.ne_of_beq_eq_false rfl) (px_get_ne (Nat.ne_of_beq_eq_false rfl) (px_get_ne (Nat.ne_of_beq_eq_false rfl) (px_get_ne (Nat.ne_of_beq_eq_false rfl) (px_get_ne (Nat.ne_of_beq_eq_false rfl) (px_get_ne (Nat.ne_of_beq_eq_false rfl) (px_get_ne (Nat.ne_of_beq_eq_false rfl) (px_get_ne (Nat.ne_of_beq_eq_false rfl) (px_get_ne (Nat.ne_of_beq_eq_false rfl) (px_get_ne (Nat.ne_of_beq_eq_false rfl) pg_52))))))))))
set_option maxRecDepth 100000 in
theorem pg_182 (a2 a3 a4 : Int32) : (ph_69 a2 a3 a4)[32]? = some (.inr (4, [.int 0, .int 0, .ref 33, .ref 41])) := (px_get_ne (Nat.ne_of_beq_eq_false rfl) (px_get_ne (Nat.ne_of_beq_eq_false rfl) (px_get_ne (Nat.ne_of_beq_eq_false rfl) (px_get_ne (Nat.ne_of_beq_eq_false rfl) (px_get_ne (Nat.ne_of_beq_eq_false rfl) (px_get_ne (Nat.ne_of_beq_eq_false rfl) (px_get_ne (Nat.ne_of_beq_eq_false rfl) (px_get_ne (Nat.ne_of_beq_eq_false rfl) (px_get_ne (Nat.ne_of_beq_eq_false rfl) (px_get_ne (Nat.ne_of_beq_eq_false rfl) pg_54))))))))))
set_option maxRecDepth 100000 in
theorem pg_183 (a2 a3 a4 : Int32) : (ph_69 a2 a3 a4)[47]? = some (.inr (4, [.int 0, .int 0, .ref 48, .ref 56])) := (px_get_ne (Nat.ne_of_beq_eq_false rfl) (px_get_ne (Nat.ne_of_beq_eq_false rfl) (px_get_ne (Nat.ne_of_beq_eq_false rfl) (px_get_ne (Nat.ne_of_beq_eq_false rfl) (px_get_ne (Nat.ne_of_beq_eq_false rfl) (px_get_ne (Nat.ne_of_beq_eq_false rfl) (px_get_ne (Nat.ne_of_beq_eq_false rfl) (px_get_ne (Nat.ne_of_beq_eq_false rfl) (px_get_ne (Nat.ne_of_beq_eq_false rfl) (px_get_ne (Nat.ne_of_beq_eq_false rfl) pg_56))))))))))
set_option maxRecDepth 100000 in
theorem pg_184 (a2 a3 a4 : Int32) : (ph_69 a2 a3 a4)[62]? = some (.inr (4, [.int 0, .int 0, .ref 63, .ref 71])) := (px_get_ne (Nat.ne_of_beq_eq_false rfl) (px_get_ne (Nat.ne_of_beq_eq_false rfl) (px_get_ne (Nat.ne_of_beq_eq_false rfl) (px_get_ne (Nat.ne_of_beq_eq_false rfl) (px_get_ne (Nat.ne_of_beq_eq_false rfl) (px_get_ne (Nat.ne_of_beq_eq_false rfl) (px_get_ne (Nat.ne_of_beq_eq_false rfl) (px_get_ne (Nat.ne_of_beq_eq_false rfl) (px_get_ne (Nat.ne_of_beq_eq_false rfl) (px_get_ne (Nat.ne_of_beq_eq_false rfl) pg_58))))))))))
set_option maxRecDepth 100000 in
theorem pg_185 (a2 a3 a4 : Int32) : (ph_69 a2 a3 a4)[77]? = some (.inr (4, [.int 0, .int 0, .ref 78, .ref 86])) := (px_get_ne (Nat.ne_of_beq_eq_false rfl) (px_get_ne (Nat.ne_of_beq_eq_false rfl) (px_get_ne (Nat.ne_of_beq_eq_false rfl) (px_get_ne (Nat.ne_of_beq_eq_false rfl) (px_get_ne (Nat.ne_of_beq_eq_false rfl) (px_get_ne (Nat.ne_of_beq_eq_false rfl) (px_get_ne (Nat.ne_of_beq_eq_false rfl) (px_get_ne (Nat.ne_of_beq_eq_false rfl) (px_get_ne (Nat.ne_of_beq_eq_false rfl) (px_get_ne (Nat.ne_of_beq_eq_false rfl) pg_60))))))))))
set_option maxRecDepth 100000 in
theorem pg_186 (a2 a3 a4 : Int32) : (ph_69 a2 a3 a4)[94]? = some (.inl (0, .inl (List.replicate 12 (-1) ++ [0] ++ List.replicate 35 (-1)))) := (px_get_ne (Nat.ne_of_beq_eq_false rfl) (pg_175 a2 a3 a4))
set_option maxRecDepth 100000 in
theorem pl_58 (a2 a3 : Int32) : (ph_65 a2 a3).length = 165 := px_len_set (pl_57 a2)
set_option maxRecDepth 100000 in
theorem pl_59 (a2 a3 a4 : Int32) : (ph_66 a2 a3 a4).length = 165 := px_len_set (pl_58 a2 a3)
set_option maxRecDepth 100000 in
theorem pl_60 (a2 a3 a4 : Int32) : (ph_67 a2 a3 a4).length = 165 := px_len_set (pl_59 a2 a3 a4)
set_option maxRecDepth 100000 in
theorem pl_61 (a2 a3 a4 : Int32) : (ph_68 a2 a3 a4).length = 165 := px_len_set (pl_60 a2 a3 a4)
set_option maxRecDepth 100000 in
theorem pg_187 (a2 a3 a4 : Int32) : (ph_69 a2 a3 a4)[95]? = some (.inl (1, .inl (List.replicate 12 0 ++ [1] ++ List.replicate 35 0))) := (px_get_eq (pl_61 a2 a3 a4) (Nat.le_of_ble_eq_true rfl))
set_option maxRecDepth 100000 in
theorem pg_188 (a2 a3 a4 : Int32) : (ph_69 a2 a3 a4)[164]? = some (.inl (2, .inr (.inl ([0])))) := (px_get_ne (Nat.ne_of_beq_eq_false rfl) (px_get_ne (Nat.ne_of_beq_eq_false rfl) (px_get_ne (Nat.ne_of_beq_eq_false rfl) (px_get_ne (Nat.ne_of_beq_eq_false rfl) (px_get_ne (Nat.ne_of_beq_eq_false rfl) (px_get_ne (Nat.ne_of_beq_eq_false rfl) (px_get_ne (Nat.ne_of_beq_eq_false rfl) (px_get_ne (Nat.ne_of_beq_eq_false rfl) (px_get_ne (Nat.ne_of_beq_eq_false rfl) (px_get_ne (Nat.ne_of_beq_eq_false rfl) pg_8))))))))))
set_option maxRecDepth 100000 in
theorem pg_189 (a2 a3 a4 : Int32) : (ph_70 a2 a3 a4)[136]? = some (.inr (10, [.ref 137, .int 0, .int 0, .ref 138, .ref 151, .long 0])) := (px_get_ne (Nat.ne_of_beq_eq_false rfl) (px_get_ne (Nat.ne_of_beq_eq_false rfl) (px_get_ne (Nat.ne_of_beq_eq_false rfl) (px_get_ne (Nat.ne_of_beq_eq_false rfl) (px_get_ne (Nat.ne_of_beq_eq_false rfl) (px_get_ne (Nat.ne_of_beq_eq_false rfl) (px_get_ne (Nat.ne_of_beq_eq_false rfl) (px_get_ne (Nat.ne_of_beq_eq_false rfl) (px_get_ne (Nat.ne_of_beq_eq_false rfl) (px_get_ne (Nat.ne_of_beq_eq_false rfl) (px_get_ne (Nat.ne_of_beq_eq_false rfl) pg_1)))))))))))
set_option maxRecDepth 100000 in
theorem pg_190 (a2 a3 a4 : Int32) : (ph_70 a2 a3 a4)[138]? = some (.inr (9, [.int 0, .int 0, .int 0, .ref 139, .ref 140, .ref 141, .ref 143, .ref 145, .ref 147, .ref 149, .ref 150, .int 0, .ref 136])) := (px_get_ne (Nat.ne_of_beq_eq_false rfl) (px_get_ne (Nat.ne_of_beq_eq_false rfl) (px_get_ne (Nat.ne_of_beq_eq_false rfl) (px_get_ne (Nat.ne_of_beq_eq_false rfl) (px_get_ne (Nat.ne_of_beq_eq_false rfl) (px_get_ne (Nat.ne_of_beq_eq_false rfl) (px_get_ne (Nat.ne_of_beq_eq_false rfl) (px_get_ne (Nat.ne_of_beq_eq_false rfl) (px_get_ne (Nat.ne_of_beq_eq_false rfl) (px_get_ne (Nat.ne_of_beq_eq_false rfl) (px_get_ne (Nat.ne_of_beq_eq_false rfl) pg_66)))))))))))
set_option maxRecDepth 100000 in
theorem pg_191 (a2 a3 a4 : Int32) : (ph_70 a2 a3 a4)[141]? = some (.inr (7, [.int 6, .int 0, .ref 142])) := (px_get_ne (Nat.ne_of_beq_eq_false rfl) (px_get_ne (Nat.ne_of_beq_eq_false rfl) (px_get_ne (Nat.ne_of_beq_eq_false rfl) (px_get_ne (Nat.ne_of_beq_eq_false rfl) (px_get_ne (Nat.ne_of_beq_eq_false rfl) (px_get_ne (Nat.ne_of_beq_eq_false rfl) (px_get_ne (Nat.ne_of_beq_eq_false rfl) (px_get_ne (Nat.ne_of_beq_eq_false rfl) (px_get_ne (Nat.ne_of_beq_eq_false rfl) (px_get_ne (Nat.ne_of_beq_eq_false rfl) (px_get_ne (Nat.ne_of_beq_eq_false rfl) pg_68)))))))))))
set_option maxRecDepth 100000 in
theorem pl_62 (a2 a3 a4 : Int32) : (ph_69 a2 a3 a4).length = 165 := px_len_set (pl_61 a2 a3 a4)
set_option maxRecDepth 100000 in
theorem pl_63 (a2 a3 a4 : Int32) : (ph_70 a2 a3 a4).length = 165 := px_len_set (pl_62 a2 a3 a4)
set_option maxRecDepth 100000 in
theorem pg_192 (a2 a3 a4 : Int32) : (ph_71 a2 a3 a4)[138]? = some (.inr (9, [.int 0, .int 0, .int 0, .ref 139, .ref 140, .ref 141, .ref 143, .ref 145, .ref 147, .ref 149, .ref 150, .int 0, .ref 136])) := (px_get_lt (pl_63 a2 a3 a4) (Nat.le_of_ble_eq_true rfl) (pg_190 a2 a3 a4))
set_option maxRecDepth 100000 in
theorem pg_193 (a2 a3 a4 : Int32) : (ph_71 a2 a3 a4)[165]? = some (.inl (0, .inl (List.replicate 6 0))) := (px_get_ge (k := 0) (pl_63 a2 a3 a4) rfl rfl)
set_option maxRecDepth 100000 in
theorem pl_64 (a2 a3 a4 : Int32) : (ph_71 a2 a3 a4).length = 166 := px_len_app (pl_63 a2 a3 a4) rfl
set_option maxRecDepth 100000 in
theorem pg_194 (a2 a3 a4 : Int32) : (ph_72 a2 a3 a4)[165]? = some (.inl (0, .inl (List.replicate 6 0))) := (px_get_eq (pl_64 a2 a3 a4) (Nat.le_of_ble_eq_true rfl))
set_option maxRecDepth 100000 in
theorem pl_65 (a2 a3 a4 : Int32) : (ph_72 a2 a3 a4).length = 166 := px_len_set (pl_64 a2 a3 a4)
set_option maxRecDepth 100000 in
theorem pg_195 (a2 a3 a4 : Int32) : (ph_73 a2 a3 a4)[165]? = some (.inl (0, .inl ([0, 2, 0, 0, 0, 0]))) := (px_get_eq (pl_65 a2 a3 a4) (Nat.le_of_ble_eq_true rfl))
set_option maxRecDepth 100000 in
theorem pl_66 (a2 a3 a4 : Int32) : (ph_73 a2 a3 a4).length = 166 := px_len_set (pl_65 a2 a3 a4)
set_option maxRecDepth 100000 in
theorem pg_196 (a2 a3 a4 : Int32) : (ph_74 a2 a3 a4)[165]? = some (.inl (0, .inl ([0, 2, a2, 0, 0, 0]))) := (px_get_eq (pl_66 a2 a3 a4) (Nat.le_of_ble_eq_true rfl))
set_option maxRecDepth 100000 in
theorem pl_67 (a2 a3 a4 : Int32) : (ph_74 a2 a3 a4).length = 166 := px_len_set (pl_66 a2 a3 a4)
set_option maxRecDepth 100000 in
theorem pg_197 (a2 a3 a4 : Int32) : (ph_75 a2 a3 a4)[165]? = some (.inl (0, .inl ([0, 2, a2, a3, 0, 0]))) := (px_get_eq (pl_67 a2 a3 a4) (Nat.le_of_ble_eq_true rfl))
set_option maxRecDepth 100000 in
theorem pl_68 (a2 a3 a4 : Int32) : (ph_75 a2 a3 a4).length = 166 := px_len_set (pl_67 a2 a3 a4)
set_option maxRecDepth 100000 in
theorem pg_198 (a2 a3 a4 : Int32) : (ph_76 a2 a3 a4)[165]? = some (.inl (0, .inl ([0, 2, a2, a3, a4, 0]))) := (px_get_eq (pl_68 a2 a3 a4) (Nat.le_of_ble_eq_true rfl))
set_option maxRecDepth 100000 in
theorem pg_199 (a2 a3 a4 : Int32) : (ph_77 a2 a3 a4)[141]? = some (.inr (7, [.int 6, .int 0, .ref 142])) := (px_get_ne (Nat.ne_of_beq_eq_false rfl) (px_get_ne (Nat.ne_of_beq_eq_false rfl) (px_get_ne (Nat.ne_of_beq_eq_false rfl) (px_get_ne (Nat.ne_of_beq_eq_false rfl) (px_get_ne (Nat.ne_of_beq_eq_false rfl) (px_get_ne (Nat.ne_of_beq_eq_false rfl) (px_get_lt (pl_63 a2 a3 a4) (Nat.le_of_ble_eq_true rfl) (pg_191 a2 a3 a4))))))))
set_option maxRecDepth 100000 in
theorem pg_200 (a2 a3 a4 : Int32) : (ph_77 a2 a3 a4)[142]? = some (.inl (0, .inl (List.replicate 96 0))) := (px_get_ne (Nat.ne_of_beq_eq_false rfl) (px_get_ne (Nat.ne_of_beq_eq_false rfl) (px_get_ne (Nat.ne_of_beq_eq_false rfl) (px_get_ne (Nat.ne_of_beq_eq_false rfl) (px_get_ne (Nat.ne_of_beq_eq_false rfl) (px_get_ne (Nat.ne_of_beq_eq_false rfl) (px_get_lt (pl_63 a2 a3 a4) (Nat.le_of_ble_eq_true rfl) (px_get_ne (Nat.ne_of_beq_eq_false rfl) (px_get_ne (Nat.ne_of_beq_eq_false rfl) (px_get_ne (Nat.ne_of_beq_eq_false rfl) (px_get_ne (Nat.ne_of_beq_eq_false rfl) (px_get_ne (Nat.ne_of_beq_eq_false rfl) (px_get_ne (Nat.ne_of_beq_eq_false rfl) (px_get_ne (Nat.ne_of_beq_eq_false rfl) (px_get_ne (Nat.ne_of_beq_eq_false rfl) (px_get_ne (Nat.ne_of_beq_eq_false rfl) (px_get_ne (Nat.ne_of_beq_eq_false rfl) (px_get_ne (Nat.ne_of_beq_eq_false rfl) pg_78))))))))))))))))))
set_option maxRecDepth 100000 in
theorem pl_69 (a2 a3 a4 : Int32) : (ph_76 a2 a3 a4).length = 166 := px_len_set (pl_68 a2 a3 a4)
set_option maxRecDepth 100000 in
theorem pg_201 (a2 a3 a4 : Int32) : (ph_77 a2 a3 a4)[165]? = some (.inl (0, .inl ([0, 2, a2, a3, a4, 1]))) := (px_get_eq (pl_69 a2 a3 a4) (Nat.le_of_ble_eq_true rfl))
set_option maxRecDepth 100000 in
theorem pg_202 (a2 a3 a4 : Int32) : (ph_78 a2 a3 a4)[141]? = some (.inr (7, [.int 6, .int 0, .ref 142])) := (px_get_ne (Nat.ne_of_beq_eq_false rfl) (pg_199 a2 a3 a4))
set_option maxRecDepth 100000 in
theorem pg_203 (a2 a3 a4 : Int32) : (ph_79 a2 a3 a4)[138]? = some (.inr (9, [.int 0, .int 0, .int 0, .ref 139, .ref 140, .ref 141, .ref 143, .ref 145, .ref 147, .ref 149, .ref 150, .int 0, .ref 136])) := (px_get_ne (Nat.ne_of_beq_eq_false rfl) (px_get_ne (Nat.ne_of_beq_eq_false rfl) (px_get_ne (Nat.ne_of_beq_eq_false rfl) (px_get_ne (Nat.ne_of_beq_eq_false rfl) (px_get_ne (Nat.ne_of_beq_eq_false rfl) (px_get_ne (Nat.ne_of_beq_eq_false rfl) (px_get_ne (Nat.ne_of_beq_eq_false rfl) (px_get_ne (Nat.ne_of_beq_eq_false rfl) (pg_192 a2 a3 a4)))))))))
set_option maxRecDepth 100000 in
theorem pl_70 (a2 a3 a4 : Int32) : (ph_77 a2 a3 a4).length = 166 := px_len_set (pl_69 a2 a3 a4)
set_option maxRecDepth 100000 in
theorem pl_71 (a2 a3 a4 : Int32) : (ph_78 a2 a3 a4).length = 166 := px_len_set (pl_70 a2 a3 a4)
set_option maxRecDepth 100000 in
theorem pl_72 (a2 a3 a4 : Int32) : (ph_79 a2 a3 a4).length = 166 := px_len_set (pl_71 a2 a3 a4)
set_option maxRecDepth 100000 in
theorem pg_204 (a2 a3 a4 : Int32) : (ph_80 a2 a3 a4)[138]? = some (.inr (9, [.int 1, .int 0, .int 0, .ref 139, .ref 140, .ref 141, .ref 143, .ref 145, .ref 147, .ref 149, .ref 150, .int 0, .ref 136])) := (px_get_eq (pl_72 a2 a3 a4) (Nat.le_of_ble_eq_true rfl))
set_option maxRecDepth 100000 in
theorem pg_205 (a2 a3 a4 : Int32) : (ph_80 a2 a3 a4)[136]? = some (.inr (10, [.ref 137, .int 0, .int 0, .ref 138, .ref 151, .long 0])) := (px_get_ne (Nat.ne_of_beq_eq_false rfl) (px_get_ne (Nat.ne_of_beq_eq_false rfl) (px_get_ne (Nat.ne_of_beq_eq_false rfl) (px_get_ne (Nat.ne_of_beq_eq_false rfl) (px_get_ne (Nat.ne_of_beq_eq_false rfl) (px_get_ne (Nat.ne_of_beq_eq_false rfl) (px_get_ne (Nat.ne_of_beq_eq_false rfl) (px_get_ne (Nat.ne_of_beq_eq_false rfl) (px_get_ne (Nat.ne_of_beq_eq_false rfl) (px_get_lt (pl_63 a2 a3 a4) (Nat.le_of_ble_eq_true rfl) (pg_189 a2 a3 a4)))))))))))
set_option maxRecDepth 100000 in
theorem pg_206 (a2 a3 a4 : Int32) : (ph_80 a2 a3 a4)[147]? = some (.inr (7, [.int 6, .int 0, .ref 148])) := (px_get_ne (Nat.ne_of_beq_eq_false rfl) (px_get_ne (Nat.ne_of_beq_eq_false rfl) (px_get_ne (Nat.ne_of_beq_eq_false rfl) (px_get_ne (Nat.ne_of_beq_eq_false rfl) (px_get_ne (Nat.ne_of_beq_eq_false rfl) (px_get_ne (Nat.ne_of_beq_eq_false rfl) (px_get_ne (Nat.ne_of_beq_eq_false rfl) (px_get_ne (Nat.ne_of_beq_eq_false rfl) (px_get_ne (Nat.ne_of_beq_eq_false rfl) (px_get_lt (pl_63 a2 a3 a4) (Nat.le_of_ble_eq_true rfl) (px_get_ne (Nat.ne_of_beq_eq_false rfl) (px_get_ne (Nat.ne_of_beq_eq_false rfl) (px_get_ne (Nat.ne_of_beq_eq_false rfl) (px_get_ne (Nat.ne_of_beq_eq_false rfl) (px_get_ne (Nat.ne_of_beq_eq_false rfl) (px_get_ne (Nat.ne_of_beq_eq_false rfl) (px_get_ne (Nat.ne_of_beq_eq_false rfl) (px_get_ne (Nat.ne_of_beq_eq_false rfl) (px_get_ne (Nat.ne_of_beq_eq_false rfl) (px_get_ne (Nat.ne_of_beq_eq_false rfl) (px_get_ne (Nat.ne_of_beq_eq_false rfl) pg_85)))))))))))))))))))))
set_option maxRecDepth 100000 in
theorem pg_207 (a2 a3 a4 : Int32) : (ph_80 a2 a3 a4)[143]? = some (.inr (7, [.int 6, .int 0, .ref 144])) := (px_get_ne (Nat.ne_of_beq_eq_false rfl) (px_get_ne (Nat.ne_of_beq_eq_false rfl) (px_get_ne (Nat.ne_of_beq_eq_false rfl) (px_get_ne (Nat.ne_of_beq_eq_false rfl) (px_get_ne (Nat.ne_of_beq_eq_false rfl) (px_get_ne (Nat.ne_of_beq_eq_false rfl) (px_get_ne (Nat.ne_of_beq_eq_false rfl) (px_get_ne (Nat.ne_of_beq_eq_false rfl) (px_get_ne (Nat.ne_of_beq_eq_false rfl) (px_get_lt (pl_63 a2 a3 a4) (Nat.le_of_ble_eq_true rfl) (px_get_ne (Nat.ne_of_beq_eq_false rfl) (px_get_ne (Nat.ne_of_beq_eq_false rfl) (px_get_ne (Nat.ne_of_beq_eq_false rfl) (px_get_ne (Nat.ne_of_beq_eq_false rfl) (px_get_ne (Nat.ne_of_beq_eq_false rfl) (px_get_ne (Nat.ne_of_beq_eq_false rfl) (px_get_ne (Nat.ne_of_beq_eq_false rfl) (px_get_ne (Nat.ne_of_beq_eq_false rfl) (px_get_ne (Nat.ne_of_beq_eq_false rfl) (px_get_ne (Nat.ne_of_beq_eq_false rfl) (px_get_ne (Nat.ne_of_beq_eq_false rfl) pg_87)))))))))))))))))))))
set_option maxRecDepth 100000 in
theorem pg_208 (a2 a3 a4 : Int32) : (ph_80 a2 a3 a4)[144]? = some (.inl (0, .inl (List.replicate 96 0))) := (px_get_ne (Nat.ne_of_beq_eq_false rfl) (px_get_ne (Nat.ne_of_beq_eq_false rfl) (px_get_ne (Nat.ne_of_beq_eq_false rfl) (px_get_ne (Nat.ne_of_beq_eq_false rfl) (px_get_ne (Nat.ne_of_beq_eq_false rfl) (px_get_ne (Nat.ne_of_beq_eq_false rfl) (px_get_ne (Nat.ne_of_beq_eq_false rfl) (px_get_ne (Nat.ne_of_beq_eq_false rfl) (px_get_ne (Nat.ne_of_beq_eq_false rfl) (px_get_lt (pl_63 a2 a3 a4) (Nat.le_of_ble_eq_true rfl) (px_get_ne (Nat.ne_of_beq_eq_false rfl) (px_get_ne (Nat.ne_of_beq_eq_false rfl) (px_get_ne (Nat.ne_of_beq_eq_false rfl) (px_get_ne (Nat.ne_of_beq_eq_false rfl) (px_get_ne (Nat.ne_of_beq_eq_false rfl) (px_get_ne (Nat.ne_of_beq_eq_false rfl) (px_get_ne (Nat.ne_of_beq_eq_false rfl) (px_get_ne (Nat.ne_of_beq_eq_false rfl) (px_get_ne (Nat.ne_of_beq_eq_false rfl) (px_get_ne (Nat.ne_of_beq_eq_false rfl) (px_get_ne (Nat.ne_of_beq_eq_false rfl) pg_89)))))))))))))))))))))
set_option maxRecDepth 100000 in
theorem pg_209 (a2 a3 a4 : Int32) : (ph_80 a2 a3 a4)[148]? = some (.inl (0, .inl (List.replicate 96 0))) := (px_get_ne (Nat.ne_of_beq_eq_false rfl) (px_get_ne (Nat.ne_of_beq_eq_false rfl) (px_get_ne (Nat.ne_of_beq_eq_false rfl) (px_get_ne (Nat.ne_of_beq_eq_false rfl) (px_get_ne (Nat.ne_of_beq_eq_false rfl) (px_get_ne (Nat.ne_of_beq_eq_false rfl) (px_get_ne (Nat.ne_of_beq_eq_false rfl) (px_get_ne (Nat.ne_of_beq_eq_false rfl) (px_get_ne (Nat.ne_of_beq_eq_false rfl) (px_get_lt (pl_63 a2 a3 a4) (Nat.le_of_ble_eq_true rfl) (px_get_ne (Nat.ne_of_beq_eq_false rfl) (px_get_ne (Nat.ne_of_beq_eq_false rfl) (px_get_ne (Nat.ne_of_beq_eq_false rfl) (px_get_ne (Nat.ne_of_beq_eq_false rfl) (px_get_ne (Nat.ne_of_beq_eq_false rfl) (px_get_ne (Nat.ne_of_beq_eq_false rfl) (px_get_ne (Nat.ne_of_beq_eq_false rfl) (px_get_ne (Nat.ne_of_beq_eq_false rfl) (px_get_ne (Nat.ne_of_beq_eq_false rfl) (px_get_ne (Nat.ne_of_beq_eq_false rfl) (px_get_ne (Nat.ne_of_beq_eq_false rfl) pg_91)))))))))))))))))))))
set_option maxRecDepth 100000 in
theorem pg_210 (a2 a3 a4 : Int32) : (ph_81 a2 a3 a4)[138]? = some (.inr (9, [.int 1, .int 0, .int 0, .ref 139, .ref 140, .ref 141, .ref 143, .ref 145, .ref 147, .ref 149, .ref 150, .int 0, .ref 136])) := (px_get_ne (Nat.ne_of_beq_eq_false rfl) (pg_204 a2 a3 a4))
set_option maxRecDepth 100000 in
theorem pg_211 (a2 a3 a4 : Int32) : (ph_81 a2 a3 a4)[145]? = some (.inr (7, [.int 2, .int 0, .ref 146])) := (px_get_ne (Nat.ne_of_beq_eq_false rfl) (px_get_ne (Nat.ne_of_beq_eq_false rfl) (px_get_ne (Nat.ne_of_beq_eq_false rfl) (px_get_ne (Nat.ne_of_beq_eq_false rfl) (px_get_ne (Nat.ne_of_beq_eq_false rfl) (px_get_ne (Nat.ne_of_beq_eq_false rfl) (px_get_ne (Nat.ne_of_beq_eq_false rfl) (px_get_ne (Nat.ne_of_beq_eq_false rfl) (px_get_ne (Nat.ne_of_beq_eq_false rfl) (px_get_ne (Nat.ne_of_beq_eq_false rfl) (px_get_lt (pl_63 a2 a3 a4) (Nat.le_of_ble_eq_true rfl) (px_get_ne (Nat.ne_of_beq_eq_false rfl) (px_get_ne (Nat.ne_of_beq_eq_false rfl) (px_get_ne (Nat.ne_of_beq_eq_false rfl) (px_get_ne (Nat.ne_of_beq_eq_false rfl) (px_get_ne (Nat.ne_of_beq_eq_false rfl) (px_get_ne (Nat.ne_of_beq_eq_false rfl) (px_get_ne (Nat.ne_of_beq_eq_false rfl) (px_get_ne (Nat.ne_of_beq_eq_false rfl) (px_get_ne (Nat.ne_of_beq_eq_false rfl) (px_get_ne (Nat.ne_of_beq_eq_false rfl) (px_get_ne (Nat.ne_of_beq_eq_false rfl) pg_94))))))))))))))))))))))
set_option maxRecDepth 100000 in
theorem pg_212 (a2 a3 a4 : Int32) : (ph_81 a2 a3 a4)[141]? = some (.inr (7, [.int 6, .int 1, .ref 142])) := (px_get_ne (Nat.ne_of_beq_eq_false rfl) (px_get_ne (Nat.ne_of_beq_eq_false rfl) (px_get_eq (pl_71 a2 a3 a4) (Nat.le_of_ble_eq_true rfl))))
set_option maxRecDepth 100000 in
theorem pg_213 (a2 a3 a4 : Int32) : (ph_81 a2 a3 a4)[142]? = some (.inl (0, .inl ([0] ++ [2] ++ [a2] ++ [a3] ++ [a4] ++ [1] ++ List.replicate 90 0))) := (px_get_ne (Nat.ne_of_beq_eq_false rfl) (px_get_ne (Nat.ne_of_beq_eq_false rfl) (px_get_ne (Nat.ne_of_beq_eq_false rfl) (px_get_eq (pl_70 a2 a3 a4) (Nat.le_of_ble_eq_true rfl)))))
set_option maxRecDepth 100000 in
theorem pg_214 (a2 a3 a4 : Int32) : (ph_81 a2 a3 a4)[136]? = some (.inr (10, [.ref 137, .int 0, .int 0, .ref 138, .ref 151, .long 0])) := (px_get_ne (Nat.ne_of_beq_eq_false rfl) (pg_205 a2 a3 a4))
set_option maxRecDepth 100000 in
theorem pg_215 (a2 a3 a4 : Int32) : (ph_81 a2 a3 a4)[164]? = some (.inl (2, .inr (.inl ([0])))) := (px_get_ne (Nat.ne_of_beq_eq_false rfl) (px_get_ne (Nat.ne_of_beq_eq_false rfl) (px_get_ne (Nat.ne_of_beq_eq_false rfl) (px_get_ne (Nat.ne_of_beq_eq_false rfl) (px_get_ne (Nat.ne_of_beq_eq_false rfl) (px_get_ne (Nat.ne_of_beq_eq_false rfl) (px_get_ne (Nat.ne_of_beq_eq_false rfl) (px_get_ne (Nat.ne_of_beq_eq_false rfl) (px_get_ne (Nat.ne_of_beq_eq_false rfl) (px_get_ne (Nat.ne_of_beq_eq_false rfl) (px_get_lt (pl_63 a2 a3 a4) (Nat.le_of_ble_eq_true rfl) (px_get_eq (pl_62 a2 a3 a4) (Nat.le_of_ble_eq_true rfl)))))))))))))
set_option maxRecDepth 100000 in
theorem pg_216 : ph_82[93]? = some (.inr (2, [.int 0, .int 0, .ref 94, .ref 95, .ref 96, .ref 97, .ref 98])) := (px_get_ne (Nat.ne_of_beq_eq_false rfl) pg_23)
set_option maxRecDepth 100000 in
theorem pl_73 : ph_82.length = 165 := px_len_set pl_0
set_option maxRecDepth 100000 in
theorem pg_217 : ph_83[93]? = some (.inr (2, [.int 1, .int 0, .ref 94, .ref 95, .ref 96, .ref 97, .ref 98])) := (px_get_eq pl_73 (Nat.le_of_ble_eq_true rfl))
set_option maxRecDepth 100000 in
theorem pl_74 : ph_83.length = 165 := px_len_set pl_73
set_option maxRecDepth 100000 in
theorem pg_218 : ph_84[93]? = some (.inr (2, [.int 1, .int 1, .ref 94, .ref 95, .ref 96, .ref 97, .ref 98])) := (px_get_eq pl_74 (Nat.le_of_ble_eq_true rfl))
set_option maxRecDepth 100000 in
theorem pg_219 : ph_84[95]? = some (.inl (1, .inl (List.replicate 48 0))) := (px_get_ne (Nat.ne_of_beq_eq_false rfl) (px_get_ne (Nat.ne_of_beq_eq_false rfl) (px_get_ne (Nat.ne_of_beq_eq_false rfl) pg_29)))
set_option maxRecDepth 100000 in
theorem pg_220 : ph_85[93]? = some (.inr (2, [.int 1, .int 1, .ref 94, .ref 95, .ref 96, .ref 97, .ref 98])) := (px_get_ne (Nat.ne_of_beq_eq_false rfl) pg_218)
set_option maxRecDepth 100000 in
theorem pg_221 : ph_85[96]? = some (.inl (0, .inl (List.replicate 144 0))) := (px_get_ne (Nat.ne_of_beq_eq_false rfl) (px_get_ne (Nat.ne_of_beq_eq_false rfl) (px_get_ne (Nat.ne_of_beq_eq_false rfl) (px_get_ne (Nat.ne_of_beq_eq_false rfl) pg_32))))
set_option maxRecDepth 100000 in
theorem pg_222 (a2 : Int32) : (ph_86 a2)[93]? = some (.inr (2, [.int 1, .int 1, .ref 94, .ref 95, .ref 96, .ref 97, .ref 98])) := (px_get_ne (Nat.ne_of_beq_eq_false rfl) pg_220)
set_option maxRecDepth 100000 in
theorem pl_75 : ph_84.length = 165 := px_len_set pl_74
set_option maxRecDepth 100000 in
theorem pl_76 : ph_85.length = 165 := px_len_set pl_75
set_option maxRecDepth 100000 in
theorem pg_223 (a2 : Int32) : (ph_86 a2)[96]? = some (.inl (0, .inl (List.replicate 54 0 ++ [a2] ++ List.replicate 89 0))) := (px_get_eq pl_76 (Nat.le_of_ble_eq_true rfl))
set_option maxRecDepth 100000 in
theorem pg_224 (a2 a3 : Int32) : (ph_87 a2 a3)[93]? = some (.inr (2, [.int 1, .int 1, .ref 94, .ref 95, .ref 96, .ref 97, .ref 98])) := (px_get_ne (Nat.ne_of_beq_eq_false rfl) (pg_222 a2))
set_option maxRecDepth 100000 in
theorem pl_77 (a2 : Int32) : (ph_86 a2).length = 165 := px_len_set pl_76
set_option maxRecDepth 100000 in
theorem pg_225 (a2 a3 : Int32) : (ph_87 a2 a3)[96]? = some (.inl (0, .inl (List.replicate 54 0 ++ [a2] ++ [a3] ++ List.replicate 88 0))) := (px_get_eq (pl_77 a2) (Nat.le_of_ble_eq_true rfl))
set_option maxRecDepth 100000 in
theorem pg_226 (a2 a3 a4 : Int32) : (ph_88 a2 a3 a4)[93]? = some (.inr (2, [.int 1, .int 1, .ref 94, .ref 95, .ref 96, .ref 97, .ref 98])) := (px_get_ne (Nat.ne_of_beq_eq_false rfl) (pg_224 a2 a3))
set_option maxRecDepth 100000 in
theorem pg_227 (a2 a3 a4 : Int32) : (ph_88 a2 a3 a4)[97]? = some (.inl (0, .inl (List.replicate 8 0))) := (px_get_ne (Nat.ne_of_beq_eq_false rfl) (px_get_ne (Nat.ne_of_beq_eq_false rfl) (px_get_ne (Nat.ne_of_beq_eq_false rfl) (px_get_ne (Nat.ne_of_beq_eq_false rfl) (px_get_ne (Nat.ne_of_beq_eq_false rfl) (px_get_ne (Nat.ne_of_beq_eq_false rfl) (px_get_ne (Nat.ne_of_beq_eq_false rfl) pg_25)))))))
set_option maxRecDepth 100000 in
theorem pg_228 (a2 a3 a4 : Int32) : (ph_88 a2 a3 a4)[98]? = some (.inl (0, .inl (List.replicate 48 0))) := (px_get_ne (Nat.ne_of_beq_eq_false rfl) (px_get_ne (Nat.ne_of_beq_eq_false rfl) (px_get_ne (Nat.ne_of_beq_eq_false rfl) (px_get_ne (Nat.ne_of_beq_eq_false rfl) (px_get_ne (Nat.ne_of_beq_eq_false rfl) (px_get_ne (Nat.ne_of_beq_eq_false rfl) (px_get_ne (Nat.ne_of_beq_eq_false rfl) pg_40)))))))
set_option maxRecDepth 100000 in
theorem pg_229 (a2 a3 a4 : Int32) : (ph_89 a2 a3 a4)[93]? = some (.inr (2, [.int 1, .int 1, .ref 94, .ref 95, .ref 96, .ref 97, .ref 98])) := (px_get_ne (Nat.ne_of_beq_eq_false rfl) (pg_226 a2 a3 a4))
set_option maxRecDepth 100000 in
theorem pg_230 (a2 a3 a4 : Int32) : (ph_89 a2 a3 a4)[97]? = some (.inl (0, .inl (List.replicate 8 0))) := (px_get_ne (Nat.ne_of_beq_eq_false rfl) (pg_227 a2 a3 a4))
set_option maxRecDepth 100000 in
theorem pg_231 (a2 a3 a4 : Int32) : (ph_90 a2 a3 a4)[92]? = some (.inr (5, [.ref 1, .ref 93, .ref 99, .ref 110, .int 0, .ref 111, .ref 112, .ref 113])) := (px_get_ne (Nat.ne_of_beq_eq_false rfl) (px_get_ne (Nat.ne_of_beq_eq_false rfl) (px_get_ne (Nat.ne_of_beq_eq_false rfl) (px_get_ne (Nat.ne_of_beq_eq_false rfl) (px_get_ne (Nat.ne_of_beq_eq_false rfl) (px_get_ne (Nat.ne_of_beq_eq_false rfl) (px_get_ne (Nat.ne_of_beq_eq_false rfl) (px_get_ne (Nat.ne_of_beq_eq_false rfl) (px_get_ne (Nat.ne_of_beq_eq_false rfl) pg_22)))))))))
set_option maxRecDepth 100000 in
theorem pg_232 (a2 a3 a4 : Int32) : (ph_90 a2 a3 a4)[93]? = some (.inr (2, [.int 1, .int 1, .ref 94, .ref 95, .ref 96, .ref 97, .ref 98])) := (px_get_ne (Nat.ne_of_beq_eq_false rfl) (pg_229 a2 a3 a4))
set_option maxRecDepth 100000 in
theorem pg_233 (a2 a3 a4 : Int32) : (ph_90 a2 a3 a4)[94]? = some (.inl (0, .inl (List.replicate 18 (-1) ++ [0] ++ List.replicate 29 (-1)))) := (px_get_ne (Nat.ne_of_beq_eq_false rfl) (px_get_ne (Nat.ne_of_beq_eq_false rfl) (px_get_ne (Nat.ne_of_beq_eq_false rfl) (px_get_ne (Nat.ne_of_beq_eq_false rfl) (px_get_ne (Nat.ne_of_beq_eq_false rfl) (px_get_ne (Nat.ne_of_beq_eq_false rfl) (px_get_ne (Nat.ne_of_beq_eq_false rfl) (px_get_ne (Nat.ne_of_beq_eq_false rfl) (px_get_eq pl_0 (Nat.le_of_ble_eq_true rfl))))))))))
set_option maxRecDepth 100000 in
theorem pg_234 (a2 a3 a4 : Int32) : (ph_90 a2 a3 a4)[95]? = some (.inl (1, .inl (List.replicate 48 0))) := (px_get_ne (Nat.ne_of_beq_eq_false rfl) (px_get_ne (Nat.ne_of_beq_eq_false rfl) (px_get_ne (Nat.ne_of_beq_eq_false rfl) (px_get_ne (Nat.ne_of_beq_eq_false rfl) (px_get_ne (Nat.ne_of_beq_eq_false rfl) (px_get_eq pl_75 (Nat.le_of_ble_eq_true rfl)))))))
set_option maxRecDepth 100000 in
theorem pg_235 (a2 a3 a4 : Int32) : (ph_91 a2 a3 a4)[92]? = some (.inr (5, [.ref 1, .ref 93, .ref 99, .ref 110, .int 0, .ref 111, .ref 112, .ref 113])) := (px_get_ne (Nat.ne_of_beq_eq_false rfl) (pg_231 a2 a3 a4))
set_option maxRecDepth 100000 in
theorem pg_236 (a2 a3 a4 : Int32) : (ph_91 a2 a3 a4)[93]? = some (.inr (2, [.int 1, .int 1, .ref 94, .ref 95, .ref 96, .ref 97, .ref 98])) := (px_get_ne (Nat.ne_of_beq_eq_false rfl) (pg_232 a2 a3 a4))
set_option maxRecDepth 100000 in
theorem pg_237 (a2 a3 a4 : Int32) : (ph_91 a2 a3 a4)[1]? = some (.inl (3, .inr (.inr ([some 2, some 17, some 32, some 47, some 62, some 77])))) := (px_get_ne (Nat.ne_of_beq_eq_false rfl) (px_get_ne (Nat.ne_of_beq_eq_false rfl) (px_get_ne (Nat.ne_of_beq_eq_false rfl) (px_get_ne (Nat.ne_of_beq_eq_false rfl) (px_get_ne (Nat.ne_of_beq_eq_false rfl) (px_get_ne (Nat.ne_of_beq_eq_false rfl) (px_get_ne (Nat.ne_of_beq_eq_false rfl) (px_get_ne (Nat.ne_of_beq_eq_false rfl) (px_get_ne (Nat.ne_of_beq_eq_false rfl) (px_get_ne (Nat.ne_of_beq_eq_false rfl) pg_4))))))))))
set_option maxRecDepth 100000 in
theorem pg_238 (a2 a3 a4 : Int32) : (ph_91 a2 a3 a4)[2]? = some (.inr (4, [.int 0, .int 0, .ref 3, .ref 11])) := (px_get_ne (Nat.ne_of_beq_eq_false rfl) (px_get_ne (Nat.ne_of_beq_eq_false rfl) (px_get_ne (Nat.ne_of_beq_eq_false rfl) (px_get_ne (Nat.ne_of_beq_eq_false rfl) (px_get_ne (Nat.ne_of_beq_eq_false rfl) (px_get_ne (Nat.ne_of_beq_eq_false rfl) (px_get_ne (Nat.ne_of_beq_eq_false rfl) (px_get_ne (Nat.ne_of_beq_eq_false rfl) (px_get_ne (Nat.ne_of_beq_eq_false rfl) (px_get_ne (Nat.ne_of_beq_eq_false rfl) pg_5))))))))))
set_option maxRecDepth 100000 in
theorem pg_239 (a2 a3 a4 : Int32) : (ph_91 a2 a3 a4)[17]? = some (.inr (4, [.int 0, .int 0, .ref 18, .ref 26])) := (px_get_ne (Nat.ne_of_beq_eq_false rfl) (px_get_ne (Nat.ne_of_beq_eq_false rfl) (px_get_ne (Nat.ne_of_beq_eq_false rfl) (px_get_ne (Nat.ne_of_beq_eq_false rfl) (px_get_ne (Nat.ne_of_beq_eq_false rfl) (px_get_ne (Nat.ne_of_beq_eq_false rfl) (px_get_ne (Nat.ne_of_beq_eq_false rfl) (px_get_ne (Nat.ne_of_beq_eq_false rfl) (px_get_ne (Nat.ne_of_beq_eq_false rfl) (px_get_ne (Nat.ne_of_beq_eq_false rfl) pg_52))))))))))
set_option maxRecDepth 100000 in
theorem pg_240 (a2 a3 a4 : Int32) : (ph_91 a2 a3 a4)[32]? = some (.inr (4, [.int 0, .int 0, .ref 33, .ref 41])) := (px_get_ne (Nat.ne_of_beq_eq_false rfl) (px_get_ne (Nat.ne_of_beq_eq_false rfl) (px_get_ne (Nat.ne_of_beq_eq_false rfl) (px_get_ne (Nat.ne_of_beq_eq_false rfl) (px_get_ne (Nat.ne_of_beq_eq_false rfl) (px_get_ne (Nat.ne_of_beq_eq_false rfl) (px_get_ne (Nat.ne_of_beq_eq_false rfl) (px_get_ne (Nat.ne_of_beq_eq_false rfl) (px_get_ne (Nat.ne_of_beq_eq_false rfl) (px_get_ne (Nat.ne_of_beq_eq_false rfl) pg_54))))))))))
set_option maxRecDepth 100000 in
theorem pg_241 (a2 a3 a4 : Int32) : (ph_91 a2 a3 a4)[47]? = some (.inr (4, [.int 0, .int 0, .ref 48, .ref 56])) := (px_get_ne (Nat.ne_of_beq_eq_false rfl) (px_get_ne (Nat.ne_of_beq_eq_false rfl) (px_get_ne (Nat.ne_of_beq_eq_false rfl) (px_get_ne (Nat.ne_of_beq_eq_false rfl) (px_get_ne (Nat.ne_of_beq_eq_false rfl) (px_get_ne (Nat.ne_of_beq_eq_false rfl) (px_get_ne (Nat.ne_of_beq_eq_false rfl) (px_get_ne (Nat.ne_of_beq_eq_false rfl) (px_get_ne (Nat.ne_of_beq_eq_false rfl) (px_get_ne (Nat.ne_of_beq_eq_false rfl) pg_56))))))))))
set_option maxRecDepth 100000 in
theorem pg_242 (a2 a3 a4 : Int32) : (ph_91 a2 a3 a4)[62]? = some (.inr (4, [.int 0, .int 0, .ref 63, .ref 71])) := (px_get_ne (Nat.ne_of_beq_eq_false rfl) (px_get_ne (Nat.ne_of_beq_eq_false rfl) (px_get_ne (Nat.ne_of_beq_eq_false rfl) (px_get_ne (Nat.ne_of_beq_eq_false rfl) (px_get_ne (Nat.ne_of_beq_eq_false rfl) (px_get_ne (Nat.ne_of_beq_eq_false rfl) (px_get_ne (Nat.ne_of_beq_eq_false rfl) (px_get_ne (Nat.ne_of_beq_eq_false rfl) (px_get_ne (Nat.ne_of_beq_eq_false rfl) (px_get_ne (Nat.ne_of_beq_eq_false rfl) pg_58))))))))))
set_option maxRecDepth 100000 in
theorem pg_243 (a2 a3 a4 : Int32) : (ph_91 a2 a3 a4)[77]? = some (.inr (4, [.int 0, .int 0, .ref 78, .ref 86])) := (px_get_ne (Nat.ne_of_beq_eq_false rfl) (px_get_ne (Nat.ne_of_beq_eq_false rfl) (px_get_ne (Nat.ne_of_beq_eq_false rfl) (px_get_ne (Nat.ne_of_beq_eq_false rfl) (px_get_ne (Nat.ne_of_beq_eq_false rfl) (px_get_ne (Nat.ne_of_beq_eq_false rfl) (px_get_ne (Nat.ne_of_beq_eq_false rfl) (px_get_ne (Nat.ne_of_beq_eq_false rfl) (px_get_ne (Nat.ne_of_beq_eq_false rfl) (px_get_ne (Nat.ne_of_beq_eq_false rfl) pg_60))))))))))
set_option maxRecDepth 100000 in
theorem pg_244 (a2 a3 a4 : Int32) : (ph_91 a2 a3 a4)[94]? = some (.inl (0, .inl (List.replicate 18 (-1) ++ [0] ++ List.replicate 29 (-1)))) := (px_get_ne (Nat.ne_of_beq_eq_false rfl) (pg_233 a2 a3 a4))
set_option maxRecDepth 100000 in
theorem pl_78 (a2 a3 : Int32) : (ph_87 a2 a3).length = 165 := px_len_set (pl_77 a2)
set_option maxRecDepth 100000 in
theorem pl_79 (a2 a3 a4 : Int32) : (ph_88 a2 a3 a4).length = 165 := px_len_set (pl_78 a2 a3)
set_option maxRecDepth 100000 in
theorem pl_80 (a2 a3 a4 : Int32) : (ph_89 a2 a3 a4).length = 165 := px_len_set (pl_79 a2 a3 a4)
set_option maxRecDepth 100000 in
theorem pl_81 (a2 a3 a4 : Int32) : (ph_90 a2 a3 a4).length = 165 := px_len_set (pl_80 a2 a3 a4)
set_option maxRecDepth 100000 in
theorem pg_245 (a2 a3 a4 : Int32) : (ph_91 a2 a3 a4)[95]? = some (.inl (1, .inl (List.replicate 18 0 ++ [1] ++ List.replicate 29 0))) := (px_get_eq (pl_81 a2 a3 a4) (Nat.le_of_ble_eq_true rfl))
set_option maxRecDepth 100000 in
theorem pg_246 (a2 a3 a4 : Int32) : (ph_91 a2 a3 a4)[164]? = some (.inl (2, .inr (.inl ([0])))) := (px_get_ne (Nat.ne_of_beq_eq_false rfl) (px_get_ne (Nat.ne_of_beq_eq_false rfl) (px_get_ne (Nat.ne_of_beq_eq_false rfl) (px_get_ne (Nat.ne_of_beq_eq_false rfl) (px_get_ne (Nat.ne_of_beq_eq_false rfl) (px_get_ne (Nat.ne_of_beq_eq_false rfl) (px_get_ne (Nat.ne_of_beq_eq_false rfl) (px_get_ne (Nat.ne_of_beq_eq_false rfl) (px_get_ne (Nat.ne_of_beq_eq_false rfl) (px_get_ne (Nat.ne_of_beq_eq_false rfl) pg_8))))))))))
set_option maxRecDepth 100000 in
theorem pg_247 (a2 a3 a4 : Int32) : (ph_92 a2 a3 a4)[136]? = some (.inr (10, [.ref 137, .int 0, .int 0, .ref 138, .ref 151, .long 0])) := (px_get_ne (Nat.ne_of_beq_eq_false rfl) (px_get_ne (Nat.ne_of_beq_eq_false rfl) (px_get_ne (Nat.ne_of_beq_eq_false rfl) (px_get_ne (Nat.ne_of_beq_eq_false rfl) (px_get_ne (Nat.ne_of_beq_eq_false rfl) (px_get_ne (Nat.ne_of_beq_eq_false rfl) (px_get_ne (Nat.ne_of_beq_eq_false rfl) (px_get_ne (Nat.ne_of_beq_eq_false rfl) (px_get_ne (Nat.ne_of_beq_eq_false rfl) (px_get_ne (Nat.ne_of_beq_eq_false rfl) (px_get_ne (Nat.ne_of_beq_eq_false rfl) pg_1)))))))))))
set_option maxRecDepth 100000 in
theorem pg_248 (a2 a3 a4 : Int32) : (ph_92 a2 a3 a4)[138]? = some (.inr (9, [.int 0, .int 0, .int 0, .ref 139, .ref 140, .ref 141, .ref 143, .ref 145, .ref 147, .ref 149, .ref 150, .int 0, .ref 136])) := (px_get_ne (Nat.ne_of_beq_eq_false rfl) (px_get_ne (Nat.ne_of_beq_eq_false rfl) (px_get_ne (Nat.ne_of_beq_eq_false rfl) (px_get_ne (Nat.ne_of_beq_eq_false rfl) (px_get_ne (Nat.ne_of_beq_eq_false rfl) (px_get_ne (Nat.ne_of_beq_eq_false rfl) (px_get_ne (Nat.ne_of_beq_eq_false rfl) (px_get_ne (Nat.ne_of_beq_eq_false rfl) (px_get_ne (Nat.ne_of_beq_eq_false rfl) (px_get_ne (Nat.ne_of_beq_eq_false rfl) (px_get_ne (Nat.ne_of_beq_eq_false rfl) pg_66)))))))))))
set_option maxRecDepth 100000 in
theorem pg_249 (a2 a3 a4 : Int32) : (ph_92 a2 a3 a4)[141]? = some (.inr (7, [.int 6, .int 0, .ref 142])) := (px_get_ne (Nat.ne_of_beq_eq_false rfl) (px_get_ne (Nat.ne_of_beq_eq_false rfl) (px_get_ne (Nat.ne_of_beq_eq_false rfl) (px_get_ne (Nat.ne_of_beq_eq_false rfl) (px_get_ne (Nat.ne_of_beq_eq_false rfl) (px_get_ne (Nat.ne_of_beq_eq_false rfl) (px_get_ne (Nat.ne_of_beq_eq_false rfl) (px_get_ne (Nat.ne_of_beq_eq_false rfl) (px_get_ne (Nat.ne_of_beq_eq_false rfl) (px_get_ne (Nat.ne_of_beq_eq_false rfl) (px_get_ne (Nat.ne_of_beq_eq_false rfl) pg_68)))))))))))
set_option maxRecDepth 100000 in
theorem pl_82 (a2 a3 a4 : Int32) : (ph_91 a2 a3 a4).length = 165 := px_len_set (pl_81 a2 a3 a4)
set_option maxRecDepth 100000 in
theorem pl_83 (a2 a3 a4 : Int32) : (ph_92 a2 a3 a4).length = 165 := px_len_set (pl_82 a2 a3 a4)
set_option maxRecDepth 100000 in
theorem pg_250 (a2 a3 a4 : Int32) : (ph_93 a2 a3 a4)[138]? = some (.inr (9, [.int 0, .int 0, .int 0, .ref 139, .ref 140, .ref 141, .ref 143, .ref 145, .ref 147, .ref 149, .ref 150, .int 0, .ref 136])) := (px_get_lt (pl_83 a2 a3 a4) (Nat.le_of_ble_eq_true rfl) (pg_248 a2 a3 a4))
set_option maxRecDepth 100000 in
theorem pg_251 (a2 a3 a4 : Int32) : (ph_93 a2 a3 a4)[165]? = some (.inl (0, .inl (List.replicate 6 0))) := (px_get_ge (k := 0) (pl_83 a2 a3 a4) rfl rfl)
set_option maxRecDepth 100000 in
theorem pl_84 (a2 a3 a4 : Int32) : (ph_93 a2 a3 a4).length = 166 := px_len_app (pl_83 a2 a3 a4) rfl
set_option maxRecDepth 100000 in
theorem pg_252 (a2 a3 a4 : Int32) : (ph_94 a2 a3 a4)[165]? = some (.inl (0, .inl (List.replicate 6 0))) := (px_get_eq (pl_84 a2 a3 a4) (Nat.le_of_ble_eq_true rfl))
set_option maxRecDepth 100000 in
theorem pl_85 (a2 a3 a4 : Int32) : (ph_94 a2 a3 a4).length = 166 := px_len_set (pl_84 a2 a3 a4)
set_option maxRecDepth 100000 in
theorem pg_253 (a2 a3 a4 : Int32) : (ph_95 a2 a3 a4)[165]? = some (.inl (0, .inl ([0, 3, 0, 0, 0, 0]))) := (px_get_eq (pl_85 a2 a3 a4) (Nat.le_of_ble_eq_true rfl))
set_option maxRecDepth 100000 in
theorem pl_86 (a2 a3 a4 : Int32) : (ph_95 a2 a3 a4).length = 166 := px_len_set (pl_85 a2 a3 a4)
set_option maxRecDepth 100000 in
theorem pg_254 (a2 a3 a4 : Int32) : (ph_96 a2 a3 a4)[165]? = some (.inl (0, .inl ([0, 3, a2, 0, 0, 0]))) := (px_get_eq (pl_86 a2 a3 a4) (Nat.le_of_ble_eq_true rfl))
set_option maxRecDepth 100000 in
theorem pl_87 (a2 a3 a4 : Int32) : (ph_96 a2 a3 a4).length = 166 := px_len_set (pl_86 a2 a3 a4)
set_option maxRecDepth 100000 in
theorem pg_255 (a2 a3 a4 : Int32) : (ph_97 a2 a3 a4)[165]? = some (.inl (0, .inl ([0, 3, a2, a3, 0, 0]))) := (px_get_eq (pl_87 a2 a3 a4) (Nat.le_of_ble_eq_true rfl))
set_option maxRecDepth 100000 in
theorem pl_88 (a2 a3 a4 : Int32) : (ph_97 a2 a3 a4).length = 166 := px_len_set (pl_87 a2 a3 a4)
set_option maxRecDepth 100000 in
theorem pg_256 (a2 a3 a4 : Int32) : (ph_98 a2 a3 a4)[165]? = some (.inl (0, .inl ([0, 3, a2, a3, a4, 0]))) := (px_get_eq (pl_88 a2 a3 a4) (Nat.le_of_ble_eq_true rfl))
set_option maxRecDepth 100000 in
theorem pg_257 (a2 a3 a4 : Int32) : (ph_99 a2 a3 a4)[141]? = some (.inr (7, [.int 6, .int 0, .ref 142])) := (px_get_ne (Nat.ne_of_beq_eq_false rfl) (px_get_ne (Nat.ne_of_beq_eq_false rfl) (px_get_ne (Nat.ne_of_beq_eq_false rfl) (px_get_ne (Nat.ne_of_beq_eq_false rfl) (px_get_ne (Nat.ne_of_beq_eq_false rfl) (px_get_ne (Nat.ne_of_beq_eq_false rfl) (px_get_lt (pl_83 a2 a3 a4) (Nat.le_of_ble_eq_true rfl) (pg_249 a2 a3 a4))))))))
set_option maxRecDepth 100000 in
theorem pg_258 (a2 a3 a4 : Int32) : (ph_99 a2 a3 a4)[142]? = some (.inl (0, .inl (List.replicate 96 0))) := (px_get_ne (Nat.ne_of_beq_eq_false rfl) (px_get_ne (Nat.ne_of_beq_eq_false rfl) (px_get_ne (Nat.ne_of_beq_eq_false rfl) (px_get_ne (Nat.ne_of_beq_eq_false rfl) (px_get_ne (Nat.ne_of_beq_eq_false rfl) (px_get_ne (Nat.ne_of_beq_eq_false rfl) (px_get_lt (pl_83 a2 a3 a4) (Nat.le_of_ble_eq_true rfl) (px_get_ne (Nat.ne_of_beq_eq_false rfl) (px_get_ne (Nat.ne_of_beq_eq_false rfl) (px_get_ne (Nat.ne_of_beq_eq_false rfl) (px_get_ne (Nat.ne_of_beq_eq_false rfl) (px_get_ne (Nat.ne_of_beq_eq_false rfl) (px_get_ne (Nat.ne_of_beq_eq_false rfl) (px_get_ne (Nat.ne_of_beq_eq_false rfl) (px_get_ne (Nat.ne_of_beq_eq_false rfl) (px_get_ne (Nat.ne_of_beq_eq_false rfl) (px_get_ne (Nat.ne_of_beq_eq_false rfl) (px_get_ne (Nat.ne_of_beq_eq_false rfl) pg_78))))))))))))))))))
set_option maxRecDepth 100000 in
theorem pl_89 (a2 a3 a4 : Int32) : (ph_98 a2 a3 a4).length = 166 := px_len_set (pl_88 a2 a3 a4)
set_option maxRecDepth 100000 in
theorem pg_259 (a2 a3 a4 : Int32) : (ph_99 a2 a3 a4)[165]? = some (.inl (0, .inl ([0, 3, a2, a3, a4, 1]))) := (px_get_eq (pl_89 a2 a3 a4) (Nat.le_of_ble_eq_true rfl))
set_option maxRecDepth 100000 in
theorem pg_260 (a2 a3 a4 : Int32) : (ph_100 a2 a3 a4)[141]? = some (.inr (7, [.int 6, .int 0, .ref 142])) := (px_get_ne (Nat.ne_of_beq_eq_false rfl) (pg_257 a2 a3 a4))
set_option maxRecDepth 100000 in
theorem pg_261 (a2 a3 a4 : Int32) : (ph_101 a2 a3 a4)[138]? = some (.inr (9, [.int 0, .int 0, .int 0, .ref 139, .ref 140, .ref 141, .ref 143, .ref 145, .ref 147, .ref 149, .ref 150, .int 0, .ref 136])) := (px_get_ne (Nat.ne_of_beq_eq_false rfl) (px_get_ne (Nat.ne_of_beq_eq_false rfl) (px_get_ne (Nat.ne_of_beq_eq_false rfl) (px_get_ne (Nat.ne_of_beq_eq_false rfl) (px_get_ne (Nat.ne_of_beq_eq_false rfl) (px_get_ne (Nat.ne_of_beq_eq_false rfl) (px_get_ne (Nat.ne_of_beq_eq_false rfl) (px_get_ne (Nat.ne_of_beq_eq_false rfl) (pg_250 a2 a3 a4)))))))))
set_option maxRecDepth 100000 in
theorem pl_90 (a2 a3 a4 : Int32) : (ph_99 a2 a3 a4).length = 166 := px_len_set (pl_89 a2 a3 a4)
set_option maxRecDepth 100000 in
theorem pl_91 (a2 a3 a4 : Int32) : (ph_100 a2 a3 a4).length = 166 := px_len_set (pl_90 a2 a3 a4)
set_option maxRecDepth 100000 in
theorem pl_92 (a2 a3 a4 : Int32) : (ph_101 a2 a3 a4).length = 166 := px_len_set (pl_91 a2 a3 a4)
set_option maxRecDepth 100000 in
theorem pg_262 (a2 a3 a4 : Int32) : (ph_102 a2 a3 a4)[138]? = some (.inr (9, [.int 1, .int 0, .int 0, .ref 139, .ref 140, .ref 141, .ref 143, .ref 145, .ref 147, .ref 149, .ref 150, .int 0, .ref 136])) := (px_get_eq (pl_92 a2 a3 a4) (Nat.le_of_ble_eq_true rfl))
set_option maxRecDepth 100000 in
theorem pg_263 (a2 a3 a4 : Int32) : (ph_102 a2 a3 a4)[136]? = some (.inr (10, [.ref 137, .int 0, .int 0, .ref 138, .ref 151, .long 0])) := (px_get_ne (Nat.ne_of_beq_eq_false rfl) (px_get_ne (Nat.ne_of_beq_eq_false rfl) (px_get_ne (Nat.ne_of_beq_eq_false rfl) (px_get_ne (Nat.ne_of_beq_eq_false rfl) (px_get_ne (Nat.ne_of_beq_eq_false rfl) (px_get_ne (Nat.ne_of_beq_eq_false rfl) (px_get_ne (Nat.ne_of_beq_eq_false rfl) (px_get_ne (Nat.ne_of_beq_eq_false rfl) (px_get_ne (Nat.ne_of_beq_eq_false rfl) (px_get_lt (pl_83 a2 a3 a4) (Nat.le_of_ble_eq_true rfl) (pg_247 a2 a3 a4)))))))))))
set_option maxRecDepth 100000 in
theorem pg_264 (a2 a3 a4 : Int32) : (ph_102 a2 a3 a4)[147]? = some (.inr (7, [.int 6, .int 0, .ref 148])) := (px_get_ne (Nat.ne_of_beq_eq_false rfl) (px_get_ne (Nat.ne_of_beq_eq_false rfl) (px_get_ne (Nat.ne_of_beq_eq_false rfl) (px_get_ne (Nat.ne_of_beq_eq_false rfl) (px_get_ne (Nat.ne_of_beq_eq_false rfl) (px_get_ne (Nat.ne_of_beq_eq_false rfl) (px_get_ne (Nat.ne_of_beq_eq_false rfl) (px_get_ne (Nat.ne_of_beq_eq_false rfl) (px_get_ne (Nat.ne_of_beq_eq_false rfl) (px_get_lt (pl_83 a2 a3 a4) (Nat.le_of_ble_eq_true rfl) (px_get_ne (Nat.ne_of_beq_eq_false rfl) (px_get_ne (Nat.ne_of_beq_eq_false rfl) (px_get_ne (Nat.ne_of_beq_eq_false rfl) (px_get_ne (Nat.ne_of_beq_eq_false rfl) (px_get_ne (Nat.ne_of_beq_eq_false rfl) (px_get_ne (Nat.ne_of_beq_eq_false rfl) (px_get_ne (Nat.ne_of_beq_eq_false rfl) (px_get_ne (Nat.ne_of_beq_eq_false rfl) (px_get_ne (Nat.ne_of_beq_eq_false rfl) (px_get_ne (Nat.ne_of_beq_eq_false rfl) (px_get_ne (Nat.ne_of_beq_eq_false rfl) pg_85)))))))))))))))))))))
set_option maxRecDepth 100000 in
theorem pg_265 (a2 a3 a4 : Int32) : (ph_102 a2 a3 a4)[143]? = some (.inr (7, [.int 6, .int 0, .ref 144])) := (px_get_ne (Nat.ne_of_beq_eq_false rfl) (px_get_ne (Nat.ne_of_beq_eq_false rfl) (px_get_ne (Nat.ne_of_beq_eq_false rfl) (px_get_ne (Nat.ne_of_beq_eq_false rfl) (px_get_ne (Nat.ne_of_beq_eq_false rfl) (px_get_ne (Nat.ne_of_beq_eq_false rfl) (px_get_ne (Nat.ne_of_beq_eq_false rfl) (px_get_ne (Nat.ne_of_beq_eq_false rfl) (px_get_ne (Nat.ne_of_beq_eq_false rfl) (px_get_lt (pl_83 a2 a3 a4) (Nat.le_of_ble_eq_true rfl) (px_get_ne (Nat.ne_of_beq_eq_false rfl) (px_get_ne (Nat.ne_of_beq_eq_false rfl) (px_get_ne (Nat.ne_of_beq_eq_false rfl) (px_get_ne (Nat.ne_of_beq_eq_false rfl) (px_get_ne (Nat.ne_of_beq_eq_false rfl) (px_get_ne (Nat.ne_of_beq_eq_false rfl) (px_get_ne (Nat.ne_of_beq_eq_false rfl) (px_get_ne (Nat.ne_of_beq_eq_false rfl) (px_get_ne (Nat.ne_of_beq_eq_false rfl) (px_get_ne (Nat.ne_of_beq_eq_false rfl) (px_get_ne (Nat.ne_of_beq_eq_false rfl) pg_87)))))))))))))))))))))
set_option maxRecDepth 100000 in
theorem pg_266 (a2 a3 a4 : Int32) : (ph_102 a2 a3 a4)[144]? = some (.inl (0, .inl (List.replicate 96 0))) := (px_get_ne (Nat.ne_of_beq_eq_false rfl) (px_get_ne (Nat.ne_of_beq_eq_false rfl) (px_get_ne (Nat.ne_of_beq_eq_false rfl) (px_get_ne (Nat.ne_of_beq_eq_false rfl) (px_get_ne (Nat.ne_of_beq_eq_false rfl) (px_get_ne (Nat.ne_of_beq_eq_false rfl) (px_get_ne (Nat.ne_of_beq_eq_false rfl) (px_get_ne (Nat.ne_of_beq_eq_false rfl) (px_get_ne (Nat.ne_of_beq_eq_false rfl) (px_get_lt (pl_83 a2 a3 a4) (Nat.le_of_ble_eq_true rfl) (px_get_ne (Nat.ne_of_beq_eq_false rfl) (px_get_ne (Nat.ne_of_beq_eq_false rfl) (px_get_ne (Nat.ne_of_beq_eq_false rfl) (px_get_ne (Nat.ne_of_beq_eq_false rfl) (px_get_ne (Nat.ne_of_beq_eq_false rfl) (px_get_ne (Nat.ne_of_beq_eq_false rfl) (px_get_ne (Nat.ne_of_beq_eq_false rfl) (px_get_ne (Nat.ne_of_beq_eq_false rfl) (px_get_ne (Nat.ne_of_beq_eq_false rfl) (px_get_ne (Nat.ne_of_beq_eq_false rfl) (px_get_ne (Nat.ne_of_beq_eq_false rfl) pg_89)))))))))))))))))))))
set_option maxRecDepth 100000 in
theorem pg_267 (a2 a3 a4 : Int32) : (ph_102 a2 a3 a4)[148]? = some (.inl (0, .inl (List.replicate 96 0))) := (px_get_ne (Nat.ne_of_beq_eq_false rfl) (px_get_ne (Nat.ne_of_beq_eq_false rfl) (px_get_ne (Nat.ne_of_beq_eq_false rfl) (px_get_ne (Nat.ne_of_beq_eq_false rfl) (px_get_ne (Nat.ne_of_beq_eq_false rfl) (px_get_ne (Nat.ne_of_beq_eq_false rfl) (px_get_ne (Nat.ne_of_beq_eq_false rfl) (px_get_ne (Nat.ne_of_beq_eq_false rfl) (px_get_ne (Nat.ne_of_beq_eq_false rfl) (px_get_lt (pl_83 a2 a3 a4) (Nat.le_of_ble_eq_true rfl) (px_get_ne (Nat.ne_of_beq_eq_false rfl) (px_get_ne (Nat.ne_of_beq_eq_false rfl) (px_get_ne (Nat.ne_of_beq_eq_false rfl) (px_get_ne (Nat.ne_of_beq_eq_false rfl) (px_get_ne (Nat.ne_of_beq_eq_false rfl) (px_get_ne (Nat.ne_of_beq_eq_false rfl) (px_get_ne (Nat.ne_of_beq_eq_false rfl) (px_get_ne (Nat.ne_of_beq_eq_false rfl) (px_get_ne (Nat.ne_of_beq_eq_false rfl) (px_get_ne (Nat.ne_of_beq_eq_false rfl) (px_get_ne (Nat.ne_of_beq_eq_false rfl) pg_91)))))))))))))))))))))
set_option maxRecDepth 100000 in
theorem pg_268 (a2 a3 a4 : Int32) : (ph_103 a2 a3 a4)[138]? = some (.inr (9, [.int 1, .int 0, .int 0, .ref 139, .ref 140, .ref 141, .ref 143, .ref 145, .ref 147, .ref 149, .ref 150, .int 0, .ref 136])) := (px_get_ne (Nat.ne_of_beq_eq_false rfl) (pg_262 a2 a3 a4))
set_option maxRecDepth 100000 in
theorem pg_269 (a2 a3 a4 : Int32) : (ph_103 a2 a3 a4)[145]? = some (.inr (7, [.int 2, .int 0, .ref 146])) := (px_get_ne (Nat.ne_of_beq_eq_false rfl) (px_get_ne (Nat.ne_of_beq_eq_false rfl) (px_get_ne (Nat.ne_of_beq_eq_false rfl) (px_get_ne (Nat.ne_of_beq_eq_false rfl) (px_get_ne (Nat.ne_of_beq_eq_false rfl) (px_get_ne (Nat.ne_of_beq_eq_false rfl) (px_get_ne (Nat.ne_of_beq_eq_false rfl) (px_get_ne (Nat.ne_of_beq_eq_false rfl) (px_get_ne (Nat.ne_of_beq_eq_false rfl) (px_get_ne (Nat.ne_of_beq_eq_false rfl) (px_get_lt (pl_83 a2 a3 a4) (Nat.le_of_ble_eq_true rfl) (px_get_ne (Nat.ne_of_beq_eq_false rfl) (px_get_ne (Nat.ne_of_beq_eq_false rfl) (px_get_ne (Nat.ne_of_beq_eq_false rfl) (px_get_ne (Nat.ne_of_beq_eq_false rfl) (px_get_ne (Nat.ne_of_beq_eq_false rfl) (px_get_ne (Nat.ne_of_beq_eq_false rfl) (px_get_ne (Nat.ne_of_beq_eq_false rfl) (px_get_ne (Nat.ne_of_beq_eq_false rfl) (px_get_ne (Nat.ne_of_beq_eq_false rfl) (px_get_ne (Nat.ne_of_beq_eq_false rfl) (px_get_ne (Nat.ne_of_beq_eq_false rfl) pg_94))))))))))))))))))))))
set_option maxRecDepth 100000 in
theorem pg_270 (a2 a3 a4 : Int32) : (ph_103 a2 a3 a4)[141]? = some (.inr (7, [.int 6, .int 1, .ref 142])) := (px_get_ne (Nat.ne_of_beq_eq_false rfl) (px_get_ne (Nat.ne_of_beq_eq_false rfl) (px_get_eq (pl_91 a2 a3 a4) (Nat.le_of_ble_eq_true rfl))))
set_option maxRecDepth 100000 in
theorem pg_271 (a2 a3 a4 : Int32) : (ph_103 a2 a3 a4)[142]? = some (.inl (0, .inl ([0] ++ [3] ++ [a2] ++ [a3] ++ [a4] ++ [1] ++ List.replicate 90 0))) := (px_get_ne (Nat.ne_of_beq_eq_false rfl) (px_get_ne (Nat.ne_of_beq_eq_false rfl) (px_get_ne (Nat.ne_of_beq_eq_false rfl) (px_get_eq (pl_90 a2 a3 a4) (Nat.le_of_ble_eq_true rfl)))))
set_option maxRecDepth 100000 in
theorem pg_272 (a2 a3 a4 : Int32) : (ph_103 a2 a3 a4)[136]? = some (.inr (10, [.ref 137, .int 0, .int 0, .ref 138, .ref 151, .long 0])) := (px_get_ne (Nat.ne_of_beq_eq_false rfl) (pg_263 a2 a3 a4))
set_option maxRecDepth 100000 in
theorem pg_273 (a2 a3 a4 : Int32) : (ph_103 a2 a3 a4)[164]? = some (.inl (2, .inr (.inl ([0])))) := (px_get_ne (Nat.ne_of_beq_eq_false rfl) (px_get_ne (Nat.ne_of_beq_eq_false rfl) (px_get_ne (Nat.ne_of_beq_eq_false rfl) (px_get_ne (Nat.ne_of_beq_eq_false rfl) (px_get_ne (Nat.ne_of_beq_eq_false rfl) (px_get_ne (Nat.ne_of_beq_eq_false rfl) (px_get_ne (Nat.ne_of_beq_eq_false rfl) (px_get_ne (Nat.ne_of_beq_eq_false rfl) (px_get_ne (Nat.ne_of_beq_eq_false rfl) (px_get_ne (Nat.ne_of_beq_eq_false rfl) (px_get_lt (pl_83 a2 a3 a4) (Nat.le_of_ble_eq_true rfl) (px_get_eq (pl_82 a2 a3 a4) (Nat.le_of_ble_eq_true rfl)))))))))))))
set_option maxRecDepth 100000 in
theorem pg_274 : ph_104[93]? = some (.inr (2, [.int 0, .int 0, .ref 94, .ref 95, .ref 96, .ref 97, .ref 98])) := (px_get_ne (Nat.ne_of_beq_eq_false rfl) pg_23)
set_option maxRecDepth 100000 in
theorem pl_93 : ph_104.length = 165 := px_len_set pl_0
set_option maxRecDepth 100000 in
theorem pg_275 : ph_105[93]? = some (.inr (2, [.int 1, .int 0, .ref 94, .ref 95, .ref 96, .ref 97, .ref 98])) := (px_get_eq pl_93 (Nat.le_of_ble_eq_true rfl))
set_option maxRecDepth 100000 in
theorem pl_94 : ph_105.length = 165 := px_len_set pl_93
set_option maxRecDepth 100000 in
theorem pg_276 : ph_106[93]? = some (.inr (2, [.int 1, .int 1, .ref 94, .ref 95, .ref 96, .ref 97, .ref 98])) := (px_get_eq pl_94 (Nat.le_of_ble_eq_true rfl))
set_option maxRecDepth 100000 in
theorem pg_277 : ph_106[95]? = some (.inl (1, .inl (List.replicate 48 0))) := (px_get_ne (Nat.ne_of_beq_eq_false rfl) (px_get_ne (Nat.ne_of_beq_eq_false rfl) (px_get_ne (Nat.ne_of_beq_eq_false rfl) pg_29)))
set_option maxRecDepth 100000 in
theorem pg_278 : ph_107[93]? = some (.inr (2, [.int 1, .int 1, .ref 94, .ref 95, .ref 96, .ref 97, .ref 98])) := (px_get_ne (Nat.ne_of_beq_eq_false rfl) pg_276)
set_option maxRecDepth 100000 in
theorem pg_279 : ph_107[96]? = some (.inl (0, .inl (List.replicate 144 0))) := (px_get_ne (Nat.ne_of_beq_eq_false rfl) (px_get_ne (Nat.ne_of_beq_eq_false rfl) (px_get_ne (Nat.ne_of_beq_eq_false rfl) (px_get_ne (Nat.ne_of_beq_eq_false rfl) pg_32))))
set_option maxRecDepth 100000 in
theorem pg_280 (a2 : Int32) : (ph_108 a2)[93]? = some (.inr (2, [.int 1, .int 1, .ref 94, .ref 95, .ref 96, .ref 97, .ref 98])) := (px_get_ne (Nat.ne_of_beq_eq_false rfl) pg_278)
set_option maxRecDepth 100000 in
theorem pl_95 : ph_106.length = 165 := px_len_set pl_94
set_option maxRecDepth 100000 in
theorem pl_96 : ph_107.length = 165 := px_len_set pl_95
set_option maxRecDepth 100000 in
theorem pg_281 (a2 : Int32) : (ph_108 a2)[96]? = some (.inl (0, .inl (List.replicate 72 0 ++ [a2] ++ List.replicate 71 0))) := (px_get_eq pl_96 (Nat.le_of_ble_eq_true rfl))
set_option maxRecDepth 100000 in
theorem pg_282 (a2 a3 : Int32) : (ph_109 a2 a3)[93]? = some (.inr (2, [.int 1, .int 1, .ref 94, .ref 95, .ref 96, .ref 97, .ref 98])) := (px_get_ne (Nat.ne_of_beq_eq_false rfl) (pg_280 a2))
set_option maxRecDepth 100000 in
theorem pl_97 (a2 : Int32) : (ph_108 a2).length = 165 := px_len_set pl_96
set_option maxRecDepth 100000 in
theorem pg_283 (a2 a3 : Int32) : (ph_109 a2 a3)[96]? = some (.inl (0, .inl (List.replicate 72 0 ++ [a2] ++ [a3] ++ List.replicate 70 0))) := (px_get_eq (pl_97 a2) (Nat.le_of_ble_eq_true rfl))
set_option maxRecDepth 100000 in
theorem pg_284 (a2 a3 a4 : Int32) : (ph_110 a2 a3 a4)[93]? = some (.inr (2, [.int 1, .int 1, .ref 94, .ref 95, .ref 96, .ref 97, .ref 98])) := (px_get_ne (Nat.ne_of_beq_eq_false rfl) (pg_282 a2 a3))
set_option maxRecDepth 100000 in
theorem pg_285 (a2 a3 a4 : Int32) : (ph_110 a2 a3 a4)[97]? = some (.inl (0, .inl (List.replicate 8 0))) := (px_get_ne (Nat.ne_of_beq_eq_false rfl) (px_get_ne (Nat.ne_of_beq_eq_false rfl) (px_get_ne (Nat.ne_of_beq_eq_false rfl) (px_get_ne (Nat.ne_of_beq_eq_false rfl) (px_get_ne (Nat.ne_of_beq_eq_false rfl) (px_get_ne (Nat.ne_of_beq_eq_false rfl) (px_get_ne (Nat.ne_of_beq_eq_false rfl) pg_25)))))))
set_option maxRecDepth 100000 in
theorem pg_286 (a2 a3 a4 : Int32) : (ph_110 a2 a3 a4)[98]? = some (.inl (0, .inl (List.replicate 48 0))) := (px_get_ne (Nat.ne_of_beq_eq_false rfl) (px_get_ne (Nat.ne_of_beq_eq_false rfl) (px_get_ne (Nat.ne_of_beq_eq_false rfl) (px_get_ne (Nat.ne_of_beq_eq_false rfl) (px_get_ne (Nat.ne_of_beq_eq_false rfl) (px_get_ne (Nat.ne_of_beq_eq_false rfl) (px_get_ne (Nat.ne_of_beq_eq_false rfl) pg_40)))))))
set_option maxRecDepth 100000 in
theorem pg_287 (a2 a3 a4 : Int32) : (ph_111 a2 a3 a4)[93]? = some (.inr (2, [.int 1, .int 1, .ref 94, .ref 95, .ref 96, .ref 97, .ref 98])) := (px_get_ne (Nat.ne_of_beq_eq_false rfl) (pg_284 a2 a3 a4))
set_option maxRecDepth 100000 in
theorem pg_288 (a2 a3 a4 : Int32) : (ph_111 a2 a3 a4)[97]? = some (.inl (0, .inl (List.replicate 8 0))) := (px_get_ne (Nat.ne_of_beq_eq_false rfl) (pg_285 a2 a3 a4))
set_option maxRecDepth 100000 in
theorem pg_289 (a2 a3 a4 : Int32) : (ph_112 a2 a3 a4)[92]? = some (.inr (5, [.ref 1, .ref 93, .ref 99, .ref 110, .int 0, .ref 111, .ref 112, .ref 113])) := (px_get_ne (Nat.ne_of_beq_eq_false rfl) (px_get_ne (Nat.ne_of_beq_eq_false rfl) (px_get_ne (Nat.ne_of_beq_eq_false rfl) (px_get_ne (Nat.ne_of_beq_eq_false rfl) (px_get_ne (Nat.ne_of_beq_eq_false rfl) (px_get_ne (Nat.ne_of_beq_eq_false rfl) (px_get_ne (Nat.ne_of_beq_eq_false rfl) (px_get_ne (Nat.ne_of_beq_eq_false rfl) (px_get_ne (Nat.ne_of_beq_eq_false rfl) pg_22)))))))))
set_option maxRecDepth 100000 in
theorem pg_290 (a2 a3 a4 : Int32) : (ph_112 a2 a3 a4)[93]? = some (.inr (2, [.int 1, .int 1, .ref 94, .ref 95, .ref 96, .ref 97, .ref 98])) := (px_get_ne (Nat.ne_of_beq_eq_false rfl) (pg_287 a2 a3 a4))
set_option maxRecDepth 100000 in
theorem pg_291 (a2 a3 a4 : Int32) : (ph_112 a2 a3 a4)[94]? = some (.inl (0, .inl (List.replicate 24 (-1) ++ [0] ++ List.replicate 23 (-1)))) := (px_get_ne (Nat.ne_of_beq_eq_false rfl) (px_get_ne (Nat.ne_of_beq_eq_false rfl) (px_get_ne (Nat.ne_of_beq_eq_false rfl) (px_get_ne (Nat.ne_of_beq_eq_false rfl) (px_get_ne (Nat.ne_of_beq_eq_false rfl) (px_get_ne (Nat.ne_of_beq_eq_false rfl) (px_get_ne (Nat.ne_of_beq_eq_false rfl) (px_get_ne (Nat.ne_of_beq_eq_false rfl) (px_get_eq pl_0 (Nat.le_of_ble_eq_true rfl))))))))))
set_option maxRecDepth 100000 in
theorem pg_292 (a2 a3 a4 : Int32) : (ph_112 a2 a3 a4)[95]? = some (.inl (1, .inl (List.replicate 48 0))) := (px_get_ne (Nat.ne_of_beq_eq_false rfl) (px_get_ne (Nat.ne_of_beq_eq_false rfl) (px_get_ne (Nat.ne_of_beq_eq_false rfl) (px_get_ne (Nat.ne_of_beq_eq_false rfl) (px_get_ne (Nat.ne_of_beq_eq_false rfl) (px_get_eq pl_95 (Nat.le_of_ble_eq_true rfl)))))))
set_option maxRecDepth 100000 in
theorem pg_293 (a2 a3 a4 : Int32) : (ph_113 a2 a3 a4)[92]? = some (.inr (5, [.ref 1, .ref 93, .ref 99, .ref 110, .int 0, .ref 111, .ref 112, .ref 113])) := (px_get_ne (Nat.ne_of_beq_eq_false rfl) (pg_289 a2 a3 a4))
set_option maxRecDepth 100000 in
theorem pg_294 (a2 a3 a4 : Int32) : (ph_113 a2 a3 a4)[93]? = some (.inr (2, [.int 1, .int 1, .ref 94, .ref 95, .ref 96, .ref 97, .ref 98])) := (px_get_ne (Nat.ne_of_beq_eq_false rfl) (pg_290 a2 a3 a4))
set_option maxRecDepth 100000 in
theorem pg_295 (a2 a3 a4 : Int32) : (ph_113 a2 a3 a4)[1]? = some (.inl (3, .inr (.inr ([some 2, some 17, some 32, some 47, some 62, some 77])))) := (px_get_ne (Nat.ne_of_beq_eq_false rfl) (px_get_ne (Nat.ne_of_beq_eq_false rfl) (px_get_ne (Nat.ne_of_beq_eq_false rfl) (px_get_ne (Nat.ne_of_beq_eq_false rfl) (px_get_ne (Nat.ne_of_beq_eq_false rfl) (px_get_ne (Nat.ne_of_beq_eq_false rfl) (px_get_ne (Nat.ne_of_beq_eq_false rfl) (px_get_ne (Nat.ne_of_beq_eq_false rfl) (px_get_ne (Nat.ne_of_beq_eq_false rfl) (px_get_ne (Nat.ne_of_beq_eq_false rfl) pg_4))))))))))
set_option maxRecDepth 100000 in
theorem pg_296 (a2 a3 a4 : Int32) : (ph_113 a2 a3 a4)[2]? = some (.inr (4, [.int 0, .int 0, .ref 3, .ref 11])) := (px_get_ne (Nat.ne_of_beq_eq_false rfl) (px_get_ne (Nat.ne_of_beq_eq_false rfl) (px_get_ne (Nat.ne_of_beq_eq_false rfl) (px_get_ne (Nat.ne_of_beq_eq_false rfl) (px_get_ne (Nat.ne_of_beq_eq_false rfl) (px_get_ne (Nat.ne_of_beq_eq_false rfl) (px_get_ne (Nat.ne_of_beq_eq_false rfl) (px_get_ne (Nat.ne_of_beq_eq_false rfl) (px_get_ne (Nat.ne_of_beq_eq_false rfl) (px_get_ne (Nat.ne_of_beq_eq_false rfl) pg_5))))))))))
set_option maxRecDepth 100000 in
theorem pg_297 (a2 a3 a4 : Int32) : (ph_113 a2 a3 a4)[17]? = some (.inr (4, [.int 0, .int 0, .ref 18, .ref 26])) := (px_get_ne (Nat.ne_of_beq_eq_false rfl) (px_get_ne (Nat.ne_of_beq_eq_false rfl) (px_get_ne (Nat.ne_of_beq_eq_false rfl) (px_get_ne (Nat.ne_of_beq_eq_false rfl) (px_get_ne (Nat.ne_of_beq_eq_false rfl) (px_get_ne (Nat.ne_of_beq_eq_false rfl) (px_get_ne (Nat.ne_of_beq_eq_false rfl) (px_get_ne (Nat.ne_of_beq_eq_false rfl) (px_get_ne (Nat.ne_of_beq_eq_false rfl) (px_get_ne (Nat.ne_of_beq_eq_false rfl) pg_52))))))))))
set_option maxRecDepth 100000 in
theorem pg_298 (a2 a3 a4 : Int32) : (ph_113 a2 a3 a4)[32]? = some (.inr (4, [.int 0, .int 0, .ref 33, .ref 41])) := (px_get_ne (Nat.ne_of_beq_eq_false rfl) (px_get_ne (Nat.ne_of_beq_eq_false rfl) (px_get_ne (Nat.ne_of_beq_eq_false rfl) (px_get_ne (Nat.ne_of_beq_eq_false rfl) (px_get_ne (Nat.ne_of_beq_eq_false rfl) (px_get_ne (Nat.ne_of_beq_eq_false rfl) (px_get_ne (Nat.ne_of_beq_eq_false rfl) (px_get_ne (Nat.ne_of_beq_eq_false rfl) (px_get_ne (Nat.ne_of_beq_eq_false rfl) (px_get_ne (Nat.ne_of_beq_eq_false rfl) pg_54))))))))))
set_option maxRecDepth 100000 in
theorem pg_299 (a2 a3 a4 : Int32) : (ph_113 a2 a3 a4)[47]? = some (.inr (4, [.int 0, .int 0, .ref 48, .ref 56])) := (px_get_ne (Nat.ne_of_beq_eq_false rfl) (px_get_ne (Nat.ne_of_beq_eq_false rfl) (px_get_ne (Nat.ne_of_beq_eq_false rfl) (px_get_ne (Nat.ne_of_beq_eq_false rfl) (px_get_ne (Nat.ne_of_beq_eq_false rfl) (px_get_ne (Nat.ne_of_beq_eq_false rfl) (px_get_ne (Nat.ne_of_beq_eq_false rfl) (px_get_ne (Nat.ne_of_beq_eq_false rfl) (px_get_ne (Nat.ne_of_beq_eq_false rfl) (px_get_ne (Nat.ne_of_beq_eq_false rfl) pg_56))))))))))
set_option maxRecDepth 100000 in
theorem pg_300 (a2 a3 a4 : Int32) : (ph_113 a2 a3 a4)[62]? = some (.inr (4, [.int 0, .int 0, .ref 63, .ref 71])) := (px_get_ne (Nat.ne_of_beq_eq_false rfl) (px_get_ne (Nat.ne_of_beq_eq_false rfl) (px_get_ne (Nat.ne_of_beq_eq_false rfl) (px_get_ne (Nat.ne_of_beq_eq_false rfl) (px_get_ne (Nat.ne_of_beq_eq_false rfl) (px_get_ne (Nat.ne_of_beq_eq_false rfl) (px_get_ne (Nat.ne_of_beq_eq_false rfl) (px_get_ne (Nat.ne_of_beq_eq_false rfl) (px_get_ne (Nat.ne_of_beq_eq_false rfl) (px_get_ne (Nat.ne_of_beq_eq_false rfl) pg_58))))))))))
set_option maxRecDepth 100000 in
theorem pg_301 (a2 a3 a4 : Int32) : (ph_113 a2 a3 a4)[77]? = some (.inr (4, [.int 0, .int 0, .ref 78, .ref 86])) := (px_get_ne (Nat.ne_of_beq_eq_false rfl) (px_get_ne (Nat.ne_of_beq_eq_false rfl) (px_get_ne (Nat.ne_of_beq_eq_false rfl) (px_get_ne (Nat.ne_of_beq_eq_false rfl) (px_get_ne (Nat.ne_of_beq_eq_false rfl) (px_get_ne (Nat.ne_of_beq_eq_false rfl) (px_get_ne (Nat.ne_of_beq_eq_false rfl) (px_get_ne (Nat.ne_of_beq_eq_false rfl) (px_get_ne (Nat.ne_of_beq_eq_false rfl) (px_get_ne (Nat.ne_of_beq_eq_false rfl) pg_60))))))))))
set_option maxRecDepth 100000 in
theorem pg_302 (a2 a3 a4 : Int32) : (ph_113 a2 a3 a4)[94]? = some (.inl (0, .inl (List.replicate 24 (-1) ++ [0] ++ List.replicate 23 (-1)))) := (px_get_ne (Nat.ne_of_beq_eq_false rfl) (pg_291 a2 a3 a4))
set_option maxRecDepth 100000 in
theorem pl_98 (a2 a3 : Int32) : (ph_109 a2 a3).length = 165 := px_len_set (pl_97 a2)
set_option maxRecDepth 100000 in
theorem pl_99 (a2 a3 a4 : Int32) : (ph_110 a2 a3 a4).length = 165 := px_len_set (pl_98 a2 a3)
set_option maxRecDepth 100000 in
theorem pl_100 (a2 a3 a4 : Int32) : (ph_111 a2 a3 a4).length = 165 := px_len_set (pl_99 a2 a3 a4)
set_option maxRecDepth 100000 in
theorem pl_101 (a2 a3 a4 : Int32) : (ph_112 a2 a3 a4).length = 165 := px_len_set (pl_100 a2 a3 a4)
set_option maxRecDepth 100000 in
theorem pg_303 (a2 a3 a4 : Int32) : (ph_113 a2 a3 a4)[95]? = some (.inl (1, .inl (List.replicate 24 0 ++ [1] ++ List.replicate 23 0))) := (px_get_eq (pl_101 a2 a3 a4) (Nat.le_of_ble_eq_true rfl))
set_option maxRecDepth 100000 in
theorem pg_304 (a2 a3 a4 : Int32) : (ph_113 a2 a3 a4)[164]? = some (.inl (2, .inr (.inl ([0])))) := (px_get_ne (Nat.ne_of_beq_eq_false rfl) (px_get_ne (Nat.ne_of_beq_eq_false rfl) (px_get_ne (Nat.ne_of_beq_eq_false rfl) (px_get_ne (Nat.ne_of_beq_eq_false rfl) (px_get_ne (Nat.ne_of_beq_eq_false rfl) (px_get_ne (Nat.ne_of_beq_eq_false rfl) (px_get_ne (Nat.ne_of_beq_eq_false rfl) (px_get_ne (Nat.ne_of_beq_eq_false rfl) (px_get_ne (Nat.ne_of_beq_eq_false rfl) (px_get_ne (Nat.ne_of_beq_eq_false rfl) pg_8))))))))))
set_option maxRecDepth 100000 in
theorem pg_305 (a2 a3 a4 : Int32) : (ph_114 a2 a3 a4)[136]? = some (.inr (10, [.ref 137, .int 0, .int 0, .ref 138, .ref 151, .long 0])) := (px_get_ne (Nat.ne_of_beq_eq_false rfl) (px_get_ne (Nat.ne_of_beq_eq_false rfl) (px_get_ne (Nat.ne_of_beq_eq_false rfl) (px_get_ne (Nat.ne_of_beq_eq_false rfl) (px_get_ne (Nat.ne_of_beq_eq_false rfl) (px_get_ne (Nat.ne_of_beq_eq_false rfl) (px_get_ne (Nat.ne_of_beq_eq_false rfl) (px_get_ne (Nat.ne_of_beq_eq_false rfl) (px_get_ne (Nat.ne_of_beq_eq_false rfl) (px_get_ne (Nat.ne_of_beq_eq_false rfl) (px_get_ne (Nat.ne_of_beq_eq_false rfl) pg_1)))))))))))
set_option maxRecDepth 100000 in
theorem pg_306 (a2 a3 a4 : Int32) : (ph_114 a2 a3 a4)[138]? = some (.inr (9, [.int 0, .int 0, .int 0, .ref 139, .ref 140, .ref 141, .ref 143, .ref 145, .ref 147, .ref 149, .ref 150, .int 0, .ref 136])) := (px_get_ne (Nat.ne_of_beq_eq_false rfl) (px_get_ne (Nat.ne_of_beq_eq_false rfl) (px_get_ne (Nat.ne_of_beq_eq_false rfl) (px_get_ne (Nat.ne_of_beq_eq_false rfl) (px_get_ne (Nat.ne_of_beq_eq_false rfl) (px_get_ne (Nat.ne_of_beq_eq_false rfl) (px_get_ne (Nat.ne_of_beq_eq_false rfl) (px_get_ne (Nat.ne_of_beq_eq_false rfl) (px_get_ne (Nat.ne_of_beq_eq_false rfl) (px_get_ne (Nat.ne_of_beq_eq_false rfl) (px_get_ne (Nat.ne_of_beq_eq_false rfl) pg_66)))))))))))
set_option maxRecDepth 100000 in
theorem pg_307 (a2 a3 a4 : Int32) : (ph_114 a2 a3 a4)[141]? = some (.inr (7, [.int 6, .int 0, .ref 142])) := (px_get_ne (Nat.ne_of_beq_eq_false rfl) (px_get_ne (Nat.ne_of_beq_eq_false rfl) (px_get_ne (Nat.ne_of_beq_eq_false rfl) (px_get_ne (Nat.ne_of_beq_eq_false rfl) (px_get_ne (Nat.ne_of_beq_eq_false rfl) (px_get_ne (Nat.ne_of_beq_eq_false rfl) (px_get_ne (Nat.ne_of_beq_eq_false rfl) (px_get_ne (Nat.ne_of_beq_eq_false rfl) (px_get_ne (Nat.ne_of_beq_eq_false rfl) (px_get_ne (Nat.ne_of_beq_eq_false rfl) (px_get_ne (Nat.ne_of_beq_eq_false rfl) pg_68)))))))))))
set_option maxRecDepth 100000 in
theorem pl_102 (a2 a3 a4 : Int32) : (ph_113 a2 a3 a4).length = 165 := px_len_set (pl_101 a2 a3 a4)
set_option maxRecDepth 100000 in
theorem pl_103 (a2 a3 a4 : Int32) : (ph_114 a2 a3 a4).length = 165 := px_len_set (pl_102 a2 a3 a4)
set_option maxRecDepth 100000 in
theorem pg_308 (a2 a3 a4 : Int32) : (ph_115 a2 a3 a4)[138]? = some (.inr (9, [.int 0, .int 0, .int 0, .ref 139, .ref 140, .ref 141, .ref 143, .ref 145, .ref 147, .ref 149, .ref 150, .int 0, .ref 136])) := (px_get_lt (pl_103 a2 a3 a4) (Nat.le_of_ble_eq_true rfl) (pg_306 a2 a3 a4))
set_option maxRecDepth 100000 in
theorem pg_309 (a2 a3 a4 : Int32) : (ph_115 a2 a3 a4)[165]? = some (.inl (0, .inl (List.replicate 6 0))) := (px_get_ge (k := 0) (pl_103 a2 a3 a4) rfl rfl)
set_option maxRecDepth 100000 in
theorem pl_104 (a2 a3 a4 : Int32) : (ph_115 a2 a3 a4).length = 166 := px_len_app (pl_103 a2 a3 a4) rfl
set_option maxRecDepth 100000 in
theorem pg_310 (a2 a3 a4 : Int32) : (ph_116 a2 a3 a4)[165]? = some (.inl (0, .inl (List.replicate 6 0))) := (px_get_eq (pl_104 a2 a3 a4) (Nat.le_of_ble_eq_true rfl))
set_option maxRecDepth 100000 in
theorem pl_105 (a2 a3 a4 : Int32) : (ph_116 a2 a3 a4).length = 166 := px_len_set (pl_104 a2 a3 a4)
set_option maxRecDepth 100000 in
theorem pg_311 (a2 a3 a4 : Int32) : (ph_117 a2 a3 a4)[165]? = some (.inl (0, .inl ([0, 4, 0, 0, 0, 0]))) := (px_get_eq (pl_105 a2 a3 a4) (Nat.le_of_ble_eq_true rfl))
set_option maxRecDepth 100000 in
theorem pl_106 (a2 a3 a4 : Int32) : (ph_117 a2 a3 a4).length = 166 := px_len_set (pl_105 a2 a3 a4)
set_option maxRecDepth 100000 in
theorem pg_312 (a2 a3 a4 : Int32) : (ph_118 a2 a3 a4)[165]? = some (.inl (0, .inl ([0, 4, a2, 0, 0, 0]))) := (px_get_eq (pl_106 a2 a3 a4) (Nat.le_of_ble_eq_true rfl))
set_option maxRecDepth 100000 in
theorem pl_107 (a2 a3 a4 : Int32) : (ph_118 a2 a3 a4).length = 166 := px_len_set (pl_106 a2 a3 a4)
set_option maxRecDepth 100000 in
theorem pg_313 (a2 a3 a4 : Int32) : (ph_119 a2 a3 a4)[165]? = some (.inl (0, .inl ([0, 4, a2, a3, 0, 0]))) := (px_get_eq (pl_107 a2 a3 a4) (Nat.le_of_ble_eq_true rfl))
set_option maxRecDepth 100000 in
theorem pl_108 (a2 a3 a4 : Int32) : (ph_119 a2 a3 a4).length = 166 := px_len_set (pl_107 a2 a3 a4)
set_option maxRecDepth 100000 in
theorem pg_314 (a2 a3 a4 : Int32) : (ph_120 a2 a3 a4)[165]? = some (.inl (0, .inl ([0, 4, a2, a3, a4, 0]))) := (px_get_eq (pl_108 a2 a3 a4) (Nat.le_of_ble_eq_true rfl))
set_option maxRecDepth 100000 in
theorem pg_315 (a2 a3 a4 : Int32) : (ph_121 a2 a3 a4)[141]? = some (.inr (7, [.int 6, .int 0, .ref 142])) := (px_get_ne (Nat.ne_of_beq_eq_false rfl) (px_get_ne (Nat.ne_of_beq_eq_false rfl) (px_get_ne (Nat.ne_of_beq_eq_false rfl) (px_get_ne (Nat.ne_of_beq_eq_false rfl) (px_get_ne (Nat.ne_of_beq_eq_false rfl) (px_get_ne (Nat.ne_of_beq_eq_false rfl) (px_get_lt (pl_103 a2 a3 a4) (Nat.le_of_ble_eq_true rfl) (pg_307 a2 a3 a4))))))))
set_option maxRecDepth 100000 in
theorem pg_316 (a2 a3 a4 : Int32) : (ph_121 a2 a3 a4)[142]? = some (.inl (0, .inl (List.replicate 96 0))) := (px_get_ne (Nat.ne_of_beq_eq_false rfl) (px_get_ne (Nat.ne_of_beq_eq_false rfl) (px_get_ne (Nat.ne_of_beq_eq_false rfl) (px_get_ne (Nat.ne_of_beq_eq_false rfl) (px_get_ne (Nat.ne_of_beq_eq_false rfl) (px_get_ne (Nat.ne_of_beq_eq_false rfl) (px_get_lt (pl_103 a2 a3 a4) (Nat.le_of_ble_eq_true rfl) (px_get_ne (Nat.ne_of_beq_eq_false rfl) (px_get_ne (Nat.ne_of_beq_eq_false rfl) (px_get_ne (Nat.ne_of_beq_eq_false rfl) (px_get_ne (Nat.ne_of_beq_eq_false rfl) (px_get_ne (Nat.ne_of_beq_eq_false rfl) (px_get_ne (Nat.ne_of_beq_eq_false rfl) (px_get_ne (Nat.ne_of_beq_eq_false rfl) (px_get_ne (Nat.ne_of_beq_eq_false rfl) (px_get_ne (Nat.ne_of_beq_eq_false rfl) (px_get_ne (Nat.ne_of_beq_eq_false rfl) (px_get_ne (Nat.ne_of_beq_eq_false rfl) pg_78))))))))))))))))))
set_option maxRecDepth 100000 in
theorem pl_109 (a2 a3 a4 : Int32) : (ph_120 a2 a3 a4).length = 166 := px_len_set (pl_108 a2 a3 a4)
set_option maxRecDepth 100000 in
theorem pg_317 (a2 a3 a4 : Int32) : (ph_121 a2 a3 a4)[165]? = some (.inl (0, .inl ([0, 4, a2, a3, a4, 1]))) := (px_get_eq (pl_109 a2 a3 a4) (Nat.le_of_ble_eq_true rfl))
set_option maxRecDepth 100000 in
theorem pg_318 (a2 a3 a4 : Int32) : (ph_122 a2 a3 a4)[141]? = some (.inr (7, [.int 6, .int 0, .ref 142])) := (px_get_ne (Nat.ne_of_beq_eq_false rfl) (pg_315 a2 a3 a4))
set_option maxRecDepth 100000 in
theorem pg_319 (a2 a3 a4 : Int32) : (ph_123 a2 a3 a4)[138]? = some (.inr (9, [.int 0, .int 0, .int 0, .ref 139, .ref 140, .ref 141, .ref 143, .ref 145, .ref 147, .ref 149, .ref 150, .int 0, .ref 136])) := (px_get_ne (Nat.ne_of_beq_eq_false rfl) (px_get_ne (Nat.ne_of_beq_eq_false rfl) (px_get_ne (Nat.ne_of_beq_eq_false rfl) (px_get_ne (Nat.ne_of_beq_eq_false rfl) (px_get_ne (Nat.ne_of_beq_eq_false rfl) (px_get_ne (Nat.ne_of_beq_eq_false rfl) (px_get_ne (Nat.ne_of_beq_eq_false rfl) (px_get_ne (Nat.ne_of_beq_eq_false rfl) (pg_308 a2 a3 a4)))))))))
set_option maxRecDepth 100000 in
theorem pl_110 (a2 a3 a4 : Int32) : (ph_121 a2 a3 a4).length = 166 := px_len_set (pl_109 a2 a3 a4)
set_option maxRecDepth 100000 in
theorem pl_111 (a2 a3 a4 : Int32) : (ph_122 a2 a3 a4).length = 166 := px_len_set (pl_110 a2 a3 a4)
set_option maxRecDepth 100000 in
theorem pl_112 (a2 a3 a4 : Int32) : (ph_123 a2 a3 a4).length = 166 := px_len_set (pl_111 a2 a3 a4)
set_option maxRecDepth 100000 in
theorem pg_320 (a2 a3 a4 : Int32) : (ph_124 a2 a3 a4)[138]? = some (.inr (9, [.int 1, .int 0, .int 0, .ref 139, .ref 140, .ref 141, .ref 143, .ref 145, .ref 147, .ref 149, .ref 150, .int 0, .ref 136])) := (px_get_eq (pl_112 a2 a3 a4) (Nat.le_of_ble_eq_true rfl))
set_option maxRecDepth 100000 in
theorem pg_321 (a2 a3 a4 : Int32) : (ph_124 a2 a3 a4)[136]? = some (.inr (10, [.ref 137, .int 0, .int 0, .ref 138, .ref 151, .long 0])) := (px_get_ne (Nat.ne_of_beq_eq_false rfl) (px_get_ne (Nat.ne_of_beq_eq_false rfl) (px_get_ne (Nat.ne_of_beq_eq_false rfl) (px_get_ne (Nat.ne_of_beq_eq_false rfl) (px_get_ne (Nat.ne_of_beq_eq_false rfl) (px_get_ne (Nat.ne_of_beq_eq_false rfl) (px_get_ne (Nat.ne_of_beq_eq_false rfl) (px_get_ne (Nat.ne_of_beq_eq_false rfl) (px_get_ne (Nat.ne_of_beq_eq_false rfl) (px_get_lt (pl_103 a2 a3 a4) (Nat.le_of_ble_eq_true rfl) (pg_305 a2 a3 a4)))))))))))
set_option maxRecDepth 100000 in
theorem pg_322 (a2 a3 a4 : Int32) : (ph_124 a2 a3 a4)[147]? = some (.inr (7, [.int 6, .int 0, .ref 148])) := (px_get_ne (Nat.ne_of_beq_eq_false rfl) (px_get_ne (Nat.ne_of_beq_eq_false rfl) (px_get_ne (Nat.ne_of_beq_eq_false rfl) (px_get_ne (Nat.ne_of_beq_eq_false rfl) (px_get_ne (Nat.ne_of_beq_eq_false rfl) (px_get_ne (Nat.ne_of_beq_eq_false rfl) (px_get_ne (Nat.ne_of_beq_eq_false rfl) (px_get_ne (Nat.ne_of_beq_eq_false rfl) (px_get_ne (Nat.ne_of_beq_eq_false rfl) (px_get_lt (pl_103 a2 a3 a4) (Nat.le_of_ble_eq_true rfl) (px_get_ne (Nat.ne_of_beq_eq_false rfl) (px_get_ne (Nat.ne_of_beq_eq_false rfl) (px_get_ne (Nat.ne_of_beq_eq_false rfl) (px_get_ne (Nat.ne_of_beq_eq_false rfl) (px_get_ne (Nat.ne_of_beq_eq_false rfl) (px_get_ne (Nat.ne_of_beq_eq_false rfl) (px_get_ne (Nat.ne_of_beq_eq_false rfl) (px_get_ne (Nat.ne_of_beq_eq_false rfl) (px_get_ne (Nat.ne_of_beq_eq_false rfl) (px_get_ne (Nat.ne_of_beq_eq_false rfl) (px_get_ne (Nat.ne_of_beq_eq_false rfl) pg_85)))))))))))))))))))))
set_option maxRecDepth 100000 in
theorem pg_323 (a2 a3 a4 : Int32) : (ph_124 a2 a3 a4)[143]? = some (.inr (7, [.int 6, .int 0, .ref 144])) := (px_get_ne (Nat.ne_of_beq_eq_false rfl) (px_get_ne (Nat.ne_of_beq_eq_false rfl) (px_get_ne (Nat.ne_of_beq_eq_false rfl) (px_get_ne (Nat.ne_of_beq_eq_false rfl) (px_get_ne (Nat.ne_of_beq_eq_false rfl) (px_get_ne (Nat.ne_of_beq_eq_false rfl) (px_get_ne (Nat.ne_of_beq_eq_false rfl) (px_get_ne (Nat.ne_of_beq_eq_false rfl) (px_get_ne (Nat.ne_of_beq_eq_false rfl) (px_get_lt (pl_103 a2 a3 a4) (Nat.le_of_ble_eq_true rfl) (px_get_ne (Nat.ne_of_beq_eq_false rfl) (px_get_ne (Nat.ne_of_beq_eq_false rfl) (px_get_ne (Nat.ne_of_beq_eq_false rfl) (px_get_ne (Nat.ne_of_beq_eq_false rfl) (px_get_ne (Nat.ne_of_beq_eq_false rfl) (px_get_ne (Nat.ne_of_beq_eq_false rfl) (px_get_ne (Nat.ne_of_beq_eq_false rfl) (px_get_ne (Nat.ne_of_beq_eq_false rfl) (px_get_ne (Nat.ne_of_beq_eq_false rfl) (px_get_ne (Nat.ne_of_beq_eq_false rfl) (px_get_ne (Nat.ne_of_beq_eq_false rfl) pg_87)))))))))))))))))))))
set_option maxRecDepth 100000 in
theorem pg_324 (a2 a3 a4 : Int32) : (ph_124 a2 a3 a4)[144]? = some (.inl (0, .inl (List.replicate 96 0))) := (px_get_ne (Nat.ne_of_beq_eq_false rfl) (px_get_ne (Nat.ne_of_beq_eq_false rfl) (px_get_ne (Nat.ne_of_beq_eq_false rfl) (px_get_ne (Nat.ne_of_beq_eq_false rfl) (px_get_ne (Nat.ne_of_beq_eq_false rfl) (px_get_ne (Nat.ne_of_beq_eq_false rfl) (px_get_ne (Nat.ne_of_beq_eq_false rfl) (px_get_ne (Nat.ne_of_beq_eq_false rfl) (px_get_ne (Nat.ne_of_beq_eq_false rfl) (px_get_lt (pl_103 a2 a3 a4) (Nat.le_of_ble_eq_true rfl) (px_get_ne (Nat.ne_of_beq_eq_false rfl) (px_get_ne (Nat.ne_of_beq_eq_false rfl) (px_get_ne (Nat.ne_of_beq_eq_false rfl) (px_get_ne (Nat.ne_of_beq_eq_false rfl) (px_get_ne (Nat.ne_of_beq_eq_false rfl) (px_get_ne (Nat.ne_of_beq_eq_false rfl) (px_get_ne (Nat.ne_of_beq_eq_false rfl) (px_get_ne (Nat.ne_of_beq_eq_false rfl) (px_get_ne (Nat.ne_of_beq_eq_false rfl) (px_get_ne (Nat.ne_of_beq_eq_false rfl) (px_get_ne (Nat.ne_of_beq_eq_false rfl) pg_89)))))))))))))))))))))
set_option maxRecDepth 100000 in
theorem pg_325 (a2 a3 a4 : Int32) : (ph_124 a2 a3 a4)[148]? = some (.inl (0, .inl (List.replicate 96 0))) := (px_get_ne (Nat.ne_of_beq_eq_false rfl) (px_get_ne (Nat.ne_of_beq_eq_false rfl) (px_get_ne (Nat.ne_of_beq_eq_false rfl) (px_get_ne (Nat.ne_of_beq_eq_false rfl) (px_get_ne (Nat.ne_of_beq_eq_false rfl) (px_get_ne (Nat.ne_of_beq_eq_false rfl) (px_get_ne (Nat.ne_of_beq_eq_false rfl) (px_get_ne (Nat.ne_of_beq_eq_false rfl) (px_get_ne (Nat.ne_of_beq_eq_false rfl) (px_get_lt (pl_103 a2 a3 a4) (Nat.le_of_ble_eq_true rfl) (px_get_ne (Nat.ne_of_beq_eq_false rfl) (px_get_ne (Nat.ne_of_beq_eq_false rfl) (px_get_ne (Nat.ne_of_beq_eq_false rfl) (px_get_ne (Nat.ne_of_beq_eq_false rfl) (px_get_ne (Nat.ne_of_beq_eq_false rfl) (px_get_ne (Nat.ne_of_beq_eq_false rfl) (px_get_ne (Nat.ne_of_beq_eq_false rfl) (px_get_ne (Nat.ne_of_beq_eq_false rfl) (px_get_ne (Nat.ne_of_beq_eq_false rfl) (px_get_ne (Nat.ne_of_beq_eq_false rfl) (px_get_ne (Nat.ne_of_beq_eq_false rfl) pg_91)))))))))))))))))))))
set_option maxRecDepth 100000 in
theorem pg_326 (a2 a3 a4 : Int32) : (ph_125 a2 a3 a4)[138]? = some (.inr (9, [.int 1, .int 0, .int 0, .ref 139, .ref 140, .ref 141, .ref 143, .ref 145, .ref 147, .ref 149, .ref 150, .int 0, .ref 136])) := (px_get_ne (Nat.ne_of_beq_eq_false rfl) (pg_320 a2 a3 a4))
set_option maxRecDepth 100000 in
theorem pg_327 (a2 a3 a4 : Int32) : (ph_125 a2 a3 a4)[145]? = some (.inr (7, [.int 2, .int 0, .ref 146])) := (px_get_ne (Nat.ne_of_beq_eq_false rfl) (px_get_ne (Nat.ne_of_beq_eq_false rfl) (px_get_ne (Nat.ne_of_beq_eq_false rfl) (px_get_ne (Nat.ne_of_beq_eq_false rfl) (px_get_ne (Nat.ne_of_beq_eq_false rfl) (px_get_ne (Nat.ne_of_beq_eq_false rfl) (px_get_ne (Nat.ne_of_beq_eq_false rfl) (px_get_ne (Nat.ne_of_beq_eq_false rfl) (px_get_ne (Nat.ne_of_beq_eq_false rfl) (px_get_ne (Nat.ne_of_beq_eq_false rfl) (px_get_lt (pl_103 a2 a3 a4) (Nat.le_of_ble_eq_true rfl) (px_get_ne (Nat.ne_of_beq_eq_false rfl) (px_get_ne (Nat.ne_of_beq_eq_false rfl) (px_get_ne (Nat.ne_of_beq_eq_false rfl) (px_get_ne (Nat.ne_of_beq_eq_false rfl) (px_get_ne (Nat.ne_of_beq_eq_false rfl) (px_get_ne (Nat.ne_of_beq_eq_false rfl) (px_get_ne (Nat.ne_of_beq_eq_false rfl) (px_get_ne (Nat.ne_of_beq_eq_false rfl) (px_get_ne (Nat.ne_of_beq_eq_false rfl) (px_get_ne (Nat.ne_of_beq_eq_false rfl) (px_get_ne (Nat.ne_of_beq_eq_false rfl) pg_94))))))))))))))))))))))
set_option maxRecDepth 100000 in
theorem pg_328 (a2 a3 a4 : Int32) : (ph_125 a2 a3 a4)[141]? = some (.inr (7, [.int 6, .int 1, .ref 142])) := (px_get_ne (Nat.ne_of_beq_eq_false rfl) (px_get_ne (Nat.ne_of_beq_eq_false rfl) (px_get_eq (pl_111 a2 a3 a4) (Nat.le_of_ble_eq_true rfl))))
set_option maxRecDepth 100000 in
theorem pg_329 (a2 a3 a4 : Int32) : (ph_125 a2 a3 a4)[142]? = some (.inl (0, .inl ([0] ++ [4] ++ [a2] ++ [a3] ++ [a4] ++ [1] ++ List.replicate 90 0))) := (px_get_ne (Nat.ne_of_beq_eq_false rfl) (px_get_ne (Nat.ne_of_beq_eq_false rfl) (px_get_ne (Nat.ne_of_beq_eq_false rfl) (px_get_eq (pl_110 a2 a3 a4) (Nat.le_of_ble_eq_true rfl)))))
set_option maxRecDepth 100000 in
theorem pg_330 (a2 a3 a4 : Int32) : (ph_125 a2 a3 a4)[136]? = some (.inr (10, [.ref 137, .int 0, .int 0, .ref 138, .ref 151, .long 0])) := (px_get_ne (Nat.ne_of_beq_eq_false rfl) (pg_321 a2 a3 a4))
set_option maxRecDepth 100000 in
theorem pg_331 (a2 a3 a4 : Int32) : (ph_125 a2 a3 a4)[164]? = some (.inl (2, .inr (.inl ([0])))) := (px_get_ne (Nat.ne_of_beq_eq_false rfl) (px_get_ne (Nat.ne_of_beq_eq_false rfl) (px_get_ne (Nat.ne_of_beq_eq_false rfl) (px_get_ne (Nat.ne_of_beq_eq_false rfl) (px_get_ne (Nat.ne_of_beq_eq_false rfl) (px_get_ne (Nat.ne_of_beq_eq_false rfl) (px_get_ne (Nat.ne_of_beq_eq_false rfl) (px_get_ne (Nat.ne_of_beq_eq_false rfl) (px_get_ne (Nat.ne_of_beq_eq_false rfl) (px_get_ne (Nat.ne_of_beq_eq_false rfl) (px_get_lt (pl_103 a2 a3 a4) (Nat.le_of_ble_eq_true rfl) (px_get_eq (pl_102 a2 a3 a4) (Nat.le_of_ble_eq_true rfl)))))))))))))
set_option maxRecDepth 100000 in
theorem pg_332 : ph_126[93]? = some (.inr (2, [.int 0, .int 0, .ref 94, .ref 95, .ref 96, .ref 97, .ref 98])) := (px_get_ne (Nat.ne_of_beq_eq_false rfl) pg_23)
set_option maxRecDepth 100000 in
theorem pl_113 : ph_126.length = 165 := px_len_set pl_0
set_option maxRecDepth 100000 in
theorem pg_333 : ph_127[93]? = some (.inr (2, [.int 1, .int 0, .ref 94, .ref 95, .ref 96, .ref 97, .ref 98])) := (px_get_eq pl_113 (Nat.le_of_ble_eq_true rfl))
set_option maxRecDepth 100000 in
theorem pl_114 : ph_127.length = 165 := px_len_set pl_113
set_option maxRecDepth 100000 in
theorem pg_334 : ph_128[93]? = some (.inr (2, [.int 1, .int 1, .ref 94, .ref 95, .ref 96, .ref 97, .ref 98])) := (px_get_eq pl_114 (Nat.le_of_ble_eq_true rfl))
set_option maxRecDepth 100000 in
theorem pg_335 : ph_128[95]? = some (.inl (1, .inl (List.replicate 48 0))) := (px_get_ne (Nat.ne_of_beq_eq_false rfl) (px_get_ne (Nat.ne_of_beq_eq_false rfl) (px_get_ne (Nat.ne_of_beq_eq_false rfl) pg_29)))
set_option maxRecDepth 100000 in
theorem pg_336 : ph_129[93]? = some (.inr (2, [.int 1, .int 1, .ref 94, .ref 95, .ref 96, .ref 97, .ref 98])) := (px_get_ne (Nat.ne_of_beq_eq_false rfl) pg_334)
set_option maxRecDepth 100000 in
theorem pg_337 : ph_129[96]? = some (.inl (0, .inl (List.replicate 144 0))) := (px_get_ne (Nat.ne_of_beq_eq_false rfl) (px_get_ne (Nat.ne_of_beq_eq_false rfl) (px_get_ne (Nat.ne_of_beq_eq_false rfl) (px_get_ne (Nat.ne_of_beq_eq_false rfl) pg_32))))
set_option maxRecDepth 100000 in
theorem pg_338 (a2 : Int32) : (ph_130 a2)[93]? = some (.inr (2, [.int 1, .int 1, .ref 94, .ref 95, .ref 96, .ref 97, .ref 98])) := (px_get_ne (Nat.ne_of_beq_eq_false rfl) pg_336)
set_option maxRecDepth 100000 in
theorem pl_115 : ph_128.length = 165 := px_len_set pl_114
set_option maxRecDepth 100000 in
theorem pl_116 : ph_129.length = 165 := px_len_set pl_115
set_option maxRecDepth 100000 in
theorem pg_339 (a2 : Int32) : (ph_130 a2)[96]? = some (.inl (0, .inl (List.replicate 90 0 ++ [a2] ++ List.replicate 53 0))) := (px_get_eq pl_116 (Nat.le_of_ble_eq_true rfl))
set_option maxRecDepth 100000 in
theorem pg_340 (a2 a3 : Int32) : (ph_131 a2 a3)[93]? = some (.inr (2, [.int 1, .int 1, .ref 94, .ref 95, .ref 96, .ref 97, .ref 98])) := (px_get_ne (Nat.ne_of_beq_eq_false rfl) (pg_338 a2))
set_option maxRecDepth 100000 in
theorem pl_117 (a2 : Int32) : (ph_130 a2).length = 165 := px_len_set pl_116
set_option maxRecDepth 100000 in
theorem pg_341 (a2 a3 : Int32) : (ph_131 a2 a3)[96]? = some (.inl (0, .inl (List.replicate 90 0 ++ [a2] ++ [a3] ++ List.replicate 52 0))) := (px_get_eq (pl_117 a2) (Nat.le_of_ble_eq_true rfl))
set_option maxRecDepth 100000 in
theorem pg_342 (a2 a3 a4 : Int32) : (ph_132 a2 a3 a4)[93]? = some (.inr (2, [.int 1, .int 1, .ref 94, .ref 95, .ref 96, .ref 97, .ref 98])) := (px_get_ne (Nat.ne_of_beq_eq_false rfl) (pg_340 a2 a3))
set_option maxRecDepth 100000 in
theorem pg_343 (a2 a3 a4 : Int32) : (ph_132 a2 a3 a4)[97]? = some (.inl (0, .inl (List.replicate 8 0))) := (px_get_ne (Nat.ne_of_beq_eq_false rfl) (px_get_ne (Nat.ne_of_beq_eq_false rfl) (px_get_ne (Nat.ne_of_beq_eq_false rfl) (px_get_ne (Nat.ne_of_beq_eq_false rfl) (px_get_ne (Nat.ne_of_beq_eq_false rfl) (px_get_ne (Nat.ne_of_beq_eq_false rfl) (px_get_ne (Nat.ne_of_beq_eq_false rfl) pg_25)))))))
set_option maxRecDepth 100000 in
theorem pg_344 (a2 a3 a4 : Int32) : (ph_132 a2 a3 a4)[98]? = some (.inl (0, .inl (List.replicate 48 0))) := (px_get_ne (Nat.ne_of_beq_eq_false rfl) (px_get_ne (Nat.ne_of_beq_eq_false rfl) (px_get_ne (Nat.ne_of_beq_eq_false rfl) (px_get_ne (Nat.ne_of_beq_eq_false rfl) (px_get_ne (Nat.ne_of_beq_eq_false rfl) (px_get_ne (Nat.ne_of_beq_eq_false rfl) (px_get_ne (Nat.ne_of_beq_eq_false rfl) pg_40)))))))
set_option maxRecDepth 100000 in
theorem pg_345 (a2 a3 a4 : Int32) : (ph_133 a2 a3 a4)[93]? = some (.inr (2, [.int 1, .int 1, .ref 94, .ref 95, .ref 96, .ref 97, .ref 98])) := (px_get_ne (Nat.ne_of_beq_eq_false rfl) (pg_342 a2 a3 a4))
set_option maxRecDepth 100000 in
theorem pg_346 (a2 a3 a4 : Int32) : (ph_133 a2 a3 a4)[97]? = some (.inl (0, .inl (List.replicate 8 0))) := (px_get_ne (Nat.ne_of_beq_eq_false rfl) (pg_343 a2 a3 a4))
set_option maxRecDepth 100000 in
theorem pg_347 (a2 a3 a4 : Int32) : (ph_134 a2 a3 a4)[92]? = some (.inr (5, [.ref 1, .ref 93, .ref 99, .ref 110, .int 0, .ref 111, .ref 112, .ref 113])) := (px_get_ne (Nat.ne_of_beq_eq_false rfl) (px_get_ne (Nat.ne_of_beq_eq_false rfl) (px_get_ne (Nat.ne_of_beq_eq_false rfl) (px_get_ne (Nat.ne_of_beq_eq_false rfl) (px_get_ne (Nat.ne_of_beq_eq_false rfl) (px_get_ne (Nat.ne_of_beq_eq_false rfl) (px_get_ne (Nat.ne_of_beq_eq_false rfl) (px_get_ne (Nat.ne_of_beq_eq_false rfl) (px_get_ne (Nat.ne_of_beq_eq_false rfl) pg_22)))))))))
set_option maxRecDepth 100000 in
theorem pg_348 (a2 a3 a4 : Int32) : (ph_134 a2 a3 a4)[93]? = some (.inr (2, [.int 1, .int 1, .ref 94, .ref 95, .ref 96, .ref 97, .ref 98])) := (px_get_ne (Nat.ne_of_beq_eq_false rfl) (pg_345 a2 a3 a4))
set_option maxRecDepth 100000 in
theorem pg_349 (a2 a3 a4 : Int32) : (ph_134 a2 a3 a4)[94]? = some (.inl (0, .inl (List.replicate 30 (-1) ++ [0] ++ List.replicate 17 (-1)))) := (px_get_ne (Nat.ne_of_beq_eq_false rfl) (px_get_ne (Nat.ne_of_beq_eq_false rfl) (px_get_ne (Nat.ne_of_beq_eq_false rfl) (px_get_ne (Nat.ne_of_beq_eq_false rfl) (px_get_ne (Nat.ne_of_beq_eq_false rfl) (px_get_ne (Nat.ne_of_beq_eq_false rfl) (px_get_ne (Nat.ne_of_beq_eq_false rfl) (px_get_ne (Nat.ne_of_beq_eq_false rfl) (px_get_eq pl_0 (Nat.le_of_ble_eq_true rfl))))))))))
set_option maxRecDepth 100000 in
theorem pg_350 (a2 a3 a4 : Int32) : (ph_134 a2 a3 a4)[95]? = some (.inl (1, .inl (List.replicate 48 0))) := (px_get_ne (Nat.ne_of_beq_eq_false rfl) (px_get_ne (Nat.ne_of_beq_eq_false rfl) (px_get_ne (Nat.ne_of_beq_eq_false rfl) (px_get_ne (Nat.ne_of_beq_eq_false rfl) (px_get_ne (Nat.ne_of_beq_eq_false rfl) (px_get_eq pl_115 (Nat.le_of_ble_eq_true rfl)))))))
set_option maxRecDepth 100000 in
theorem pg_351 (a2 a3 a4 : Int32) : (ph_135 a2 a3 a4)[92]? = some (.inr (5, [.ref 1, .ref 93, .ref 99, .ref 110, .int 0, .ref 111, .ref 112, .ref 113])) := (px_get_ne (Nat.ne_of_beq_eq_false rfl) (pg_347 a2 a3 a4))
set_option maxRecDepth 100000 in
theorem pg_352 (a2 a3 a4 : Int32) : (ph_135 a2 a3 a4)[93]? = some (.inr (2, [.int 1, .int 1, .ref 94, .ref 95, .ref 96, .ref 97, .ref 98])) := (px_get_ne (Nat.ne_of_beq_eq_false rfl) (pg_348 a2 a3 a4))
set_option maxRecDepth 100000 in
theorem pg_353 (a2 a3 a4 : Int32) : (ph_135 a2 a3 a4)[1]? = some (.inl (3, .inr (.inr ([some 2, some 17, some 32, some 47, some 62, some 77])))) := (px_get_ne (Nat.ne_of_beq_eq_false rfl) (px_get_ne (Nat.ne_of_beq_eq_false rfl) (px_get_ne (Nat.ne_of_beq_eq_false rfl) (px_get_ne (Nat.ne_of_beq_eq_false rfl) (px_get_ne (Nat.ne_of_beq_eq_false rfl) (px_get_ne (Nat.ne_of_beq_eq_false rfl) (px_get_ne (Nat.ne_of_beq_eq_false rfl) (px_get_ne (Nat.ne_of_beq_eq_false rfl) (px_get_ne (Nat.ne_of_beq_eq_false rfl) (px_get_ne (Nat.ne_of_beq_eq_false rfl) pg_4))))))))))
set_option maxRecDepth 100000 in
theorem pg_354 (a2 a3 a4 : Int32) : (ph_135 a2 a3 a4)[2]? = some (.inr (4, [.int 0, .int 0, .ref 3, .ref 11])) := (px_get_ne (Nat.ne_of_beq_eq_false rfl) (px_get_ne (Nat.ne_of_beq_eq_false rfl) (px_get_ne (Nat.ne_of_beq_eq_false rfl) (px_get_ne (Nat.ne_of_beq_eq_false rfl) (px_get_ne (Nat.ne_of_beq_eq_false rfl) (px_get_ne (Nat.ne_of_beq_eq_false rfl) (px_get_ne (Nat.ne_of_beq_eq_false rfl) (px_get_ne (Nat.ne_of_beq_eq_false rfl) (px_get_ne (Nat.ne_of_beq_eq_false rfl) (px_get_ne (Nat.ne_of_beq_eq_false rfl) pg_5))))))))))
set_option maxRecDepth 100000 in
theorem pg_355 (a2 a3 a4 : Int32) : (ph_135 a2 a3 a4)[17]? = some (.inr (4, [.int 0, .int 0, .ref 18, .ref 26])) := (px_get_ne (Nat.ne_of_beq_eq_false rfl) (px_get_ne (Nat.ne_of_beq_eq_false rfl) (px_get_ne (Nat.ne_of_beq_eq_false rfl) (px_get_ne (Nat.ne_of_beq_eq_false rfl) (px_get_ne (Nat.ne_of_beq_eq_false rfl) (px_get_ne (Nat.ne_of_beq_eq_false rfl) (px_get_ne (Nat.ne_of_beq_eq_false rfl) (px_get_ne (Nat.ne_of_beq_eq_false rfl) (px_get_ne (Nat.ne_of_beq_eq_false rfl) (px_get_ne (Nat.ne_of_beq_eq_false rfl) pg_52))))))))))
set_option maxRecDepth 100000 in
theorem pg_356 (a2 a3 a4 : Int32) : (ph_135 a2 a3 a4)[32]? = some (.inr (4, [.int 0, .int 0, .ref 33, .ref 41])) := (px_get_ne (Nat.ne_of_beq_eq_false rfl) (px_get_ne (Nat.ne_of_beq_eq_false rfl) (px_get_ne (Nat.ne_of_beq_eq_false rfl) (px_get_ne (Nat.ne_of_beq_eq_false rfl) (px_get_ne (Nat.ne_of_beq_eq_false rfl) (px_get_ne (Nat.ne_of_beq_eq_false rfl) (px_get_ne (Nat.ne_of_beq_eq_false rfl) (px_get_ne (Nat.ne_of_beq_eq_false rfl) (px_get_ne (Nat.ne_of_beq_eq_false rfl) (px_get_ne (Nat.ne_of_beq_eq_false rfl) pg_54))))))))))
set_option maxRecDepth 100000 in
theorem pg_357 (a2 a3 a4 : Int32) : (ph_135 a2 a3 a4)[47]? = some (.inr (4, [.int 0, .int 0, .ref 48, .ref 56])) := (px_get_ne (Nat.ne_of_beq_eq_false rfl) (px_get_ne (Nat.ne_of_beq_eq_false rfl) (px_get_ne (Nat.ne_of_beq_eq_false rfl) (px_get_ne (Nat.ne_of_beq_eq_false rfl) (px_get_ne (Nat.ne_of_beq_eq_false rfl) (px_get_ne (Nat.ne_of_beq_eq_false rfl) (px_get_ne (Nat.ne_of_beq_eq_false rfl) (px_get_ne (Nat.ne_of_beq_eq_false rfl) (px_get_ne (Nat.ne_of_beq_eq_false rfl) (px_get_ne (Nat.ne_of_beq_eq_false rfl) pg_56))))))))))
set_option maxRecDepth 100000 in
theorem pg_358 (a2 a3 a4 : Int32) : (ph_135 a2 a3 a4)[62]? = some (.inr (4, [.int 0, .int 0, .ref 63, .ref 71])) := (px_get_ne (Nat.ne_of_beq_eq_false rfl) (px_get_ne (Nat.ne_of_beq_eq_false rfl) (px_get_ne (Nat.ne_of_beq_eq_false rfl) (px_get_ne (Nat.ne_of_beq_eq_false rfl) (px_get_ne (Nat.ne_of_beq_eq_false rfl) (px_get_ne (Nat.ne_of_beq_eq_false rfl) (px_get_ne (Nat.ne_of_beq_eq_false rfl) (px_get_ne (Nat.ne_of_beq_eq_false rfl) (px_get_ne (Nat.ne_of_beq_eq_false rfl) (px_get_ne (Nat.ne_of_beq_eq_false rfl) pg_58))))))))))
set_option maxRecDepth 100000 in
theorem pg_359 (a2 a3 a4 : Int32) : (ph_135 a2 a3 a4)[77]? = some (.inr (4, [.int 0, .int 0, .ref 78, .ref 86])) := (px_get_ne (Nat.ne_of_beq_eq_false rfl) (px_get_ne (Nat.ne_of_beq_eq_false rfl) (px_get_ne (Nat.ne_of_beq_eq_false rfl) (px_get_ne (Nat.ne_of_beq_eq_false rfl) (px_get_ne (Nat.ne_of_beq_eq_false rfl) (px_get_ne (Nat.ne_of_beq_eq_false rfl) (px_get_ne (Nat.ne_of_beq_eq_false rfl) (px_get_ne (Nat.ne_of_beq_eq_false rfl) (px_get_ne (Nat.ne_of_beq_eq_false rfl) (px_get_ne (Nat.ne_of_beq_eq_false rfl) pg_60))))))))))
set_option maxRecDepth 100000 in
theorem pg_360 (a2 a3 a4 : Int32) : (ph_135 a2 a3 a4)[94]? = some (.inl (0, .inl (List.replicate 30 (-1) ++ [0] ++ List.replicate 17 (-1)))) := (px_get_ne (Nat.ne_of_beq_eq_false rfl) (pg_349 a2 a3 a4))
set_option maxRecDepth 100000 in
theorem pl_118 (a2 a3 : Int32) : (ph_131 a2 a3).length = 165 := px_len_set (pl_117 a2)
set_option maxRecDepth 100000 in
theorem pl_119 (a2 a3 a4 : Int32) : (ph_132 a2 a3 a4).length = 165 := px_len_set (pl_118 a2 a3)
set_option maxRecDepth 100000 in
theorem pl_120 (a2 a3 a4 : Int32) : (ph_133 a2 a3 a4).length = 165 := px_len_set (pl_119 a2 a3 a4)
set_option maxRecDepth 100000 in
theorem pl_121 (a2 a3 a4 : Int32) : (ph_134 a2 a3 a4).length = 165 := px_len_set (pl_120 a2 a3 a4)
set_option maxRecDepth 100000 in
theorem pg_361 (a2 a3 a4 : Int32) : (ph_135 a2 a3 a4)[95]? = some (.inl (1, .inl (List.replicate 30 0 ++ [1] ++ List.replicate 17 0))) := (px_get_eq (pl_121 a2 a3 a4) (Nat.le_of_ble_eq_true rfl))
set_option maxRecDepth 100000 in
theorem pg_362 (a2 a3 a4 : Int32) : (ph_135 a2 a3 a4)[164]? = some (.inl (2, .inr (.inl ([0])))) := (px_get_ne (Nat.ne_of_beq_eq_false rfl) (px_get_ne (Nat.ne_of_beq_eq_false rfl) (px_get_ne (Nat.ne_of_beq_eq_false rfl) (px_get_ne (Nat.ne_of_beq_eq_false rfl) (px_get_ne (Nat.ne_of_beq_eq_false rfl) (px_get_ne (Nat.ne_of_beq_eq_false rfl) (px_get_ne (Nat.ne_of_beq_eq_false rfl) (px_get_ne (Nat.ne_of_beq_eq_false rfl) (px_get_ne (Nat.ne_of_beq_eq_false rfl) (px_get_ne (Nat.ne_of_beq_eq_false rfl) pg_8))))))))))
set_option maxRecDepth 100000 in
theorem pg_363 (a2 a3 a4 : Int32) : (ph_136 a2 a3 a4)[136]? = some (.inr (10, [.ref 137, .int 0, .int 0, .ref 138, .ref 151, .long 0])) := (px_get_ne (Nat.ne_of_beq_eq_false rfl) (px_get_ne (Nat.ne_of_beq_eq_false rfl) (px_get_ne (Nat.ne_of_beq_eq_false rfl) (px_get_ne (Nat.ne_of_beq_eq_false rfl) (px_get_ne (Nat.ne_of_beq_eq_false rfl) (px_get_ne (Nat.ne_of_beq_eq_false rfl) (px_get_ne (Nat.ne_of_beq_eq_false rfl) (px_get_ne (Nat.ne_of_beq_eq_false rfl) (px_get_ne (Nat.ne_of_beq_eq_false rfl) (px_get_ne (Nat.ne_of_beq_eq_false rfl) (px_get_ne (Nat.ne_of_beq_eq_false rfl) pg_1)))))))))))
set_option maxRecDepth 100000 in
theorem pg_364 (a2 a3 a4 : Int32) : (ph_136 a2 a3 a4)[138]? = some (.inr (9, [.int 0, .int 0, .int 0, .ref 139, .ref 140, .ref 141, .ref 143, .ref 145, .ref 147, .ref 149, .ref 150, .int 0, .ref 136])) := (px_get_ne (Nat.ne_of_beq_eq_false rfl) (px_get_ne (Nat.ne_of_beq_eq_false rfl) (px_get_ne (Nat.ne_of_beq_eq_false rfl) (px_get_ne (Nat.ne_of_beq_eq_false rfl) (px_get_ne (Nat.ne_of_beq_eq_false rfl) (px_get_ne (Nat.ne_of_beq_eq_false rfl) (px_get_ne (Nat.ne_of_beq_eq_false rfl) (px_get_ne (Nat.ne_of_beq_eq_false rfl) (px_get_ne (Nat.ne_of_beq_eq_false rfl) (px_get_ne (Nat.ne_of_beq_eq_false rfl) (px_get_ne (Nat.ne_of_beq_eq_false rfl) pg_66)))))))))))
set_option maxRecDepth 100000 in
theorem pg_365 (a2 a3 a4 : Int32) : (ph_136 a2 a3 a4)[141]? = some (.inr (7, [.int 6, .int 0, .ref 142])) := (px_get_ne (Nat.ne_of_beq_eq_false rfl) (px_get_ne (Nat.ne_of_beq_eq_false rfl) (px_get_ne (Nat.ne_of_beq_eq_false rfl) (px_get_ne (Nat.ne_of_beq_eq_false rfl) (px_get_ne (Nat.ne_of_beq_eq_false rfl) (px_get_ne (Nat.ne_of_beq_eq_false rfl) (px_get_ne (Nat.ne_of_beq_eq_false rfl) (px_get_ne (Nat.ne_of_beq_eq_false rfl) (px_get_ne (Nat.ne_of_beq_eq_false rfl) (px_get_ne (Nat.ne_of_beq_eq_false rfl) (px_get_ne (Nat.ne_of_beq_eq_false rfl) pg_68)))))))))))
set_option maxRecDepth 100000 in
theorem pl_122 (a2 a3 a4 : Int32) : (ph_135 a2 a3 a4).length = 165 := px_len_set (pl_121 a2 a3 a4)
set_option maxRecDepth 100000 in
theorem pl_123 (a2 a3 a4 : Int32) : (ph_136 a2 a3 a4).length = 165 := px_len_set (pl_122 a2 a3 a4)
set_option maxRecDepth 100000 in
theorem pg_366 (a2 a3 a4 : Int32) : (ph_137 a2 a3 a4)[138]? = some (.inr (9, [.int 0, .int 0, .int 0, .ref 139, .ref 140, .ref 141, .ref 143, .ref 145, .ref 147, .ref 149, .ref 150, .int 0, .ref 136])) := (px_get_lt (pl_123 a2 a3 a4) (Nat.le_of_ble_eq_true rfl) (pg_364 a2 a3 a4))
set_option maxRecDepth 100000 in
theorem pg_367 (a2 a3 a4 : Int32) : (ph_137 a2 a3 a4)[165]? = some (.inl (0, .inl (List.replicate 6 0))) := (px_get_ge (k := 0) (pl_123 a2 a3 a4) rfl rfl)
set_option maxRecDepth 100000 in
theorem pl_124 (a2 a3 a4 : Int32) : (ph_137 a2 a3 a4).length = 166 := px_len_app (pl_123 a2 a3 a4) rfl
set_option maxRecDepth 100000 in
theorem pg_368 (a2 a3 a4 : Int32) : (ph_138 a2 a3 a4)[165]? = some (.inl (0, .inl (List.replicate 6 0))) := (px_get_eq (pl_124 a2 a3 a4) (Nat.le_of_ble_eq_true rfl))
set_option maxRecDepth 100000 in
theorem pl_125 (a2 a3 a4 : Int32) : (ph_138 a2 a3 a4).length = 166 := px_len_set (pl_124 a2 a3 a4)
set_option maxRecDepth 100000 in
theorem pg_369 (a2 a3 a4 : Int32) : (ph_139 a2 a3 a4)[165]? = some (.inl (0, .inl ([0, 5, 0, 0, 0, 0]))) := (px_get_eq (pl_125 a2 a3 a4) (Nat.le_of_ble_eq_true rfl))
set_option maxRecDepth 100000 in
theorem pl_126 (a2 a3 a4 : Int32) : (ph_139 a2 a3 a4).length = 166 := px_len_set (pl_125 a2 a3 a4)
set_option maxRecDepth 100000 in
theorem pg_370 (a2 a3 a4 : Int32) : (ph_140 a2 a3 a4)[165]? = some (.inl (0, .inl ([0, 5, a2, 0, 0, 0]))) := (px_get_eq (pl_126 a2 a3 a4) (Nat.le_of_ble_eq_true rfl))
set_option maxRecDepth 100000 in
theorem pl_127 (a2 a3 a4 : Int32) : (ph_140 a2 a3 a4).length = 166 := px_len_set (pl_126 a2 a3 a4)
set_option maxRecDepth 100000 in
theorem pg_371 (a2 a3 a4 : Int32) : (ph_141 a2 a3 a4)[165]? = some (.inl (0, .inl ([0, 5, a2, a3, 0, 0]))) := (px_get_eq (pl_127 a2 a3 a4) (Nat.le_of_ble_eq_true rfl))
set_option maxRecDepth 100000 in
theorem pl_128 (a2 a3 a4 : Int32) : (ph_141 a2 a3 a4).length = 166 := px_len_set (pl_127 a2 a3 a4)
set_option maxRecDepth 100000 in
theorem pg_372 (a2 a3 a4 : Int32) : (ph_142 a2 a3 a4)[165]? = some (.inl (0, .inl ([0, 5, a2, a3, a4, 0]))) := (px_get_eq (pl_128 a2 a3 a4) (Nat.le_of_ble_eq_true rfl))
set_option maxRecDepth 100000 in
theorem pg_373 (a2 a3 a4 : Int32) : (ph_143 a2 a3 a4)[141]? = some (.inr (7, [.int 6, .int 0, .ref 142])) := (px_get_ne (Nat.ne_of_beq_eq_false rfl) (px_get_ne (Nat.ne_of_beq_eq_false rfl) (px_get_ne (Nat.ne_of_beq_eq_false rfl) (px_get_ne (Nat.ne_of_beq_eq_false rfl) (px_get_ne (Nat.ne_of_beq_eq_false rfl) (px_get_ne (Nat.ne_of_beq_eq_false rfl) (px_get_lt (pl_123 a2 a3 a4) (Nat.le_of_ble_eq_true rfl) (pg_365 a2 a3 a4))))))))
set_option maxRecDepth 100000 in
theorem pg_374 (a2 a3 a4 : Int32) : (ph_143 a2 a3 a4)[142]? = some (.inl (0, .inl (List.replicate 96 0))) := (px_get_ne (Nat.ne_of_beq_eq_false rfl) (px_get_ne (Nat.ne_of_beq_eq_false rfl) (px_get_ne (Nat.ne_of_beq_eq_false rfl) (px_get_ne (Nat.ne_of_beq_eq_false rfl) (px_get_ne (Nat.ne_of_beq_eq_false rfl) (px_get_ne (Nat.ne_of_beq_eq_false rfl) (px_get_lt (pl_123 a2 a3 a4) (Nat.le_of_ble_eq_true rfl) (px_get_ne (Nat.ne_of_beq_eq_false rfl) (px_get_ne (Nat.ne_of_beq_eq_false rfl) (px_get_ne (Nat.ne_of_beq_eq_false rfl) (px_get_ne (Nat.ne_of_beq_eq_false rfl) (px_get_ne (Nat.ne_of_beq_eq_false rfl) (px_get_ne (Nat.ne_of_beq_eq_false rfl) (px_get_ne (Nat.ne_of_beq_eq_false rfl) (px_get_ne (Nat.ne_of_beq_eq_false rfl) (px_get_ne (Nat.ne_of_beq_eq_false rfl) (px_get_ne (Nat.ne_of_beq_eq_false rfl) (px_get_ne (Nat.ne_of_beq_eq_false rfl) pg_78))))))))))))))))))
set_option maxRecDepth 100000 in
theorem pl_129 (a2 a3 a4 : Int32) : (ph_142 a2 a3 a4).length = 166 := px_len_set (pl_128 a2 a3 a4)
set_option maxRecDepth 100000 in
theorem pg_375 (a2 a3 a4 : Int32) : (ph_143 a2 a3 a4)[165]? = some (.inl (0, .inl ([0, 5, a2, a3, a4, 1]))) := (px_get_eq (pl_129 a2 a3 a4) (Nat.le_of_ble_eq_true rfl))
set_option maxRecDepth 100000 in
theorem pg_376 (a2 a3 a4 : Int32) : (ph_144 a2 a3 a4)[141]? = some (.inr (7, [.int 6, .int 0, .ref 142])) := (px_get_ne (Nat.ne_of_beq_eq_false rfl) (pg_373 a2 a3 a4))
set_option maxRecDepth 100000 in
theorem pg_377 (a2 a3 a4 : Int32) : (ph_145 a2 a3 a4)[138]? = some (.inr (9, [.int 0, .int 0, .int 0, .ref 139, .ref 140, .ref 141, .ref 143, .ref 145, .ref 147, .ref 149, .ref 150, .int 0, .ref 136])) := (px_get_ne (Nat.ne_of_beq_eq_false rfl) (px_get_ne (Nat.ne_of_beq_eq_false rfl) (px_get_ne (Nat.ne_of_beq_eq_false rfl) (px_get_ne (Nat.ne_of_beq_eq_false rfl) (px_get_ne (Nat.ne_of_beq_eq_false rfl) (px_get_ne (Nat.ne_of_beq_eq_false rfl) (px_get_ne (Nat.ne_of_beq_eq_false rfl) (px_get_ne (Nat.ne_of_beq_eq_false rfl) (pg_366 a2 a3 a4)))))))))
set_option maxRecDepth 100000 in
theorem pl_130 (a2 a3 a4 : Int32) : (ph_143 a2 a3 a4).length = 166 := px_len_set (pl_129 a2 a3 a4)
set_option maxRecDepth 100000 in
theorem pl_131 (a2 a3 a4 : Int32) : (ph_144 a2 a3 a4).length = 166 := px_len_set (pl_130 a2 a3 a4)
set_option maxRecDepth 100000 in
theorem pl_132 (a2 a3 a4 : Int32) : (ph_145 a2 a3 a4).length = 166 := px_len_set (pl_131 a2 a3 a4)
set_option maxRecDepth 100000 in
theorem pg_378 (a2 a3 a4 : Int32) : (ph_146 a2 a3 a4)[138]? = some (.inr (9, [.int 1, .int 0, .int 0, .ref 139, .ref 140, .ref 141, .ref 143, .ref 145, .ref 147, .ref 149, .ref 150, .int 0, .ref 136])) := (px_get_eq (pl_132 a2 a3 a4) (Nat.le_of_ble_eq_true rfl))
set_option maxRecDepth 100000 in
theorem pg_379 (a2 a3 a4 : Int32) : (ph_146 a2 a3 a4)[136]? = some (.inr (10, [.ref 137, .int 0, .int 0, .ref 138, .ref 151, .long 0])) := (px_get_ne (Nat.ne_of_beq_eq_false rfl) (px_get_ne (Nat.ne_of_beq_eq_false rfl) (px_get_ne (Nat.ne_of_beq_eq_false rfl) (px_get_ne (Nat.ne_of_beq_eq_false rfl) (px_get_ne (Nat.ne_of_beq_eq_false rfl) (px_get_ne (Nat.ne_of_beq_eq_false rfl) (px_get_ne (Nat.ne_of_beq_eq_false rfl) (px_get_ne (Nat.ne_of_beq_eq_false rfl) (px_get_ne (Nat.ne_of_beq_eq_false rfl) (px_get_lt (pl_123 a2 a3 a4) (Nat.le_of_ble_eq_true rfl) (pg_363 a2 a3 a4)))))))))))
set_option maxRecDepth 100000 in
theorem pg_380 (a2 a3 a4 : Int32) : (ph_146 a2 a3 a4)[147]? = some (.inr (7, [.int 6, .int 0, .ref 148])) := (px_get_ne (Nat.ne_of_beq_eq_false rfl) (px_get_ne (Nat.ne_of_beq_eq_false rfl) (px_get_ne (Nat.ne_of_beq_eq_false rfl) (px_get_ne (Nat.ne_of_beq_eq_false rfl) (px_get_ne (Nat.ne_of_beq_eq_false rfl) (px_get_ne (Nat.ne_of_beq_eq_false rfl) (px_get_ne (Nat.ne_of_beq_eq_false rfl) (px_get_ne (Nat.ne_of_beq_eq_false rfl) (px_get_ne (Nat.ne_of_beq_eq_false rfl) (px_get_lt (pl_123 a2 a3 a4) (Nat.le_of_ble_eq_true rfl) (px_get_ne (Nat.ne_of_beq_eq_false rfl) (px_get_ne (Nat.ne_of_beq_eq_false rfl) (px_get_ne (Nat.ne_of_beq_eq_false rfl) (px_get_ne (Nat.ne_of_beq_eq_false rfl) (px_get_ne (Nat.ne_of_beq_eq_false rfl) (px_get_ne (Nat.ne_of_beq_eq_false rfl) (px_get_ne (Nat.ne_of_beq_eq_false rfl) (px_get_ne (Nat.ne_of_beq_eq_false rfl) (px_get_ne (Nat.ne_of_beq_eq_false rfl) (px_get_ne (Nat.ne_of_beq_eq_false rfl) (px_get_ne (Nat.ne_of_beq_eq_false rfl) pg_85)))))))))))))))))))))
set_option maxRecDepth 100000 in
theorem pg_381 (a2 a3 a4 : Int32) : (ph_146 a2 a3 a4)[143]? = some (.inr (7, [.int 6, .int 0, .ref 144])) := (px_get_ne (Nat.ne_of_beq_eq_false rfl) (px_get_ne (Nat.ne_of_beq_eq_false rfl) (px_get_ne (Nat.ne_of_beq_eq_false rfl) (px_get_ne (Nat.ne_of_beq_eq_false rfl) (px_get_ne (Nat.ne_of_beq_eq_false rfl) (px_get_ne (Nat.ne_of_beq_eq_false rfl) (px_get_ne (Nat.ne_of_beq_eq_false rfl) (px_get_ne (Nat.ne_of_beq_eq_false rfl) (px_get_ne (Nat.ne_of_beq_eq_false rfl) (px_get_lt (pl_123 a2 a3 a4) (Nat.le_of_ble_eq_true rfl) (px_get_ne (Nat.ne_of_beq_eq_false rfl) (px_get_ne (Nat.ne_of_beq_eq_false rfl) (px_get_ne (Nat.ne_of_beq_eq_false rfl) (px_get_ne (Nat.ne_of_beq_eq_false rfl) (px_get_ne (Nat.ne_of_beq_eq_false rfl) (px_get_ne (Nat.ne_of_beq_eq_false rfl) (px_get_ne (Nat.ne_of_beq_eq_false rfl) (px_get_ne (Nat.ne_of_beq_eq_false rfl) (px_get_ne (Nat.ne_of_beq_eq_false rfl) (px_get_ne (Nat.ne_of_beq_eq_false rfl) (px_get_ne (Nat.ne_of_beq_eq_false rfl) pg_87)))))))))))))))))))))
set_option maxRecDepth 100000 in
theorem pg_382 (a2 a3 a4 : Int32) : (ph_146 a2 a3 a4)[144]? = some (.inl (0, .inl (List.replicate 96 0))) := (px_get_ne (Nat.ne_of_beq_eq_false rfl) (px_get_ne (Nat.ne_of_beq_eq_false rfl) (px_get_ne (Nat.ne_of_beq_eq_false rfl) (px_get_ne (Nat.ne_of_beq_eq_false rfl) (px_get_ne (Nat.ne_of_beq_eq_false rfl) (px_get_ne (Nat.ne_of_beq_eq_false rfl) (px_get_ne (Nat.ne_of_beq_eq_false rfl) (px_get_ne (Nat.ne_of_beq_eq_false rfl) (px_get_ne (Nat.ne_of_beq_eq_false rfl) (px_get_lt (pl_123 a2 a3 a4) (Nat.le_of_ble_eq_true rfl) (px_get_ne (Nat.ne_of_beq_eq_false rfl) (px_get_ne (Nat.ne_of_beq_eq_false rfl) (px_get_ne (Nat.ne_of_beq_eq_false rfl) (px_get_ne (Nat.ne_of_beq_eq_false rfl) (px_get_ne (Nat.ne_of_beq_eq_false rfl) (px_get_ne (Nat.ne_of_beq_eq_false rfl) (px_get_ne (Nat.ne_of_beq_eq_false rfl) (px_get_ne (Nat.ne_of_beq_eq_false rfl) (px_get_ne (Nat.ne_of_beq_eq_false rfl) (px_get_ne (Nat.ne_of_beq_eq_false rfl) (px_get_ne (Nat.ne_of_beq_eq_false rfl) pg_89)))))))))))))))))))))
set_option maxRecDepth 100000 in
theorem pg_383 (a2 a3 a4 : Int32) : (ph_146 a2 a3 a4)[148]? = some (.inl (0, .inl (List.replicate 96 0))) := (px_get_ne (Nat.ne_of_beq_eq_false rfl) (px_get_ne (Nat.ne_of_beq_eq_false rfl) (px_get_ne (Nat.ne_of_beq_eq_false rfl) (px_get_ne (Nat.ne_of_beq_eq_false rfl) (px_get_ne (Nat.ne_of_beq_eq_false rfl) (px_get_ne (Nat.ne_of_beq_eq_false rfl) (px_get_ne (Nat.ne_of_beq_eq_false rfl) (px_get_ne (Nat.ne_of_beq_eq_false rfl) (px_get_ne (Nat.ne_of_beq_eq_false rfl) (px_get_lt (pl_123 a2 a3 a4) (Nat.le_of_ble_eq_true rfl) (px_get_ne (Nat.ne_of_beq_eq_false rfl) (px_get_ne (Nat.ne_of_beq_eq_false rfl) (px_get_ne (Nat.ne_of_beq_eq_false rfl) (px_get_ne (Nat.ne_of_beq_eq_false rfl) (px_get_ne (Nat.ne_of_beq_eq_false rfl) (px_get_ne (Nat.ne_of_beq_eq_false rfl) (px_get_ne (Nat.ne_of_beq_eq_false rfl) (px_get_ne (Nat.ne_of_beq_eq_false rfl) (px_get_ne (Nat.ne_of_beq_eq_false rfl) (px_get_ne (Nat.ne_of_beq_eq_false rfl) (px_get_ne (Nat.ne_of_beq_eq_false rfl) pg_91)))))))))))))))))))))
set_option maxRecDepth 100000 in
theorem pg_384 (a2 a3 a4 : Int32) : (ph_147 a2 a3 a4)[138]? = some (.inr (9, [.int 1, .int 0, .int 0, .ref 139, .ref 140, .ref 141, .ref 143, .ref 145, .ref 147, .ref 149, .ref 150, .int 0, .ref 136])) := (px_get_ne (Nat.ne_of_beq_eq_false rfl) (pg_378 a2 a3 a4))
set_option maxRecDepth 100000 in
theorem pg_385 (a2 a3 a4 : Int32) : (ph_147 a2 a3 a4)[145]? = some (.inr (7, [.int 2, .int 0, .ref 146])) := (px_get_ne (Nat.ne_of_beq_eq_false rfl) (px_get_ne (Nat.ne_of_beq_eq_false rfl) (px_get_ne (Nat.ne_of_beq_eq_false rfl) (px_get_ne (Nat.ne_of_beq_eq_false rfl) (px_get_ne (Nat.ne_of_beq_eq_false rfl) (px_get_ne (Nat.ne_of_beq_eq_false rfl) (px_get_ne (Nat.ne_of_beq_eq_false rfl) (px_get_ne (Nat.ne_of_beq_eq_false rfl) (px_get_ne (Nat.ne_of_beq_eq_false rfl) (px_get_ne (Nat.ne_of_beq_eq_false rfl) (px_get_lt (pl_123 a2 a3 a4) (Nat.le_of_ble_eq_true rfl) (px_get_ne (Nat.ne_of_beq_eq_false rfl) (px_get_ne (Nat.ne_of_beq_eq_false rfl) (px_get_ne (Nat.ne_of_beq_eq_false rfl) (px_get_ne (Nat.ne_of_beq_eq_false rfl) (px_get_ne (Nat.ne_of_beq_eq_false rfl) (px_get_ne (Nat.ne_of_beq_eq_false rfl) (px_get_ne (Nat.ne_of_beq_eq_false rfl) (px_get_ne (Nat.ne_of_beq_eq_false rfl) (px_get_ne (Nat.ne_of_beq_eq_false rfl) (px_get_ne (Nat.ne_of_beq_eq_false rfl) (px_get_ne (Nat.ne_of_beq_eq_false rfl) pg_94))))))))))))))))))))))
set_option maxRecDepth 100000 in
theorem pg_386 (a2 a3 a4 : Int32) : (ph_147 a2 a3 a4)[141]? = some (.inr (7, [.int 6, .int 1, .ref 142])) := (px_get_ne (Nat.ne_of_beq_eq_false rfl) (px_get_ne (Nat.ne_of_beq_eq_false rfl) (px_get_eq (pl_131 a2 a3 a4) (Nat.le_of_ble_eq_true rfl))))
set_option maxRecDepth 100000 in
theorem pg_387 (a2 a3 a4 : Int32) : (ph_147 a2 a3 a4)[142]? = some (.inl (0, .inl ([0] ++ [5] ++ [a2] ++ [a3] ++ [a4] ++ [1] ++ List.replicate 90 0))) := (px_get_ne (Nat.ne_of_beq_eq_false rfl) (px_get_ne (Nat.ne_of_beq_eq_false rfl) (px_get_ne (Nat.ne_of_beq_eq_false rfl) (px_get_eq (pl_130 a2 a3 a4) (Nat.le_of_ble_eq_true rfl)))))
set_option maxRecDepth 100000 in
theorem pg_388 (a2 a3 a4 : Int32) : (ph_147 a2 a3 a4)[136]? = some (.inr (10, [.ref 137, .int 0, .int 0, .ref 138, .ref 151, .long 0])) := (px_get_ne (Nat.ne_of_beq_eq_false rfl) (pg_379 a2 a3 a4))
set_option maxRecDepth 100000 in
theorem pg_389 (a2 a3 a4 : Int32) : (ph_147 a2 a3 a4)[164]? = some (.inl (2, .inr (.inl ([0])))) := (px_get_ne (Nat.ne_of_beq_eq_false rfl) (px_get_ne (Nat.ne_of_beq_eq_false rfl) (px_get_ne (Nat.ne_of_beq_eq_false rfl) (px_get_ne (Nat.ne_of_beq_eq_false rfl) (px_get_ne (Nat.ne_of_beq_eq_false rfl) (px_get_ne (Nat.ne_of_beq_eq_false rfl) (px_get_ne (Nat.ne_of_beq_eq_false rfl) (px_get_ne (Nat.ne_of_beq_eq_false rfl) (px_get_ne (Nat.ne_of_beq_eq_false rfl) (px_get_ne (Nat.ne_of_beq_eq_false rfl) (px_get_lt (pl_123 a2 a3 a4) (Nat.le_of_ble_eq_true rfl) (px_get_eq (pl_122 a2 a3 a4) (Nat.le_of_ble_eq_true rfl)))))))))))))
set_option maxRecDepth 100000 in
theorem pg_390 : ph_148[93]? = some (.inr (2, [.int 0, .int 0, .ref 94, .ref 95, .ref 96, .ref 97, .ref 98])) := (px_get_ne (Nat.ne_of_beq_eq_false rfl) pg_23)
set_option maxRecDepth 100000 in
theorem pl_133 : ph_148.length = 165 := px_len_set pl_0
set_option maxRecDepth 100000 in
theorem pg_391 : ph_149[93]? = some (.inr (2, [.int 1, .int 0, .ref 94, .ref 95, .ref 96, .ref 97, .ref 98])) := (px_get_eq pl_133 (Nat.le_of_ble_eq_true rfl))
set_option maxRecDepth 100000 in
theorem pl_134 : ph_149.length = 165 := px_len_set pl_133
set_option maxRecDepth 100000 in
theorem pg_392 : ph_150[93]? = some (.inr (2, [.int 1, .int 1, .ref 94, .ref 95, .ref 96, .ref 97, .ref 98])) := (px_get_eq pl_134 (Nat.le_of_ble_eq_true rfl))
set_option maxRecDepth 100000 in
theorem pg_393 : ph_150[95]? = some (.inl (1, .inl (List.replicate 48 0))) := (px_get_ne (Nat.ne_of_beq_eq_false rfl) (px_get_ne (Nat.ne_of_beq_eq_false rfl) (px_get_ne (Nat.ne_of_beq_eq_false rfl) pg_29)))
set_option maxRecDepth 100000 in
theorem pg_394 : ph_151[93]? = some (.inr (2, [.int 1, .int 1, .ref 94, .ref 95, .ref 96, .ref 97, .ref 98])) := (px_get_ne (Nat.ne_of_beq_eq_false rfl) pg_392)
set_option maxRecDepth 100000 in
theorem pg_395 : ph_151[96]? = some (.inl (0, .inl (List.replicate 144 0))) := (px_get_ne (Nat.ne_of_beq_eq_false rfl) (px_get_ne (Nat.ne_of_beq_eq_false rfl) (px_get_ne (Nat.ne_of_beq_eq_false rfl) (px_get_ne (Nat.ne_of_beq_eq_false rfl) pg_32))))
set_option maxRecDepth 100000 in
theorem pg_396 (a2 : Int32) : (ph_152 a2)[93]? = some (.inr (2, [.int 1, .int 1, .ref 94, .ref 95, .ref 96, .ref 97, .ref 98])) := (px_get_ne (Nat.ne_of_beq_eq_false rfl) pg_394)
set_option maxRecDepth 100000 in
theorem pl_135 : ph_150.length = 165 := px_len_set pl_134
set_option maxRecDepth 100000 in
theorem pl_136 : ph_151.length = 165 := px_len_set pl_135
set_option maxRecDepth 100000 in
theorem pg_397 (a2 : Int32) : (ph_152 a2)[96]? = some (.inl (0, .inl (List.replicate 108 0 ++ [a2] ++ List.replicate 35 0))) := (px_get_eq pl_136 (Nat.le_of_ble_eq_true rfl))
set_option maxRecDepth 100000 in
theorem pg_398 (a2 a3 : Int32) : (ph_153 a2 a3)[93]? = some (.inr (2, [.int 1, .int 1, .ref 94, .ref 95, .ref 96, .ref 97, .ref 98])) := (px_get_ne (Nat.ne_of_beq_eq_false rfl) (pg_396 a2))
set_option maxRecDepth 100000 in
theorem pl_137 (a2 : Int32) : (ph_152 a2).length = 165 := px_len_set pl_136
set_option maxRecDepth 100000 in
theorem pg_399 (a2 a3 : Int32) : (ph_153 a2 a3)[96]? = some (.inl (0, .inl (List.replicate 108 0 ++ [a2] ++ [a3] ++ List.replicate 34 0))) := (px_get_eq (pl_137 a2) (Nat.le_of_ble_eq_true rfl))
set_option maxRecDepth 100000 in
theorem pg_400 (a2 a3 a4 : Int32) : (ph_154 a2 a3 a4)[93]? = some (.inr (2, [.int 1, .int 1, .ref 94, .ref 95, .ref 96, .ref 97, .ref 98])) := (px_get_ne (Nat.ne_of_beq_eq_false rfl) (pg_398 a2 a3))
set_option maxRecDepth 100000 in
theorem pg_401 (a2 a3 a4 : Int32) : (ph_154 a2 a3 a4)[97]? = some (.inl (0, .inl (List.replicate 8 0))) := (px_get_ne (Nat.ne_of_beq_eq_false rfl) (px_get_ne (Nat.ne_of_beq_eq_false rfl) (px_get_ne (Nat.ne_of_beq_eq_false rfl) (px_get_ne (Nat.ne_of_beq_eq_false rfl) (px_get_ne (Nat.ne_of_beq_eq_false rfl) (px_get_ne (Nat.ne_of_beq_eq_false rfl) (px_get_ne (Nat.ne_of_beq_eq_false rfl) pg_25)))))))
set_option maxRecDepth 100000 in
theorem pg_402 (a2 a3 a4 : Int32) : (ph_154 a2 a3 a4)[98]? = some (.inl (0, .inl (List.replicate 48 0))) := (px_get_ne (Nat.ne_of_beq_eq_false rfl) (px_get_ne (Nat.ne_of_beq_eq_false rfl) (px_get_ne (Nat.ne_of_beq_eq_false rfl) (px_get_ne (Nat.ne_of_beq_eq_false rfl) (px_get_ne (Nat.ne_of_beq_eq_false rfl) (px_get_ne (Nat.ne_of_beq_eq_false rfl) (px_get_ne (Nat.ne_of_beq_eq_false rfl) pg_40)))))))
set_option maxRecDepth 100000 in
theorem pg_403 (a2 a3 a4 : Int32) : (ph_155 a2 a3 a4)[93]? = some (.inr (2, [.int 1, .int 1, .ref 94, .ref 95, .ref 96, .ref 97, .ref 98])) := (px_get_ne (Nat.ne_of_beq_eq_false rfl) (pg_400 a2 a3 a4))
set_option maxRecDepth 100000 in
theorem pg_404 (a2 a3 a4 : Int32) : (ph_155 a2 a3 a4)[97]? = some (.inl (0, .inl (List.replicate 8 0))) := (px_get_ne (Nat.ne_of_beq_eq_false rfl) (pg_401 a2 a3 a4))
set_option maxRecDepth 100000 in
theorem pg_405 (a2 a3 a4 : Int32) : (ph_156 a2 a3 a4)[92]? = some (.inr (5, [.ref 1, .ref 93, .ref 99, .ref 110, .int 0, .ref 111, .ref 112, .ref 113])) := (px_get_ne (Nat.ne_of_beq_eq_false rfl) (px_get_ne (Nat.ne_of_beq_eq_false rfl) (px_get_ne (Nat.ne_of_beq_eq_false rfl) (px_get_ne (Nat.ne_of_beq_eq_false rfl) (px_get_ne (Nat.ne_of_beq_eq_false rfl) (px_get_ne (Nat.ne_of_beq_eq_false rfl) (px_get_ne (Nat.ne_of_beq_eq_false rfl) (px_get_ne (Nat.ne_of_beq_eq_false rfl) (px_get_ne (Nat.ne_of_beq_eq_false rfl) pg_22)))))))))
set_option maxRecDepth 100000 in
theorem pg_406 (a2 a3 a4 : Int32) : (ph_156 a2 a3 a4)[93]? = some (.inr (2, [.int 1, .int 1, .ref 94, .ref 95, .ref 96, .ref 97, .ref 98])) := (px_get_ne (Nat.ne_of_beq_eq_false rfl) (pg_403 a2 a3 a4))
set_option maxRecDepth 100000 in
theorem pg_407 (a2 a3 a4 : Int32) : (ph_156 a2 a3 a4)[94]? = some (.inl (0, .inl (List.replicate 36 (-1) ++ [0] ++ List.replicate 11 (-1)))) := (px_get_ne (Nat.ne_of_beq_eq_false rfl) (px_get_ne (Nat.ne_of_beq_eq_false rfl) (px_get_ne (Nat.ne_of_beq_eq_false rfl) (px_get_ne (Nat.ne_of_beq_eq_false rfl) (px_get_ne (Nat.ne_of_beq_eq_false rfl) (px_get_ne (Nat.ne_of_beq_eq_false rfl) (px_get_ne (Nat.ne_of_beq_eq_false rfl) (px_get_ne (Nat.ne_of_beq_eq_false rfl) (px_get_eq pl_0 (Nat.le_of_ble_eq_true rfl))))))))))
set_option maxRecDepth 100000 in
theorem pg_408 (a2 a3 a4 : Int32) : (ph_156 a2 a3 a4)[95]? = some (.inl (1, .inl (List.replicate 48 0))) := (px_get_ne (Nat.ne_of_beq_eq_false rfl) (px_get_ne (Nat.ne_of_beq_eq_false rfl) (px_get_ne (Nat.ne_of_beq_eq_false rfl) (px_get_ne (Nat.ne_of_beq_eq_false rfl) (px_get_ne (Nat.ne_of_beq_eq_false rfl) (px_get_eq pl_135 (Nat.le_of_ble_eq_true rfl)))))))
set_option maxRecDepth 100000 in
theorem pg_409 (a2 a3 a4 : Int32) : (ph_157 a2 a3 a4)[92]? = some (.inr (5, [.ref 1, .ref 93, .ref 99, .ref 110, .int 0, .ref 111, .ref 112, .ref 113])) := (px_get_ne (Nat.ne_of_beq_eq_false rfl) (pg_405 a2 a3 a4))
set_option maxRecDepth 100000 in
theorem pg_410 (a2 a3 a4 : Int32) : (ph_157 a2 a3 a4)[93]? = some (.inr (2, [.int 1, .int 1, .ref 94, .ref 95, .ref 96, .ref 97, .ref 98])) := (px_get_ne (Nat.ne_of_beq_eq_false rfl) (pg_406 a2 a3 a4))
set_option maxRecDepth 100000 in
theorem pg_411 (a2 a3 a4 : Int32) : (ph_157 a2 a3 a4)[1]? = some (.inl (3, .inr (.inr ([some 2, some 17, some 32, some 47, some 62, some 77])))) := (px_get_ne (Nat.ne_of_beq_eq_false rfl) (px_get_ne (Nat.ne_of_beq_eq_false rfl) (px_get_ne (Nat.ne_of_beq_eq_false rfl) (px_get_ne (Nat.ne_of_beq_eq_false rfl) (px_get_ne (Nat.ne_of_beq_eq_false rfl) (px_get_ne (Nat.ne_of_beq_eq_false rfl) (px_get_ne (Nat.ne_of_beq_eq_false rfl) (px_get_ne (Nat.ne_of_beq_eq_false rfl) (px_get_ne (Nat.ne_of_beq_eq_false rfl) (px_get_ne (Nat.ne_of_beq_eq_false rfl) pg_4))))))))))
set_option maxRecDepth 100000 in
theorem pg_412 (a2 a3 a4 : Int32) : (ph_157 a2 a3 a4)[2]? = some (.inr (4, [.int 0, .int 0, .ref 3, .ref 11])) := (px_get_ne (Nat.ne_of_beq_eq_false rfl) (px_get_ne (Nat.ne_of_beq_eq_false rfl) (px_get_ne (Nat.ne_of_beq_eq_false rfl) (px_get_ne (Nat.ne_of_beq_eq_false rfl) (px_get_ne (Nat.ne_of_beq_eq_false rfl) (px_get_ne (Nat.ne_of_beq_eq_false rfl) (px_get_ne (Nat.ne_of_beq_eq_false rfl) (px_get_ne (Nat.ne_of_beq_eq_false rfl) (px_get_ne (Nat.ne_of_beq_eq_false rfl) (px_get_ne (Nat.ne_of_beq_eq_false rfl) pg_5))))))))))
set_option maxRecDepth 100000 in
theorem pg_413 (a2 a3 a4 : Int32) : (ph_157 a2 a3 a4)[17]? = some (.inr (4, [.int 0, .int 0, .ref 18, .ref 26])) := (px_get_ne (Nat.ne_of_beq_eq_false rfl) (px_get_ne (Nat.ne_of_beq_eq_false rfl) (px_get_ne (Nat.ne_of_beq_eq_false rfl) (px_get_ne (Nat.ne_of_beq_eq_false rfl) (px_get_ne (Nat.ne_of_beq_eq_false rfl) (px_get_ne (Nat.ne_of_beq_eq_false rfl) (px_get_ne (Nat.ne_of_beq_eq_false rfl) (px_get_ne (Nat.ne_of_beq_eq_false rfl) (px_get_ne (Nat.ne_of_beq_eq_false rfl) (px_get_ne (Nat.ne_of_beq_eq_false rfl) pg_52))))))))))
set_option maxRecDepth 100000 in
theorem pg_414 (a2 a3 a4 : Int32) : (ph_157 a2 a3 a4)[32]? = some (.inr (4, [.int 0, .int 0, .ref 33, .ref 41])) := (px_get_ne (Nat.ne_of_beq_eq_false rfl) (px_get_ne (Nat.ne_of_beq_eq_false rfl) (px_get_ne (Nat.ne_of_beq_eq_false rfl) (px_get_ne (Nat.ne_of_beq_eq_false rfl) (px_get_ne (Nat.ne_of_beq_eq_false rfl) (px_get_ne (Nat.ne_of_beq_eq_false rfl) (px_get_ne (Nat.ne_of_beq_eq_false rfl) (px_get_ne (Nat.ne_of_beq_eq_false rfl) (px_get_ne (Nat.ne_of_beq_eq_false rfl) (px_get_ne (Nat.ne_of_beq_eq_false rfl) pg_54))))))))))
set_option maxRecDepth 100000 in
theorem pg_415 (a2 a3 a4 : Int32) : (ph_157 a2 a3 a4)[47]? = some (.inr (4, [.int 0, .int 0, .ref 48, .ref 56])) := (px_get_ne (Nat.ne_of_beq_eq_false rfl) (px_get_ne (Nat.ne_of_beq_eq_false rfl) (px_get_ne (Nat.ne_of_beq_eq_false rfl) (px_get_ne (Nat.ne_of_beq_eq_false rfl) (px_get_ne (Nat.ne_of_beq_eq_false rfl) (px_get_ne (Nat.ne_of_beq_eq_false rfl) (px_get_ne (Nat.ne_of_beq_eq_false rfl) (px_get_ne (Nat.ne_of_beq_eq_false rfl) (px_get_ne (Nat.ne_of_beq_eq_false rfl) (px_get_ne (Nat.ne_of_beq_eq_false rfl) pg_56))))))))))
set_option maxRecDepth 100000 in
theorem pg_416 (a2 a3 a4 : Int32) : (ph_157 a2 a3 a4)[62]? = some (.inr (4, [.int 0, .int 0, .ref 63, .ref 71])) := (px_get_ne (Nat.ne_of_beq_eq_false rfl) (px_get_ne (Nat.ne_of_beq_eq_false rfl) (px_get_ne (Nat.ne_of_beq_eq_false rfl) (px_get_ne (Nat.ne_of_beq_eq_false rfl) (px_get_ne (Nat.ne_of_beq_eq_false rfl) (px_get_ne (Nat.ne_of_beq_eq_false rfl) (px_get_ne (Nat.ne_of_beq_eq_false rfl) (px_get_ne (Nat.ne_of_beq_eq_false rfl) (px_get_ne (Nat.ne_of_beq_eq_false rfl) (px_get_ne (Nat.ne_of_beq_eq_false rfl) pg_58))))))))))
set_option maxRecDepth 100000 in
theorem pg_417 (a2 a3 a4 : Int32) : (ph_157 a2 a3 a4)[77]? = some (.inr (4, [.int 0, .int 0, .ref 78, .ref 86])) := (px_get_ne (Nat.ne_of_beq_eq_false rfl) (px_get_ne (Nat.ne_of_beq_eq_false rfl) (px_get_ne (Nat.ne_of_beq_eq_false rfl) (px_get_ne (Nat.ne_of_beq_eq_false rfl) (px_get_ne (Nat.ne_of_beq_eq_false rfl) (px_get_ne (Nat.ne_of_beq_eq_false rfl) (px_get_ne (Nat.ne_of_beq_eq_false rfl) (px_get_ne (Nat.ne_of_beq_eq_false rfl) (px_get_ne (Nat.ne_of_beq_eq_false rfl) (px_get_ne (Nat.ne_of_beq_eq_false rfl) pg_60))))))))))
set_option maxRecDepth 100000 in
theorem pg_418 (a2 a3 a4 : Int32) : (ph_157 a2 a3 a4)[94]? = some (.inl (0, .inl (List.replicate 36 (-1) ++ [0] ++ List.replicate 11 (-1)))) := (px_get_ne (Nat.ne_of_beq_eq_false rfl) (pg_407 a2 a3 a4))
set_option maxRecDepth 100000 in
theorem pl_138 (a2 a3 : Int32) : (ph_153 a2 a3).length = 165 := px_len_set (pl_137 a2)
set_option maxRecDepth 100000 in
theorem pl_139 (a2 a3 a4 : Int32) : (ph_154 a2 a3 a4).length = 165 := px_len_set (pl_138 a2 a3)
set_option maxRecDepth 100000 in
theorem pl_140 (a2 a3 a4 : Int32) : (ph_155 a2 a3 a4).length = 165 := px_len_set (pl_139 a2 a3 a4)
set_option maxRecDepth 100000 in
theorem pl_141 (a2 a3 a4 : Int32) : (ph_156 a2 a3 a4).length = 165 := px_len_set (pl_140 a2 a3 a4)
set_option maxRecDepth 100000 in
theorem pg_419 (a2 a3 a4 : Int32) : (ph_157 a2 a3 a4)[95]? = some (.inl (1, .inl (List.replicate 36 0 ++ [1] ++ List.replicate 11 0))) := (px_get_eq (pl_141 a2 a3 a4) (Nat.le_of_ble_eq_true rfl))
set_option maxRecDepth 100000 in
theorem pg_420 (a2 a3 a4 : Int32) : (ph_157 a2 a3 a4)[164]? = some (.inl (2, .inr (.inl ([0])))) := (px_get_ne (Nat.ne_of_beq_eq_false rfl) (px_get_ne (Nat.ne_of_beq_eq_false rfl) (px_get_ne (Nat.ne_of_beq_eq_false rfl) (px_get_ne (Nat.ne_of_beq_eq_false rfl) (px_get_ne (Nat.ne_of_beq_eq_false rfl) (px_get_ne (Nat.ne_of_beq_eq_false rfl) (px_get_ne (Nat.ne_of_beq_eq_false rfl) (px_get_ne (Nat.ne_of_beq_eq_false rfl) (px_get_ne (Nat.ne_of_beq_eq_false rfl) (px_get_ne (Nat.ne_of_beq_eq_false rfl) pg_8))))))))))
set_option maxRecDepth 100000 in
theorem pg_421 (a2 a3 a4 : Int32) : (ph_158 a2 a3 a4)[136]? = some (.inr (10, [.ref 137, .int 0, .int 0, .ref 138, .ref 151, .long 0])) := (px_get_ne (Nat.ne_of_beq_eq_false rfl) (px_get_ne (Nat.ne_of_beq_eq_false rfl) (px_get_ne (Nat.ne_of_beq_eq_false rfl) (px_get_ne (Nat.ne_of_beq_eq_false rfl) (px_get_ne (Nat.ne_of_beq_eq_false rfl) (px_get_ne (Nat.ne_of_beq_eq_false rfl) (px_get_ne (Nat.ne_of_beq_eq_false rfl) (px_get_ne (Nat.ne_of_beq_eq_false rfl) (px_get_ne (Nat.ne_of_beq_eq_false rfl) (px_get_ne (Nat.ne_of_beq_eq_false rfl) (px_get_ne (Nat.ne_of_beq_eq_false rfl) pg_1)))))))))))
set_option maxRecDepth 100000 in
theorem pg_422 (a2 a3 a4 : Int32) : (ph_158 a2 a3 a4)[138]? = some (.inr (9, [.int 0, .int 0, .int 0, .ref 139, .ref 140, .ref 141, .ref 143, .ref 145, .ref 147, .ref 149, .ref 150, .int 0, .ref 136])) := (px_get_ne (Nat.ne_of_beq_eq_false rfl) (px_get_ne (Nat.ne_of_beq_eq_false rfl) (px_get_ne (Nat.ne_of_beq_eq_false rfl) (px_get_ne (Nat.ne_of_beq_eq_false rfl) (px_get_ne (Nat.ne_of_beq_eq_false rfl) (px_get_ne (Nat.ne_of_beq_eq_false rfl) (px_get_ne (Nat.ne_of_beq_eq_false rfl) (px_get_ne (Nat.ne_of_beq_eq_false rfl) (px_get_ne (Nat.ne_of_beq_eq_false rfl) (px_get_ne (Nat.ne_of_beq_eq_false rfl) (px_get_ne (Nat.ne_of_beq_eq_false rfl) pg_66)))))))))))
set_option maxRecDepth 100000 in
theorem pg_423 (a2 a3 a4 : Int32) : (ph_158 a2 a3 a4)[141]? = some (.inr (7, [.int 6, .int 0, .ref 142])) := (px_get_ne (Nat.ne_of_beq_eq_false rfl) (px_get_ne (Nat.ne_of_beq_eq_false rfl) (px_get_ne (Nat.ne_of_beq_eq_false rfl) (px_get_ne (Nat.ne_of_beq_eq_false rfl) (px_get_ne (Nat.ne_of_beq_eq_false rfl) (px_get_ne (Nat.ne_of_beq_eq_false rfl) (px_get_ne (Nat.ne_of_beq_eq_false rfl) (px_get_ne (Nat.ne_of_beq_eq_false rfl) (px_get_ne (Nat.ne_of_beq_eq_false rfl) (px_get_ne (Nat.ne_of_beq_eq_false rfl) (px_get_ne (Nat.ne_of_beq_eq_false rfl) pg_68)))))))))))
set_option maxRecDepth 100000 in
theorem pl_142 (a2 a3 a4 : Int32) : (ph_157 a2 a3 a4).length = 165 := px_len_set (pl_141 a2 a3 a4)
set_option maxRecDepth 100000 in
theorem pl_143 (a2 a3 a4 : Int32) : (ph_158 a2 a3 a4).length = 165 := px_len_set (pl_142 a2 a3 a4)
set_option maxRecDepth 100000 in
theorem pg_424 (a2 a3 a4 : Int32) : (ph_159 a2 a3 a4)[138]? = some (.inr (9, [.int 0, .int 0, .int 0, .ref 139, .ref 140, .ref 141, .ref 143, .ref 145, .ref 147, .ref 149, .ref 150, .int 0, .ref 136])) := (px_get_lt (pl_143 a2 a3 a4) (Nat.le_of_ble_eq_true rfl) (pg_422 a2 a3 a4))
set_option maxRecDepth 100000 in
theorem pg_425 (a2 a3 a4 : Int32) : (ph_159 a2 a3 a4)[165]? = some (.inl (0, .inl (List.replicate 6 0))) := (px_get_ge (k := 0) (pl_143 a2 a3 a4) rfl rfl)
set_option maxRecDepth 100000 in
theorem pl_144 (a2 a3 a4 : Int32) : (ph_159 a2 a3 a4).length = 166 := px_len_app (pl_143 a2 a3 a4) rfl
set_option maxRecDepth 100000 in
theorem pg_426 (a2 a3 a4 : Int32) : (ph_160 a2 a3 a4)[165]? = some (.inl (0, .inl (List.replicate 6 0))) := (px_get_eq (pl_144 a2 a3 a4) (Nat.le_of_ble_eq_true rfl))
set_option maxRecDepth 100000 in
theorem pl_145 (a2 a3 a4 : Int32) : (ph_160 a2 a3 a4).length = 166 := px_len_set (pl_144 a2 a3 a4)
set_option maxRecDepth 100000 in
theorem pg_427 (a2 a3 a4 : Int32) : (ph_161 a2 a3 a4)[165]? = some (.inl (0, .inl ([0, 6, 0, 0, 0, 0]))) := (px_get_eq (pl_145 a2 a3 a4) (Nat.le_of_ble_eq_true rfl))
set_option maxRecDepth 100000 in
theorem pl_146 (a2 a3 a4 : Int32) : (ph_161 a2 a3 a4).length = 166 := px_len_set (pl_145 a2 a3 a4)
set_option maxRecDepth 100000 in
theorem pg_428 (a2 a3 a4 : Int32) : (ph_162 a2 a3 a4)[165]? = some (.inl (0, .inl ([0, 6, a2, 0, 0, 0]))) := (px_get_eq (pl_146 a2 a3 a4) (Nat.le_of_ble_eq_true rfl))
set_option maxRecDepth 100000 in
theorem pl_147 (a2 a3 a4 : Int32) : (ph_162 a2 a3 a4).length = 166 := px_len_set (pl_146 a2 a3 a4)
set_option maxRecDepth 100000 in
theorem pg_429 (a2 a3 a4 : Int32) : (ph_163 a2 a3 a4)[165]? = some (.inl (0, .inl ([0, 6, a2, a3, 0, 0]))) := (px_get_eq (pl_147 a2 a3 a4) (Nat.le_of_ble_eq_true rfl))
set_option maxRecDepth 100000 in
theorem pl_148 (a2 a3 a4 : Int32) : (ph_163 a2 a3 a4).length = 166 := px_len_set (pl_147 a2 a3 a4)
set_option maxRecDepth 100000 in
theorem pg_430 (a2 a3 a4 : Int32) : (ph_164 a2 a3 a4)[165]? = some (.inl (0, .inl ([0, 6, a2, a3, a4, 0]))) := (px_get_eq (pl_148 a2 a3 a4) (Nat.le_of_ble_eq_true rfl))
set_option maxRecDepth 100000 in
theorem pg_431 (a2 a3 a4 : Int32) : (ph_165 a2 a3 a4)[141]? = some (.inr (7, [.int 6, .int 0, .ref 142])) := (px_get_ne (Nat.ne_of_beq_eq_false rfl) (px_get_ne (Nat.ne_of_beq_eq_false rfl) (px_get_ne (Nat.ne_of_beq_eq_false rfl) (px_get_ne (Nat.ne_of_beq_eq_false rfl) (px_get_ne (Nat.ne_of_beq_eq_false rfl) (px_get_ne (Nat.ne_of_beq_eq_false rfl) (px_get_lt (pl_143 a2 a3 a4) (Nat.le_of_ble_eq_true rfl) (pg_423 a2 a3 a4))))))))
set_option maxRecDepth 100000 in
theorem pg_432 (a2 a3 a4 : Int32) : (ph_165 a2 a3 a4)[142]? = some (.inl (0, .inl (List.replicate 96 0))) := (px_get_ne (Nat.ne_of_beq_eq_false rfl) (px_get_ne (Nat.ne_of_beq_eq_false rfl) (px_get_ne (Nat.ne_of_beq_eq_false rfl) (px_get_ne (Nat.ne_of_beq_eq_false rfl) (px_get_ne (Nat.ne_of_beq_eq_false rfl) (px_get_ne (Nat.ne_of_beq_eq_false rfl) (px_get_lt (pl_143 a2 a3 a4) (Nat.le_of_ble_eq_true rfl) (px_get_ne (Nat.ne_of_beq_eq_false rfl) (px_get_ne (Nat.ne_of_beq_eq_false rfl) (px_get_ne (Nat.ne_of_beq_eq_false rfl) (px_get_ne (Nat.ne_of_beq_eq_false rfl) (px_get_ne (Nat.ne_of_beq_eq_false rfl) (px_get_ne (Nat.ne_of_beq_eq_false rfl) (px_get_ne (Nat.ne_of_beq_eq_false rfl) (px_get_ne (Nat.ne_of_beq_eq_false rfl) (px_get_ne (Nat.ne_of_beq_eq_false rfl) (px_get_ne (Nat.ne_of_beq_eq_false rfl) (px_get_ne (Nat.ne_of_beq_eq_false rfl) pg_78))))))))))))))))))
set_option maxRecDepth 100000 in
theorem pl_149 (a2 a3 a4 : Int32) : (ph_164 a2 a3 a4).length = 166 := px_len_set (pl_148 a2 a3 a4)
set_option maxRecDepth 100000 in
theorem pg_433 (a2 a3 a4 : Int32) : (ph_165 a2 a3 a4)[165]? = some (.inl (0, .inl ([0, 6, a2, a3, a4, 1]))) := (px_get_eq (pl_149 a2 a3 a4) (Nat.le_of_ble_eq_true rfl))
set_option maxRecDepth 100000 in
theorem pg_434 (a2 a3 a4 : Int32) : (ph_166 a2 a3 a4)[141]? = some (.inr (7, [.int 6, .int 0, .ref 142])) := (px_get_ne (Nat.ne_of_beq_eq_false rfl) (pg_431 a2 a3 a4))
set_option maxRecDepth 100000 in
theorem pg_435 (a2 a3 a4 : Int32) : (ph_167 a2 a3 a4)[138]? = some (.inr (9, [.int 0, .int 0, .int 0, .ref 139, .ref 140, .ref 141, .ref 143, .ref 145, .ref 147, .ref 149, .ref 150, .int 0, .ref 136])) := (px_get_ne (Nat.ne_of_beq_eq_false rfl) (px_get_ne (Nat.ne_of_beq_eq_false rfl) (px_get_ne (Nat.ne_of_beq_eq_false rfl) (px_get_ne (Nat.ne_of_beq_eq_false rfl) (px_get_ne (Nat.ne_of_beq_eq_false rfl) (px_get_ne (Nat.ne_of_beq_eq_false rfl) (px_get_ne (Nat.ne_of_beq_eq_false rfl) (px_get_ne (Nat.ne_of_beq_eq_false rfl) (pg_424 a2 a3 a4)))))))))
set_option maxRecDepth 100000 in
theorem pl_150 (a2 a3 a4 : Int32) : (ph_165 a2 a3 a4).length = 166 := px_len_set (pl_149 a2 a3 a4)
set_option maxRecDepth 100000 in
theorem pl_151 (a2 a3 a4 : Int32) : (ph_166 a2 a3 a4).length = 166 := px_len_set (pl_150 a2 a3 a4)
set_option maxRecDepth 100000 in
theorem pl_152 (a2 a3 a4 : Int32) : (ph_167 a2 a3 a4).length = 166 := px_len_set (pl_151 a2 a3 a4)
set_option maxRecDepth 100000 in
theorem pg_436 (a2 a3 a4 : Int32) : (ph_168 a2 a3 a4)[138]? = some (.inr (9, [.int 1, .int 0, .int 0, .ref 139, .ref 140, .ref 141, .ref 143, .ref 145, .ref 147, .ref 149, .ref 150, .int 0, .ref 136])) := (px_get_eq (pl_152 a2 a3 a4) (Nat.le_of_ble_eq_true rfl))
set_option maxRecDepth 100000 in
theorem pg_437 (a2 a3 a4 : Int32) : (ph_168 a2 a3 a4)[136]? = some (.inr (10, [.ref 137, .int 0, .int 0, .ref 138, .ref 151, .long 0])) := (px_get_ne (Nat.ne_of_beq_eq_false rfl) (px_get_ne (Nat.ne_of_beq_eq_false rfl) (px_get_ne (Nat.ne_of_beq_eq_false rfl) (px_get_ne (Nat.ne_of_beq_eq_false rfl) (px_get_ne (Nat.ne_of_beq_eq_false rfl) (px_get_ne (Nat.ne_of_beq_eq_false rfl) (px_get_ne (Nat.ne_of_beq_eq_false rfl) (px_get_ne (Nat.ne_of_beq_eq_false rfl) (px_get_ne (Nat.ne_of_beq_eq_false rfl) (px_get_lt (pl_143 a2 a3 a4) (Nat.le_of_ble_eq_true rfl) (pg_421 a2 a3 a4)))))))))))
set_option maxRecDepth 100000 in
theorem pg_438 (a2 a3 a4 : Int32) : (ph_168 a2 a3 a4)[147]? = some (.inr (7, [.int 6, .int 0, .ref 148])) := (px_get_ne (Nat.ne_of_beq_eq_false rfl) (px_get_ne (Nat.ne_of_beq_eq_false rfl) (px_get_ne (Nat.ne_of_beq_eq_false rfl) (px_get_ne (Nat.ne_of_beq_eq_false rfl) (px_get_ne (Nat.ne_of_beq_eq_false rfl) (px_get_ne (Nat.ne_of_beq_eq_false rfl) (px_get_ne (Nat.ne_of_beq_eq_false rfl) (px_get_ne (Nat.ne_of_beq_eq_false rfl) (px_get_ne (Nat.ne_of_beq_eq_false rfl) (px_get_lt (pl_143 a2 a3 a4) (Nat.le_of_ble_eq_true rfl) (px_get_ne (Nat.ne_of_beq_eq_false rfl) (px_get_ne (Nat.ne_of_beq_eq_false rfl) (px_get_ne (Nat.ne_of_beq_eq_false rfl) (px_get_ne (Nat.ne_of_beq_eq_false rfl) (px_get_ne (Nat.ne_of_beq_eq_false rfl) (px_get_ne (Nat.ne_of_beq_eq_false rfl) (px_get_ne (Nat.ne_of_beq_eq_false rfl) (px_get_ne (Nat.ne_of_beq_eq_false rfl) (px_get_ne (Nat.ne_of_beq_eq_false rfl) (px_get_ne (Nat.ne_of_beq_eq_false rfl) (px_get_ne (Nat.ne_of_beq_eq_false rfl) pg_85)))))))))))))))))))))
set_option maxRecDepth 100000 in
theorem pg_439 (a2 a3 a4 : Int32) : (ph_168 a2 a3 a4)[143]? = some (.inr (7, [.int 6, .int 0, .ref 144])) := (px_get_ne (Nat.ne_of_beq_eq_false rfl) (px_get_ne (Nat.ne_of_beq_eq_false rfl) (px_get_ne (Nat.ne_of_beq_eq_false rfl) (px_get_ne (Nat.ne_of_beq_eq_false rfl) (px_get_ne (Nat.ne_of_beq_eq_false rfl) (px_get_ne (Nat.ne_of_beq_eq_false rfl) (px_get_ne (Nat.ne_of_beq_eq_false rfl) (px_get_ne (Nat.ne_of_beq_eq_false rfl) (px_get_ne (Nat.ne_of_beq_eq_false rfl) (px_get_lt (pl_143 a2 a3 a4) (Nat.le_of_ble_eq_true rfl) (px_get_ne (Nat.ne_of_beq_eq_false rfl) (px_get_ne (Nat.ne_of_beq_eq_false rfl) (px_get_ne (Nat.ne_of_beq_eq_false rfl) (px_get_ne (Nat.ne_of_beq_eq_false rfl) (px_get_ne (Nat.ne_of_beq_eq_false rfl) (px_get_ne (Nat.ne_of_beq_eq_false rfl) (px_get_ne (Nat.ne_of_beq_eq_false rfl) (px_get_ne (Nat.ne_of_beq_eq_false rfl) (px_get_ne (Nat.ne_of_beq_eq_false rfl) (px_get_ne (Nat.ne_of_beq_eq_false rfl) (px_get_ne (Nat.ne_of_beq_eq_false rfl) pg_87)))))))))))))))))))))
set_option maxRecDepth 100000 in
theorem pg_440 (a2 a3 a4 : Int32) : (ph_168 a2 a3 a4)[144]? = some (.inl (0, .inl (List.replicate 96 0))) := (px_get_ne (Nat.ne_of_beq_eq_false rfl) (px_get_ne (Nat.ne_of_beq_eq_false rfl) (px_get_ne (Nat.ne_of_beq_eq_false rfl) (px_get_ne (Nat.ne_of_beq_eq_false rfl) (px_get_ne (Nat.ne_of_beq_eq_false rfl) (px_get_ne (Nat.ne_of_beq_eq_false rfl) (px_get_ne (Nat.ne_of_beq_eq_false rfl) (px_get_ne (Nat.ne_of_beq_eq_false rfl) (px_get_ne (Nat.ne_of_beq_eq_false rfl) (px_get_lt (pl_143 a2 a3 a4) (Nat.le_of_ble_eq_true rfl) (px_get_ne (Nat.ne_of_beq_eq_false rfl) (px_get_ne (Nat.ne_of_beq_eq_false rfl) (px_get_ne (Nat.ne_of_beq_eq_false rfl) (px_get_ne (Nat.ne_of_beq_eq_false rfl) (px_get_ne (Nat.ne_of_beq_eq_false rfl) (px_get_ne (Nat.ne_of_beq_eq_false rfl) (px_get_ne (Nat.ne_of_beq_eq_false rfl) (px_get_ne (Nat.ne_of_beq_eq_false rfl) (px_get_ne (Nat.ne_of_beq_eq_false rfl) (px_get_ne (Nat.ne_of_beq_eq_false rfl) (px_get_ne (Nat.ne_of_beq_eq_false rfl) pg_89)))))))))))))))))))))
set_option maxRecDepth 100000 in
theorem pg_441 (a2 a3 a4 : Int32) : (ph_168 a2 a3 a4)[148]? = some (.inl (0, .inl (List.replicate 96 0))) := (px_get_ne (Nat.ne_of_beq_eq_false rfl) (px_get_ne (Nat.ne_of_beq_eq_false rfl) (px_get_ne (Nat.ne_of_beq_eq_false rfl) (px_get_ne (Nat.ne_of_beq_eq_false rfl) (px_get_ne (Nat.ne_of_beq_eq_false rfl) (px_get_ne (Nat.ne_of_beq_eq_false rfl) (px_get_ne (Nat.ne_of_beq_eq_false rfl) (px_get_ne (Nat.ne_of_beq_eq_false rfl) (px_get_ne (Nat.ne_of_beq_eq_false rfl) (px_get_lt (pl_143 a2 a3 a4) (Nat.le_of_ble_eq_true rfl) (px_get_ne (Nat.ne_of_beq_eq_false rfl) (px_get_ne (Nat.ne_of_beq_eq_false rfl) (px_get_ne (Nat.ne_of_beq_eq_false rfl) (px_get_ne (Nat.ne_of_beq_eq_false rfl) (px_get_ne (Nat.ne_of_beq_eq_false rfl) (px_get_ne (Nat.ne_of_beq_eq_false rfl) (px_get_ne (Nat.ne_of_beq_eq_false rfl) (px_get_ne (Nat.ne_of_beq_eq_false rfl) (px_get_ne (Nat.ne_of_beq_eq_false rfl) (px_get_ne (Nat.ne_of_beq_eq_false rfl) (px_get_ne (Nat.ne_of_beq_eq_false rfl) pg_91)))))))))))))))))))))
set_option maxRecDepth 100000 in
theorem pg_442 (a2 a3 a4 : Int32) : (ph_169 a2 a3 a4)[138]? = some (.inr (9, [.int 1, .int 0, .int 0, .ref 139, .ref 140, .ref 141, .ref 143, .ref 145, .ref 147, .ref 149, .ref 150, .int 0, .ref 136])) := (px_get_ne (Nat.ne_of_beq_eq_false rfl) (pg_436 a2 a3 a4))
set_option maxRecDepth 100000 in
theorem pg_443 (a2 a3 a4 : Int32) : (ph_169 a2 a3 a4)[145]? = some (.inr (7, [.int 2, .int 0, .ref 146])) := (px_get_ne (Nat.ne_of_beq_eq_false rfl) (px_get_ne (Nat.ne_of_beq_eq_false rfl) (px_get_ne (Nat.ne_of_beq_eq_false rfl) (px_get_ne (Nat.ne_of_beq_eq_false rfl) (px_get_ne (Nat.ne_of_beq_eq_false rfl) (px_get_ne (Nat.ne_of_beq_eq_false rfl) (px_get_ne (Nat.ne_of_beq_eq_false rfl) (px_get_ne (Nat.ne_of_beq_eq_false rfl) (px_get_ne (Nat.ne_of_beq_eq_false rfl) (px_get_ne (Nat.ne_of_beq_eq_false rfl) (px_get_lt (pl_143 a2 a3 a4) (Nat.le_of_ble_eq_true rfl) (px_get_ne (Nat.ne_of_beq_eq_false rfl) (px_get_ne (Nat.ne_of_beq_eq_false rfl) (px_get_ne (Nat.ne_of_beq_eq_false rfl) (px_get_ne (Nat.ne_of_beq_eq_false rfl) (px_get_ne (Nat.ne_of_beq_eq_false rfl) (px_get_ne (Nat.ne_of_beq_eq_false rfl) (px_get_ne (Nat.ne_of_beq_eq_false rfl) (px_get_ne (Nat.ne_of_beq_eq_false rfl) (px_get_ne (Nat.ne_of_beq_eq_false rfl) (px_get_ne (Nat.ne_of_beq_eq_false rfl) (px_get_ne (Nat.ne_of_beq_eq_false rfl) pg_94))))))))))))))))))))))
set_option maxRecDepth 100000 in
theorem pg_444 (a2 a3 a4 : Int32) : (ph_169 a2 a3 a4)[141]? = some (.inr (7, [.int 6, .int 1, .ref 142])) := (px_get_ne (Nat.ne_of_beq_eq_false rfl) (px_get_ne (Nat.ne_of_beq_eq_false rfl) (px_get_eq (pl_151 a2 a3 a4) (Nat.le_of_ble_eq_true rfl))))
set_option maxRecDepth 100000 in
theorem pg_445 (a2 a3 a4 : Int32) : (ph_169 a2 a3 a4)[142]? = some (.inl (0, .inl ([0] ++ [6] ++ [a2] ++ [a3] ++ [a4] ++ [1] ++ List.replicate 90 0))) := (px_get_ne (Nat.ne_of_beq_eq_false rfl) (px_get_ne (Nat.ne_of_beq_eq_false rfl) (px_get_ne (Nat.ne_of_beq_eq_false rfl) (px_get_eq (pl_150 a2 a3 a4) (Nat.le_of_ble_eq_true rfl)))))
set_option maxRecDepth 100000 in
theorem pg_446 (a2 a3 a4 : Int32) : (ph_169 a2 a3 a4)[136]? = some (.inr (10, [.ref 137, .int 0, .int 0, .ref 138, .ref 151, .long 0])) := (px_get_ne (Nat.ne_of_beq_eq_false rfl) (pg_437 a2 a3 a4))
set_option maxRecDepth 100000 in
theorem pg_447 (a2 a3 a4 : Int32) : (ph_169 a2 a3 a4)[164]? = some (.inl (2, .inr (.inl ([0])))) := (px_get_ne (Nat.ne_of_beq_eq_false rfl) (px_get_ne (Nat.ne_of_beq_eq_false rfl) (px_get_ne (Nat.ne_of_beq_eq_false rfl) (px_get_ne (Nat.ne_of_beq_eq_false rfl) (px_get_ne (Nat.ne_of_beq_eq_false rfl) (px_get_ne (Nat.ne_of_beq_eq_false rfl) (px_get_ne (Nat.ne_of_beq_eq_false rfl) (px_get_ne (Nat.ne_of_beq_eq_false rfl) (px_get_ne (Nat.ne_of_beq_eq_false rfl) (px_get_ne (Nat.ne_of_beq_eq_false rfl) (px_get_lt (pl_143 a2 a3 a4) (Nat.le_of_ble_eq_true rfl) (px_get_eq (pl_142 a2 a3 a4) (Nat.le_of_ble_eq_true rfl)))))))))))))
set_option maxRecDepth 100000 in
theorem pg_448 : ph_170[93]? = some (.inr (2, [.int 0, .int 0, .ref 94, .ref 95, .ref 96, .ref 97, .ref 98])) := (px_get_ne (Nat.ne_of_beq_eq_false rfl) pg_23)
set_option maxRecDepth 100000 in
theorem pl_153 : ph_170.length = 165 := px_len_set pl_0
set_option maxRecDepth 100000 in
theorem pg_449 : ph_171[93]? = some (.inr (2, [.int 1, .int 0, .ref 94, .ref 95, .ref 96, .ref 97, .ref 98])) := (px_get_eq pl_153 (Nat.le_of_ble_eq_true rfl))
set_option maxRecDepth 100000 in
theorem pl_154 : ph_171.length = 165 := px_len_set pl_153
set_option maxRecDepth 100000 in
theorem pg_450 : ph_172[93]? = some (.inr (2, [.int 1, .int 1, .ref 94, .ref 95, .ref 96, .ref 97, .ref 98])) := (px_get_eq pl_154 (Nat.le_of_ble_eq_true rfl))
set_option maxRecDepth 100000 in
theorem pg_451 : ph_172[95]? = some (.inl (1, .inl (List.replicate 48 0))) := (px_get_ne (Nat.ne_of_beq_eq_false rfl) (px_get_ne (Nat.ne_of_beq_eq_false rfl) (px_get_ne (Nat.ne_of_beq_eq_false rfl) pg_29)))
set_option maxRecDepth 100000 in
theorem pg_452 : ph_173[93]? = some (.inr (2, [.int 1, .int 1, .ref 94, .ref 95, .ref 96, .ref 97, .ref 98])) := (px_get_ne (Nat.ne_of_beq_eq_false rfl) pg_450)
set_option maxRecDepth 100000 in
theorem pg_453 : ph_173[96]? = some (.inl (0, .inl (List.replicate 144 0))) := (px_get_ne (Nat.ne_of_beq_eq_false rfl) (px_get_ne (Nat.ne_of_beq_eq_false rfl) (px_get_ne (Nat.ne_of_beq_eq_false rfl) (px_get_ne (Nat.ne_of_beq_eq_false rfl) pg_32))))
set_option maxRecDepth 100000 in
theorem pg_454 (a2 : Int32) : (ph_174 a2)[93]? = some (.inr (2, [.int 1, .int 1, .ref 94, .ref 95, .ref 96, .ref 97, .ref 98])) := (px_get_ne (Nat.ne_of_beq_eq_false rfl) pg_452)
set_option maxRecDepth 100000 in
theorem pl_155 : ph_172.length = 165 := px_len_set pl_154
set_option maxRecDepth 100000 in
theorem pl_156 : ph_173.length = 165 := px_len_set pl_155
set_option maxRecDepth 100000 in
theorem pg_455 (a2 : Int32) : (ph_174 a2)[96]? = some (.inl (0, .inl (List.replicate 126 0 ++ [a2] ++ List.replicate 17 0))) := (px_get_eq pl_156 (Nat.le_of_ble_eq_true rfl))
set_option maxRecDepth 100000 in
theorem pg_456 (a2 a3 : Int32) : (ph_175 a2 a3)[93]? = some (.inr (2, [.int 1, .int 1, .ref 94, .ref 95, .ref 96, .ref 97, .ref 98])) := (px_get_ne (Nat.ne_of_beq_eq_false rfl) (pg_454 a2))
set_option maxRecDepth 100000 in
theorem pl_157 (a2 : Int32) : (ph_174 a2).length = 165 := px_len_set pl_156
set_option maxRecDepth 100000 in
theorem pg_457 (a2 a3 : Int32) : (ph_175 a2 a3)[96]? = some (.inl (0, .inl (List.replicate 126 0 ++ [a2] ++ [a3] ++ List.replicate 16 0))) := (px_get_eq (pl_157 a2) (Nat.le_of_ble_eq_true rfl))
set_option maxRecDepth 100000 in
theorem pg_458 (a2 a3 a4 : Int32) : (ph_176 a2 a3 a4)[93]? = some (.inr (2, [.int 1, .int 1, .ref 94, .ref 95, .ref 96, .ref 97, .ref 98])) := (px_get_ne (Nat.ne_of_beq_eq_false rfl) (pg_456 a2 a3))
set_option maxRecDepth 100000 in
theorem pg_459 (a2 a3 a4 : Int32) : (ph_176 a2 a3 a4)[97]? = some (.inl (0, .inl (List.replicate 8 0))) := (px_get_ne (Nat.ne_of_beq_eq_false rfl) (px_get_ne (Nat.ne_of_beq_eq_false rfl) (px_get_ne (Nat.ne_of_beq_eq_false rfl) (px_get_ne (Nat.ne_of_beq_eq_false rfl) (px_get_ne (Nat.ne_of_beq_eq_false rfl) (px_get_ne (Nat.ne_of_beq_eq_false rfl) (px_get_ne (Nat.ne_of_beq_eq_false rfl) pg_25)))))))
set_option maxRecDepth 100000 in
theorem pg_460 (a2 a3 a4 : Int32) : (ph_176 a2 a3 a4)[98]? = some (.inl (0, .inl (List.replicate 48 0))) := (px_get_ne (Nat.ne_of_beq_eq_false rfl) (px_get_ne (Nat.ne_of_beq_eq_false rfl) (px_get_ne (Nat.ne_of_beq_eq_false rfl) (px_get_ne (Nat.ne_of_beq_eq_false rfl) (px_get_ne (Nat.ne_of_beq_eq_false rfl) (px_get_ne (Nat.ne_of_beq_eq_false rfl) (px_get_ne (Nat.ne_of_beq_eq_false rfl) pg_40)))))))
set_option maxRecDepth 100000 in
theorem pg_461 (a2 a3 a4 : Int32) : (ph_177 a2 a3 a4)[93]? = some (.inr (2, [.int 1, .int 1, .ref 94, .ref 95, .ref 96, .ref 97, .ref 98])) := (px_get_ne (Nat.ne_of_beq_eq_false rfl) (pg_458 a2 a3 a4))
set_option maxRecDepth 100000 in
theorem pg_462 (a2 a3 a4 : Int32) : (ph_177 a2 a3 a4)[97]? = some (.inl (0, .inl (List.replicate 8 0))) := (px_get_ne (Nat.ne_of_beq_eq_false rfl) (pg_459 a2 a3 a4))
set_option maxRecDepth 100000 in
theorem pg_463 (a2 a3 a4 : Int32) : (ph_178 a2 a3 a4)[92]? = some (.inr (5, [.ref 1, .ref 93, .ref 99, .ref 110, .int 0, .ref 111, .ref 112, .ref 113])) := (px_get_ne (Nat.ne_of_beq_eq_false rfl) (px_get_ne (Nat.ne_of_beq_eq_false rfl) (px_get_ne (Nat.ne_of_beq_eq_false rfl) (px_get_ne (Nat.ne_of_beq_eq_false rfl) (px_get_ne (Nat.ne_of_beq_eq_false rfl) (px_get_ne (Nat.ne_of_beq_eq_false rfl) (px_get_ne (Nat.ne_of_beq_eq_false rfl) (px_get_ne (Nat.ne_of_beq_eq_false rfl) (px_get_ne (Nat.ne_of_beq_eq_false rfl) pg_22)))))))))
set_option maxRecDepth 100000 in
theorem pg_464 (a2 a3 a4 : Int32) : (ph_178 a2 a3 a4)[93]? = some (.inr (2, [.int 1, .int 1, .ref 94, .ref 95, .ref 96, .ref 97, .ref 98])) := (px_get_ne (Nat.ne_of_beq_eq_false rfl) (pg_461 a2 a3 a4))
set_option maxRecDepth 100000 in
theorem pg_465 (a2 a3 a4 : Int32) : (ph_178 a2 a3 a4)[94]? = some (.inl (0, .inl (List.replicate 42 (-1) ++ [0] ++ List.replicate 5 (-1)))) := (px_get_ne (Nat.ne_of_beq_eq_false rfl) (px_get_ne (Nat.ne_of_beq_eq_false rfl) (px_get_ne (Nat.ne_of_beq_eq_false rfl) (px_get_ne (Nat.ne_of_beq_eq_false rfl) (px_get_ne (Nat.ne_of_beq_eq_false rfl) (px_get_ne (Nat.ne_of_beq_eq_false rfl) (px_get_ne (Nat.ne_of_beq_eq_false rfl) (px_get_ne (Nat.ne_of_beq_eq_false rfl) (px_get_eq pl_0 (Nat.le_of_ble_eq_true rfl))))))))))
set_option maxRecDepth 100000 in
theorem pg_466 (a2 a3 a4 : Int32) : (ph_178 a2 a3 a4)[95]? = some (.inl (1, .inl (List.replicate 48 0))) := (px_get_ne (Nat.ne_of_beq_eq_false rfl) (px_get_ne (Nat.ne_of_beq_eq_false rfl) (px_get_ne (Nat.ne_of_beq_eq_false rfl) (px_get_ne (Nat.ne_of_beq_eq_false rfl) (px_get_ne (Nat.ne_of_beq_eq_false rfl) (px_get_eq pl_155 (Nat.le_of_ble_eq_true rfl)))))))
set_option maxRecDepth 100000 in
theorem pg_467 (a2 a3 a4 : Int32) : (ph_179 a2 a3 a4)[92]? = some (.inr (5, [.ref 1, .ref 93, .ref 99, .ref 110, .int 0, .ref 111, .ref 112, .ref 113])) := (px_get_ne (Nat.ne_of_beq_eq_false rfl) (pg_463 a2 a3 a4))
set_option maxRecDepth 100000 in
theorem pg_468 (a2 a3 a4 : Int32) : (ph_179 a2 a3 a4)[93]? = some (.inr (2, [.int 1, .int 1, .ref 94, .ref 95, .ref 96, .ref 97, .ref 98])) := (px_get_ne (Nat.ne_of_beq_eq_false rfl) (pg_464 a2 a3 a4))
set_option maxRecDepth 100000 in
theorem pg_469 (a2 a3 a4 : Int32) : (ph_179 a2 a3 a4)[1]? = some (.inl (3, .inr (.inr ([some 2, some 17, some 32, some 47, some 62, some 77])))) := (px_get_ne (Nat.ne_of_beq_eq_false rfl) (px_get_ne (Nat.ne_of_beq_eq_false rfl) (px_get_ne (Nat.ne_of_beq_eq_false rfl) (px_get_ne (Nat.ne_of_beq_eq_false rfl) (px_get_ne (Nat.ne_of_beq_eq_false rfl) (px_get_ne (Nat.ne_of_beq_eq_false rfl) (px_get_ne (Nat.ne_of_beq_eq_false rfl) (px_get_ne (Nat.ne_of_beq_eq_false rfl) (px_get_ne (Nat.ne_of_beq_eq_false rfl) (px_get_ne (Nat.ne_of_beq_eq_false rfl) pg_4))))))))))
set_option maxRecDepth 100000 in
theorem pg_470 (a2 a3 a4 : Int32) : (ph_179 a2 a3 a4)[2]? = some (.inr (4, [.int 0, .int 0, .ref 3, .ref 11])) := (px_get_ne (Nat.ne_of_beq_eq_false rfl) (px_get_ne (Nat.ne_of_beq_eq_false rfl) (px_get_ne (Nat.ne_of_beq_eq_false rfl) (px_get_ne (Nat.ne_of_beq_eq_false rfl) (px_get_ne (Nat.ne_of_beq_eq_false rfl) (px_get_ne (Nat.ne_of_beq_eq_false rfl) (px_get_ne (Nat.ne_of_beq_eq_false rfl) (px_get_ne (Nat.ne_of_beq_eq_false rfl) (px_get_ne (Nat.ne_of_beq_eq_false rfl) (px_get_ne (Nat.ne_of_beq_eq_false rfl) pg_5))))))))))
set_option maxRecDepth 100000 in
theorem pg_471 (a2 a3 a4 : Int32) : (ph_179 a2 a3 a4)[17]? = some (.inr (4, [.int 0, .int 0, .ref 18, .ref 26])) := (px_get_ne (Nat.ne_of_beq_eq_false rfl) (px_get_ne (Nat.ne_of_beq_eq_false rfl) (px_get_ne (Nat.ne_of_beq_eq_false rfl) (px_get_ne (Nat.ne_of_beq_eq_false rfl) (px_get_ne (Nat.ne_of_beq_eq_false rfl) (px_get_ne (Nat.ne_of_beq_eq_false rfl) (px_get_ne (Nat.ne_of_beq_eq_false rfl) (px_get_ne (Nat.ne_of_beq_eq_false rfl) (px_get_ne (Nat.ne_of_beq_eq_false rfl) (px_get_ne (Nat.ne_of_beq_eq_false rfl) pg_52))))))))))
set_option maxRecDepth 100000 in
theorem pg_472 (a2 a3 a4 : Int32) : (ph_179 a2 a3 a4)[32]? = some (.inr (4, [.int 0, .int 0, .ref 33, .ref 41])) := (px_get_ne (Nat.ne_of_beq_eq_false rfl) (px_get_ne (Nat.ne_of_beq_eq_false rfl) (px_get_ne (Nat.ne_of_beq_eq_false rfl) (px_get_ne (Nat.ne_of_beq_eq_false rfl) (px_get_ne (Nat.ne_of_beq_eq_false rfl) (px_get_ne (Nat.ne_of_beq_eq_false rfl) (px_get_ne (Nat.ne_of_beq_eq_false rfl) (px_get_ne (Nat.ne_of_beq_eq_false rfl) (px_get_ne (Nat.ne_of_beq_eq_false rfl) (px_get_ne (Nat.ne_of_beq_eq_false rfl) pg_54))))))))))
set_option maxRecDepth 100000 in
theorem pg_473 (a2 a3 a4 : Int32) : (ph_179 a2 a3 a4)[47]? = some (.inr (4, [.int 0, .int 0, .ref 48, .ref 56])) := (px_get_ne (Nat.ne_of_beq_eq_false rfl) (px_get_ne (Nat.ne_of_beq_eq_false rfl) (px_get_ne (Nat.ne_of_beq_eq_false rfl) (px_get_ne (Nat.ne_of_beq_eq_false rfl) (px_get_ne (Nat.ne_of_beq_eq_false rfl) (px_get_ne (Nat.ne_of_beq_eq_false rfl) (px_get_ne (Nat.ne_of_beq_eq_false rfl) (px_get_ne (Nat.ne_of_beq_eq_false rfl) (px_get_ne (Nat.ne_of_beq_eq_false rfl) (px_get_ne (Nat.ne_of_beq_eq_false rfl) pg_56))))))))))
set_option maxRecDepth 100000 in
theorem pg_474 (a2 a3 a4 : Int32) : (ph_179 a2 a3 a4)[62]? = some (.inr (4, [.int 0, .int 0, .ref 63, .ref 71])) := (px_get_ne (Nat.ne_of_beq_eq_false rfl) (px_get_ne (Nat.ne_of_beq_eq_false rfl) (px_get_ne (Nat.ne_of_beq_eq_false rfl) (px_get_ne (Nat.ne_of_beq_eq_false rfl) (px_get_ne (Nat.ne_of_beq_eq_false rfl) (px_get_ne (Nat.ne_of_beq_eq_false rfl) (px_get_ne (Nat.ne_of_beq_eq_false rfl) (px_get_ne (Nat.ne_of_beq_eq_false rfl) (px_get_ne (Nat.ne_of_beq_eq_false rfl) (px_get_ne (Nat.ne_of_beq_eq_false rfl) pg_58))))))))))
set_option maxRecDepth 100000 in
theorem pg_475 (a2 a3 a4 : Int32) : (ph_179 a2 a3 a4)[77]? = some (.inr (4, [.int 0, .int 0, .ref 78, .ref 86])) := (px_get_ne (Nat.ne_of_beq_eq_false rfl) (px_get_ne (Nat.ne_of_beq_eq_false rfl) (px_get_ne (Nat.ne_of_beq_eq_false rfl) (px_get_ne (Nat.ne_of_beq_eq_false rfl) (px_get_ne (Nat.ne_of_beq_eq_false rfl) (px_get_ne (Nat.ne_of_beq_eq_false rfl) (px_get_ne (Nat.ne_of_beq_eq_false rfl) (px_get_ne (Nat.ne_of_beq_eq_false rfl) (px_get_ne (Nat.ne_of_beq_eq_false rfl) (px_get_ne (Nat.ne_of_beq_eq_false rfl) pg_60))))))))))
set_option maxRecDepth 100000 in
theorem pg_476 (a2 a3 a4 : Int32) : (ph_179 a2 a3 a4)[94]? = some (.inl (0, .inl (List.replicate 42 (-1) ++ [0] ++ List.replicate 5 (-1)))) := (px_get_ne (Nat.ne_of_beq_eq_false rfl) (pg_465 a2 a3 a4))
set_option maxRecDepth 100000 in
theorem pl_158 (a2 a3 : Int32) : (ph_175 a2 a3).length = 165 := px_len_set (pl_157 a2)
set_option maxRecDepth 100000 in
theorem pl_159 (a2 a3 a4 : Int32) : (ph_176 a2 a3 a4).length = 165 := px_len_set (pl_158 a2 a3)
set_option maxRecDepth 100000 in
theorem pl_160 (a2 a3 a4 : Int32) : (ph_177 a2 a3 a4).length = 165 := px_len_set (pl_159 a2 a3 a4)
set_option maxRecDepth 100000 in
theorem pl_161 (a2 a3 a4 : Int32) : (ph_178 a2 a3 a4).length = 165 := px_len_set (pl_160 a2 a3 a4)
set_option maxRecDepth 100000 in
theorem pg_477 (a2 a3 a4 : Int32) : (ph_179 a2 a3 a4)[95]? = some (.inl (1, .inl (List.replicate 42 0 ++ [1] ++ List.replicate 5 0))) := (px_get_eq (pl_161 a2 a3 a4) (Nat.le_of_ble_eq_true rfl))
set_option maxRecDepth 100000 in
theorem pg_478 (a2 a3 a4 : Int32) : (ph_179 a2 a3 a4)[164]? = some (.inl (2, .inr (.inl ([0])))) := (px_get_ne (Nat.ne_of_beq_eq_false rfl) (px_get_ne (Nat.ne_of_beq_eq_false rfl) (px_get_ne (Nat.ne_of_beq_eq_false rfl) (px_get_ne (Nat.ne_of_beq_eq_false rfl) (px_get_ne (Nat.ne_of_beq_eq_false rfl) (px_get_ne (Nat.ne_of_beq_eq_false rfl) (px_get_ne (Nat.ne_of_beq_eq_false rfl) (px_get_ne (Nat.ne_of_beq_eq_false rfl) (px_get_ne (Nat.ne_of_beq_eq_false rfl) (px_get_ne (Nat.ne_of_beq_eq_false rfl) pg_8))))))))))
set_option maxRecDepth 100000 in
theorem pg_479 (a2 a3 a4 : Int32) : (ph_180 a2 a3 a4)[136]? = some (.inr (10, [.ref 137, .int 0, .int 0, .ref 138, .ref 151, .long 0])) := (px_get_ne (Nat.ne_of_beq_eq_false rfl) (px_get_ne (Nat.ne_of_beq_eq_false rfl) (px_get_ne (Nat.ne_of_beq_eq_false rfl) (px_get_ne (Nat.ne_of_beq_eq_false rfl) (px_get_ne (Nat.ne_of_beq_eq_false rfl) (px_get_ne (Nat.ne_of_beq_eq_false rfl) (px_get_ne (Nat.ne_of_beq_eq_false rfl) (px_get_ne (Nat.ne_of_beq_eq_false rfl) (px_get_ne (Nat.ne_of_beq_eq_false rfl) (px_get_ne (Nat.ne_of_beq_eq_false rfl) (px_get_ne (Nat.ne_of_beq_eq_false rfl) pg_1)))))))))))
set_option maxRecDepth 100000 in
theorem pg_480 (a2 a3 a4 : Int32) : (ph_180 a2 a3 a4)[138]? = some (.inr (9, [.int 0, .int 0, .int 0, .ref 139, .ref 140, .ref 141, .ref 143, .ref 145, .ref 147, .ref 149, .ref 150, .int 0, .ref 136])) := (px_get_ne (Nat.ne_of_beq_eq_false rfl) (px_get_ne (Nat.ne_of_beq_eq_false rfl) (px_get_ne (Nat.ne_of_beq_eq_false rfl) (px_get_ne (Nat.ne_of_beq_eq_false rfl) (px_get_ne (Nat.ne_of_beq_eq_false rfl) (px_get_ne (Nat.ne_of_beq_eq_false rfl) (px_get_ne (Nat.ne_of_beq_eq_false rfl) (px_get_ne (Nat.ne_of_beq_eq_false rfl) (px_get_ne (Nat.ne_of_beq_eq_false rfl) (px_get_ne (Nat.ne_of_beq_eq_false rfl) (px_get_ne (Nat.ne_of_beq_eq_false rfl) pg_66)))))))))))
set_option maxRecDepth 100000 in
theorem pg_481 (a2 a3 a4 : Int32) : (ph_180 a2 a3 a4)[141]? = some (.inr (7, [.int 6, .int 0, .ref 142])) := (px_get_ne (Nat.ne_of_beq_eq_false rfl) (px_get_ne (Nat.ne_of_beq_eq_false rfl) (px_get_ne (Nat.ne_of_beq_eq_false rfl) (px_get_ne (Nat.ne_of_beq_eq_false rfl) (px_get_ne (Nat.ne_of_beq_eq_false rfl) (px_get_ne (Nat.ne_of_beq_eq_false rfl) (px_get_ne (Nat.ne_of_beq_eq_false rfl) (px_get_ne (Nat.ne_of_beq_eq_false rfl) (px_get_ne (Nat.ne_of_beq_eq_false rfl) (px_get_ne (Nat.ne_of_beq_eq_false rfl) (px_get_ne (Nat.ne_of_beq_eq_false rfl) pg_68)))))))))))
set_option maxRecDepth 100000 in
theorem pl_162 (a2 a3 a4 : Int32) : (ph_179 a2 a3 a4).length = 165 := px_len_set (pl_161 a2 a3 a4)
set_option maxRecDepth 100000 in
theorem pl_163 (a2 a3 a4 : Int32) : (ph_180 a2 a3 a4).length = 165 := px_len_set (pl_162 a2 a3 a4)
set_option maxRecDepth 100000 in
theorem pg_482 (a2 a3 a4 : Int32) : (ph_181 a2 a3 a4)[138]? = some (.inr (9, [.int 0, .int 0, .int 0, .ref 139, .ref 140, .ref 141, .ref 143, .ref 145, .ref 147, .ref 149, .ref 150, .int 0, .ref 136])) := (px_get_lt (pl_163 a2 a3 a4) (Nat.le_of_ble_eq_true rfl) (pg_480 a2 a3 a4))
set_option maxRecDepth 100000 in
theorem pg_483 (a2 a3 a4 : Int32) : (ph_181 a2 a3 a4)[165]? = some (.inl (0, .inl (List.replicate 6 0))) := (px_get_ge (k := 0) (pl_163 a2 a3 a4) rfl rfl)
set_option maxRecDepth 100000 in
theorem pl_164 (a2 a3 a4 : Int32) : (ph_181 a2 a3 a4).length = 166 := px_len_app (pl_163 a2 a3 a4) rfl
set_option maxRecDepth 100000 in
theorem pg_484 (a2 a3 a4 : Int32) : (ph_182 a2 a3 a4)[165]? = some (.inl (0, .inl (List.replicate 6 0))) := (px_get_eq (pl_164 a2 a3 a4) (Nat.le_of_ble_eq_true rfl))
set_option maxRecDepth 100000 in
theorem pl_165 (a2 a3 a4 : Int32) : (ph_182 a2 a3 a4).length = 166 := px_len_set (pl_164 a2 a3 a4)
set_option maxRecDepth 100000 in
theorem pg_485 (a2 a3 a4 : Int32) : (ph_183 a2 a3 a4)[165]? = some (.inl (0, .inl ([0, 7, 0, 0, 0, 0]))) := (px_get_eq (pl_165 a2 a3 a4) (Nat.le_of_ble_eq_true rfl))
set_option maxRecDepth 100000 in
theorem pl_166 (a2 a3 a4 : Int32) : (ph_183 a2 a3 a4).length = 166 := px_len_set (pl_165 a2 a3 a4)
set_option maxRecDepth 100000 in
theorem pg_486 (a2 a3 a4 : Int32) : (ph_184 a2 a3 a4)[165]? = some (.inl (0, .inl ([0, 7, a2, 0, 0, 0]))) := (px_get_eq (pl_166 a2 a3 a4) (Nat.le_of_ble_eq_true rfl))
set_option maxRecDepth 100000 in
theorem pl_167 (a2 a3 a4 : Int32) : (ph_184 a2 a3 a4).length = 166 := px_len_set (pl_166 a2 a3 a4)
set_option maxRecDepth 100000 in
theorem pg_487 (a2 a3 a4 : Int32) : (ph_185 a2 a3 a4)[165]? = some (.inl (0, .inl ([0, 7, a2, a3, 0, 0]))) := (px_get_eq (pl_167 a2 a3 a4) (Nat.le_of_ble_eq_true rfl))
set_option maxRecDepth 100000 in
theorem pl_168 (a2 a3 a4 : Int32) : (ph_185 a2 a3 a4).length = 166 := px_len_set (pl_167 a2 a3 a4)
set_option maxRecDepth 100000 in
theorem pg_488 (a2 a3 a4 : Int32) : (ph_186 a2 a3 a4)[165]? = some (.inl (0, .inl ([0, 7, a2, a3, a4, 0]))) := (px_get_eq (pl_168 a2 a3 a4) (Nat.le_of_ble_eq_true rfl))
set_option maxRecDepth 100000 in
theorem pg_489 (a2 a3 a4 : Int32) : (ph_187 a2 a3 a4)[141]? = some (.inr (7, [.int 6, .int 0, .ref 142])) := (px_get_ne (Nat.ne_of_beq_eq_false rfl) (px_get_ne (Nat.ne_of_beq_eq_false rfl) (px_get_ne (Nat.ne_of_beq_eq_false rfl) (px_get_ne (Nat.ne_of_beq_eq_false rfl) (px_get_ne (Nat.ne_of_beq_eq_false rfl) (px_get_ne (Nat.ne_of_beq_eq_false rfl) (px_get_lt (pl_163 a2 a3 a4) (Nat.le_of_ble_eq_true rfl) (pg_481 a2 a3 a4))))))))
set_option maxRecDepth 100000 in
theorem pg_490 (a2 a3 a4 : Int32) : (ph_187 a2 a3 a4)[142]? = some (.inl (0, .inl (List.replicate 96 0))) := (px_get_ne (Nat.ne_of_beq_eq_false rfl) (px_get_ne (Nat.ne_of_beq_eq_false rfl) (px_get_ne (Nat.ne_of_beq_eq_false rfl) (px_get_ne (Nat.ne_of_beq_eq_false rfl) (px_get_ne (Nat.ne_of_beq_eq_false rfl) (px_get_ne (Nat.ne_of_beq_eq_false rfl) (px_get_lt (pl_163 a2 a3 a4) (Nat.le_of_ble_eq_true rfl) (px_get_ne (Nat.ne_of_beq_eq_false rfl) (px_get_ne (Nat.ne_of_beq_eq_false rfl) (px_get_ne (Nat.ne_of_beq_eq_false rfl) (px_get_ne (Nat.ne_of_beq_eq_false rfl) (px_get_ne (Nat.ne_of_beq_eq_false rfl) (px_get_ne (Nat.ne_of_beq_eq_false rfl) (px_get_ne (Nat.ne_of_beq_eq_false rfl) (px_get_ne (Nat.ne_of_beq_eq_false rfl) (px_get_ne (Nat.ne_of_beq_eq_false rfl) (px_get_ne (Nat.ne_of_beq_eq_false rfl) (px_get_ne (Nat.ne_of_beq_eq_false rfl) pg_78))))))))))))))))))
set_option maxRecDepth 100000 in
theorem pl_169 (a2 a3 a4 : Int32) : (ph_186 a2 a3 a4).length = 166 := px_len_set (pl_168 a2 a3 a4)
set_option maxRecDepth 100000 in
theorem pg_491 (a2 a3 a4 : Int32) : (ph_187 a2 a3 a4)[165]? = some (.inl (0, .inl ([0, 7, a2, a3, a4, 1]))) := (px_get_eq (pl_169 a2 a3 a4) (Nat.le_of_ble_eq_true rfl))
set_option maxRecDepth 100000 in
theorem pg_492 (a2 a3 a4 : Int32) : (ph_188 a2 a3 a4)[141]? = some (.inr (7, [.int 6, .int 0, .ref 142])) := (px_get_ne (Nat.ne_of_beq_eq_false rfl) (pg_489 a2 a3 a4))
set_option maxRecDepth 100000 in
theorem pg_493 (a2 a3 a4 : Int32) : (ph_189 a2 a3 a4)[138]? = some (.inr (9, [.int 0, .int 0, .int 0, .ref 139, .ref 140, .ref 141, .ref 143, .ref 145, .ref 147, .ref 149, .ref 150, .int 0, .ref 136])) := (px_get_ne (Nat.ne_of_beq_eq_false rfl) (px_get_ne (Nat.ne_of_beq_eq_false rfl) (px_get_ne (Nat.ne_of_beq_eq_false rfl) (px_get_ne (Nat.ne_of_beq_eq_false rfl) (px_get_ne (Nat.ne_of_beq_eq_false rfl) (px_get_ne (Nat.ne_of_beq_eq_false rfl) (px_get_ne (Nat.ne_of_beq_eq_false rfl) (px_get_ne (Nat.ne_of_beq_eq_false rfl) (pg_482 a2 a3 a4)))))))))
set_option maxRecDepth 100000 in
theorem pl_170 (a2 a3 a4 : Int32) : (ph_187 a2 a3 a4).length = 166 := px_len_set (pl_169 a2 a3 a4)
set_option maxRecDepth 100000 in
theorem pl_171 (a2 a3 a4 : Int32) : (ph_188 a2 a3 a4).length = 166 := px_len_set (pl_170 a2 a3 a4)
set_option maxRecDepth 100000 in
theorem pl_172 (a2 a3 a4 : Int32) : (ph_189 a2 a3 a4).length = 166 := px_len_set (pl_171 a2 a3 a4)
set_option maxRecDepth 100000 in
theorem pg_494 (a2 a3 a4 : Int32) : (ph_190 a2 a3 a4)[138]? = some (.inr (9, [.int 1, .int 0, .int 0, .ref 139, .ref 140, .ref 141, .ref 143, .ref 145, .ref 147, .ref 149, .ref 150, .int 0, .ref 136])) := (px_get_eq (pl_172 a2 a3 a4) (Nat.le_of_ble_eq_true rfl))
set_option maxRecDepth 100000 in
theorem pg_495 (a2 a3 a4 : Int32) : (ph_190 a2 a3 a4)[136]? = some (.inr (10, [.ref 137, .int 0, .int 0, .ref 138, .ref 151, .long 0])) := (px_get_ne (Nat.ne_of_beq_eq_false rfl) (px_get_ne (Nat.ne_of_beq_eq_false rfl) (px_get_ne (Nat.ne_of_beq_eq_false rfl) (px_get_ne (Nat.ne_of_beq_eq_false rfl) (px_get_ne (Nat.ne_of_beq_eq_false rfl) (px_get_ne (Nat.ne_of_beq_eq_false rfl) (px_get_ne (Nat.ne_of_beq_eq_false rfl) (px_get_ne (Nat.ne_of_beq_eq_false rfl) (px_get_ne (Nat.ne_of_beq_eq_false rfl) (px_get_lt (pl_163 a2 a3 a4) (Nat.le_of_ble_eq_true rfl) (pg_479 a2 a3 a4)))))))))))
set_option maxRecDepth 100000 in
theorem pg_496 (a2 a3 a4 : Int32) : (ph_190 a2 a3 a4)[147]? = some (.inr (7, [.int 6, .int 0, .ref 148])) := (px_get_ne (Nat.ne_of_beq_eq_false rfl) (px_get_ne (Nat.ne_of_beq_eq_false rfl) (px_get_ne (Nat.ne_of_beq_eq_false rfl) (px_get_ne (Nat.ne_of_beq_eq_false rfl) (px_get_ne (Nat.ne_of_beq_eq_false rfl) (px_get_ne (Nat.ne_of_beq_eq_false rfl) (px_get_ne (Nat.ne_of_beq_eq_false rfl) (px_get_ne (Nat.ne_of_beq_eq_false rfl) (px_get_ne (Nat.ne_of_beq_eq_false rfl) (px_get_lt (pl_163 a2 a3 a4) (Nat.le_of_ble_eq_true rfl) (px_get_ne (Nat.ne_of_beq_eq_false rfl) (px_get_ne (Nat.ne_of_beq_eq_false rfl) (px_get_ne (Nat.ne_of_beq_eq_false rfl) (px_get_ne (Nat.ne_of_beq_eq_false rfl) (px_get_ne (Nat.ne_of_beq_eq_false rfl) (px_get_ne (Nat.ne_of_beq_eq_false rfl) (px_get_ne (Nat.ne_of_beq_eq_false rfl) (px_get_ne (Nat.ne_of_beq_eq_false rfl) (px_get_ne (Nat.ne_of_beq_eq_false rfl) (px_get_ne (Nat.ne_of_beq_eq_false rfl) (px_get_ne (Nat.ne_of_beq_eq_false rfl) pg_85)))))))))))))))))))))
set_option maxRecDepth 100000 in
theorem pg_497 (a2 a3 a4 : Int32) : (ph_190 a2 a3 a4)[143]? = some (.inr (7, [.int 6, .int 0, .ref 144])) := (px_get_ne (Nat.ne_of_beq_eq_false rfl) (px_get_ne (Nat.ne_of_beq_eq_false rfl) (px_get_ne (Nat.ne_of_beq_eq_false rfl) (px_get_ne (Nat.ne_of_beq_eq_false rfl) (px_get_ne (Nat.ne_of_beq_eq_false rfl) (px_get_ne (Nat.ne_of_beq_eq_false rfl) (px_get_ne (Nat.ne_of_beq_eq_false rfl) (px_get_ne (Nat.ne_of_beq_eq_false rfl) (px_get_ne (Nat.ne_of_beq_eq_false rfl) (px_get_lt (pl_163 a2 a3 a4) (Nat.le_of_ble_eq_true rfl) (px_get_ne (Nat.ne_of_beq_eq_false rfl) (px_get_ne (Nat.ne_of_beq_eq_false rfl) (px_get_ne (Nat.ne_of_beq_eq_false rfl) (px_get_ne (Nat.ne_of_beq_eq_false rfl) (px_get_ne (Nat.ne_of_beq_eq_false rfl) (px_get_ne (Nat.ne_of_beq_eq_false rfl) (px_get_ne (Nat.ne_of_beq_eq_false rfl) (px_get_ne (Nat.ne_of_beq_eq_false rfl) (px_get_ne (Nat.ne_of_beq_eq_false rfl) (px_get_ne (Nat.ne_of_beq_eq_false rfl) (px_get_ne (Nat.ne_of_beq_eq_false rfl) pg_87)))))))))))))))))))))
set_option maxRecDepth 100000 in
theorem pg_498 (a2 a3 a4 : Int32) : (ph_190 a2 a3 a4)[144]? = some (.inl (0, .inl (List.replicate 96 0))) := (px_get_ne (Nat.ne_of_beq_eq_false rfl) (px_get_ne (Nat.ne_of_beq_eq_false rfl) (px_get_ne (Nat.ne_of_beq_eq_false rfl) (px_get_ne (Nat.ne_of_beq_eq_false rfl) (px_get_ne (Nat.ne_of_beq_eq_false rfl) (px_get_ne (Nat.ne_of_beq_eq_false rfl) (px_get_ne (Nat.ne_of_beq_eq_false rfl) (px_get_ne (Nat.ne_of_beq_eq_false rfl) (px_get_ne (Nat.ne_of_beq_eq_false rfl) (px_get_lt (pl_163 a2 a3 a4) (Nat.le_of_ble_eq_true rfl) (px_get_ne (Nat.ne_of_beq_eq_false rfl) (px_get_ne (Nat.ne_of_beq_eq_false rfl) (px_get_ne (Nat.ne_of_beq_eq_false rfl) (px_get_ne (Nat.ne_of_beq_eq_false rfl) (px_get_ne (Nat.ne_of_beq_eq_false rfl) (px_get_ne (Nat.ne_of_beq_eq_false rfl) (px_get_ne (Nat.ne_of_beq_eq_false rfl) (px_get_ne (Nat.ne_of_beq_eq_false rfl) (px_get_ne (Nat.ne_of_beq_eq_false rfl) (px_get_ne (Nat.ne_of_beq_eq_false rfl) (px_get_ne (Nat.ne_of_beq_eq_false rfl) pg_89)))))))))))))))))))))
set_option maxRecDepth 100000 in
theorem pg_499 (a2 a3 a4 : Int32) : (ph_190 a2 a3 a4)[148]? = some (.inl (0, .inl (List.replicate 96 0))) := (px_get_ne (Nat.ne_of_beq_eq_false rfl) (px_get_ne (Nat.ne_of_beq_eq_false rfl) (px_get_ne (Nat.ne_of_beq_eq_false rfl) (px_get_ne (Nat.ne_of_beq_eq_false rfl) (px_get_ne (Nat.ne_of_beq_eq_false rfl) (px_get_ne (Nat.ne_of_beq_eq_false rfl) (px_get_ne (Nat.ne_of_beq_eq_false rfl) (px_get_ne (Nat.ne_of_beq_eq_false rfl) (px_get_ne (Nat.ne_of_beq_eq_false rfl) (px_get_lt (pl_163 a2 a3 a4) (Nat.le_of_ble_eq_true rfl) (px_get_ne (Nat.ne_of_beq_eq_false rfl) (px_get_ne (Nat.ne_of_beq_eq_false rfl) (px_get_ne (Nat.ne_of_beq_eq_false rfl) (px_get_ne (Nat.ne_of_beq_eq_false rfl) (px_get_ne (Nat.ne_of_beq_eq_false rfl) (px_get_ne (Nat.ne_of_beq_eq_false rfl) (px_get_ne (Nat.ne_of_beq_eq_false rfl) (px_get_ne (Nat.ne_of_beq_eq_false rfl) (px_get_ne (Nat.ne_of_beq_eq_false rfl) (px_get_ne (Nat.ne_of_beq_eq_false rfl) (px_get_ne (Nat.ne_of_beq_eq_false rfl) pg_91)))))))))))))))))))))
set_option maxRecDepth 100000 in
theorem pg_500 (a2 a3 a4 : Int32) : (ph_191 a2 a3 a4)[138]? = some (.inr (9, [.int 1, .int 0, .int 0, .ref 139, .ref 140, .ref 141, .ref 143, .ref 145, .ref 147, .ref 149, .ref 150, .int 0, .ref 136])) := (px_get_ne (Nat.ne_of_beq_eq_false rfl) (pg_494 a2 a3 a4))
set_option maxRecDepth 100000 in
theorem pg_501 (a2 a3 a4 : Int32) : (ph_191 a2 a3 a4)[145]? = some (.inr (7, [.int 2, .int 0, .ref 146])) := (px_get_ne (Nat.ne_of_beq_eq_false rfl) (px_get_ne (Nat.ne_of_beq_eq_false rfl) (px_get_ne (Nat.ne_of_beq_eq_false rfl) (px_get_ne (Nat.ne_of_beq_eq_false rfl) (px_get_ne (Nat.ne_of_beq_eq_false rfl) (px_get_ne (Nat.ne_of_beq_eq_false rfl) (px_get_ne (Nat.ne_of_beq_eq_false rfl) (px_get_ne (Nat.ne_of_beq_eq_false rfl) (px_get_ne (Nat.ne_of_beq_eq_false rfl) (px_get_ne (Nat.ne_of_beq_eq_false rfl) (px_get_lt (pl_163 a2 a3 a4) (Nat.le_of_ble_eq_true rfl) (px_get_ne (Nat.ne_of_beq_eq_false rfl) (px_get_ne (Nat.ne_of_beq_eq_false rfl) (px_get_ne (Nat.ne_of_beq_eq_false rfl) (px_get_ne (Nat.ne_of_beq_eq_false rfl) (px_get_ne (Nat.ne_of_beq_eq_false rfl) (px_get_ne (Nat.ne_of_beq_eq_false rfl) (px_get_ne (Nat.ne_of_beq_eq_false rfl) (px_get_ne (Nat.ne_of_beq_eq_false rfl) (px_get_ne (Nat.ne_of_beq_eq_false rfl) (px_get_ne (Nat.ne_of_beq_eq_false rfl) (px_get_ne (Nat.ne_of_beq_eq_false rfl) pg_94))))))))))))))))))))))
set_option maxRecDepth 100000 in
theorem pg_502 (a2 a3 a4 : Int32) : (ph_191 a2 a3 a4)[141]? = some (.inr (7, [.int 6, .int 1, .ref 142])) := (px_get_ne (Nat.ne_of_beq_eq_false rfl) (px_get_ne (Nat.ne_of_beq_eq_false rfl) (px_get_eq (pl_171 a2 a3 a4) (Nat.le_of_ble_eq_true rfl))))
set_option maxRecDepth 100000 in
theorem pg_503 (a2 a3 a4 : Int32) : (ph_191 a2 a3 a4)[142]? = some (.inl (0, .inl ([0] ++ [7] ++ [a2] ++ [a3] ++ [a4] ++ [1] ++ List.replicate 90 0))) := (px_get_ne (Nat.ne_of_beq_eq_false rfl) (px_get_ne (Nat.ne_of_beq_eq_false rfl) (px_get_ne (Nat.ne_of_beq_eq_false rfl) (px_get_eq (pl_170 a2 a3 a4) (Nat.le_of_ble_eq_true rfl)))))
set_option maxRecDepth 100000 in
theorem pg_504 (a2 a3 a4 : Int32) : (ph_191 a2 a3 a4)[136]? = some (.inr (10, [.ref 137, .int 0, .int 0, .ref 138, .ref 151, .long 0])) := (px_get_ne (Nat.ne_of_beq_eq_false rfl) (pg_495 a2 a3 a4))
set_option maxRecDepth 100000 in
theorem pg_505 (a2 a3 a4 : Int32) : (ph_191 a2 a3 a4)[164]? = some (.inl (2, .inr (.inl ([0])))) := (px_get_ne (Nat.ne_of_beq_eq_false rfl) (px_get_ne (Nat.ne_of_beq_eq_false rfl) (px_get_ne (Nat.ne_of_beq_eq_false rfl) (px_get_ne (Nat.ne_of_beq_eq_false rfl) (px_get_ne (Nat.ne_of_beq_eq_false rfl) (px_get_ne (Nat.ne_of_beq_eq_false rfl) (px_get_ne (Nat.ne_of_beq_eq_false rfl) (px_get_ne (Nat.ne_of_beq_eq_false rfl) (px_get_ne (Nat.ne_of_beq_eq_false rfl) (px_get_ne (Nat.ne_of_beq_eq_false rfl) (px_get_lt (pl_163 a2 a3 a4) (Nat.le_of_ble_eq_true rfl) (px_get_eq (pl_162 a2 a3 a4) (Nat.le_of_ble_eq_true rfl)))))))))))))
set_option maxRecDepth 100000 in
theorem pg_506 : ph_14[138]? = some (.inr (9, [.int 0, .int 0, .int 0, .ref 139, .ref 140, .ref 141, .ref 143, .ref 145, .ref 147, .ref 149, .ref 150, .int 0, .ref 136])) := (px_get_lt pl_0 (Nat.le_of_ble_eq_true rfl) pg_66)
set_option maxRecDepth 100000 in
theorem pg_507 : ph_14[141]? = some (.inr (7, [.int 6, .int 0, .ref 142])) := (px_get_lt pl_0 (Nat.le_of_ble_eq_true rfl) pg_68)
set_option maxRecDepth 100000 in
theorem pg_508 : ph_192[136]? = some (.inr (10, [.ref 137, .int 0, .int 0, .ref 138, .ref 151, .long 0])) := (px_get_ne (Nat.ne_of_beq_eq_false rfl) pg_1)
set_option maxRecDepth 100000 in
theorem pg_509 : ph_192[138]? = some (.inr (9, [.int 0, .int 0, .int 0, .ref 139, .ref 140, .ref 141, .ref 143, .ref 145, .ref 147, .ref 149, .ref 150, .int 0, .ref 136])) := (px_get_ne (Nat.ne_of_beq_eq_false rfl) pg_66)
set_option maxRecDepth 100000 in
theorem pg_510 : ph_192[143]? = some (.inr (7, [.int 6, .int 0, .ref 144])) := (px_get_ne (Nat.ne_of_beq_eq_false rfl) pg_87)
set_option maxRecDepth 100000 in
theorem pg_511 : ph_192[164]? = some (.inl (2, .inr (.inl ([0])))) := (px_get_eq pl_0 (Nat.le_of_ble_eq_true rfl))
set_option maxRecDepth 100000 in
theorem pg_512 : ph_193[136]? = some (.inr (10, [.ref 137, .int 0, .int 1, .ref 138, .ref 151, .long 0])) := (px_get_eq pl_0 (Nat.le_of_ble_eq_true rfl))
set_option maxRecDepth 100000 in
theorem pg_513 : px_hs[99]? = some (.inr (3, [.ref 100, .ref 101, .ref 102, .ref 103, .ref 104, .ref 105, .ref 106, .ref 107, .ref 108, .ref 109])) := rfl
set_option maxRecDepth 100000 in
theorem pg_514 : px_hs[114]? = some (.inr (5, [.ref 1, .ref 115, .ref 121, .ref 132, .int 0, .ref 133, .ref 134, .ref 135])) := rfl
set_option maxRecDepth 100000 in
theorem pg_515 : px_hs[115]? = some (.inr (2, [.int 0, .int 0, .ref 116, .ref 117, .ref 118, .ref 119, .ref 120])) := rfl
set_option maxRecDepth 100000 in
theorem pg_516 : px_hs[151]? = some (.inr (9, [.int 0, .int 0, .int 0, .ref 152, .ref 153, .ref 154, .ref 156, .ref 158, .ref 160, .ref 162, .ref 163, .int 0, .ref 136])) := rfl
set_option maxRecDepth 100000 in
theorem pg_517 : ph_192[151]? = some (.inr (9, [.int 0, .int 0, .int 0, .ref 152, .ref 153, .ref 154, .ref 156, .ref 158, .ref 160, .ref 162, .ref 163, .int 0, .ref 136])) := (px_get_ne (Nat.ne_of_beq_eq_false rfl) pg_516)
set_option maxRecDepth 100000 in
theorem pg_518 : px_hs[156]? = some (.inr (7, [.int 6, .int 0, .ref 157])) := rfl
set_option maxRecDepth 100000 in
theorem pg_519 : ph_192[156]? = some (.inr (7, [.int 6, .int 0, .ref 157])) := (px_get_ne (Nat.ne_of_beq_eq_false rfl) pg_518)
set_option maxRecDepth 100000 in
theorem pg_520 : px_hs[154]? = some (.inr (7, [.int 6, .int 0, .ref 155])) := rfl
set_option maxRecDepth 100000 in
theorem pg_521 : ph_192[154]? = some (.inr (7, [.int 6, .int 0, .ref 155])) := (px_get_ne (Nat.ne_of_beq_eq_false rfl) pg_520)
set_option maxRecDepth 100000 in
theorem pg_522 : px_hs[116]? = some (.inl (0, .inl (List.replicate 48 (-1)))) := rfl
set_option maxRecDepth 100000 in
theorem pg_523 : ph_195[136]? = some (.inr (10, [.ref 137, .int 0, .int 0, .ref 138, .ref 151, .long 0])) := (px_get_ne (Nat.ne_of_beq_eq_false rfl) pg_1)
set_option maxRecDepth 100000 in
theorem pg_524 : px_hs[121]? = some (.inr (3, [.ref 122, .ref 123, .ref 124, .ref 125, .ref 126, .ref 127, .ref 128, .ref 129, .ref 130, .ref 131])) := rfl
set_option maxRecDepth 100000 in
theorem pg_525 : px_hs[100]? = some (.inl (0, .inl (List.replicate 6 1))) := rfl
set_option maxRecDepth 100000 in
theorem pg_526 : px_hs[122]? = some (.inl (0, .inl (List.replicate 6 1))) := rfl
set_option maxRecDepth 100000 in
theorem pg_527 : px_hs[101]? = some (.inl (0, .inl (List.replicate 1296 0))) := rfl
set_option maxRecDepth 100000 in
theorem pg_528 : px_hs[123]? = some (.inl (0, .inl (List.replicate 1296 0))) := rfl
set_option maxRecDepth 100000 in
theorem pg_529 : px_hs[102]? = some (.inl (0, .inl (List.replicate 6 0))) := rfl
set_option maxRecDepth 100000 in
theorem pg_530 : px_hs[124]? = some (.inl (0, .inl (List.replicate 6 0))) := rfl
set_option maxRecDepth 100000 in
theorem pg_531 : px_hs[103]? = some (.inl (0, .inl (List.replicate 1296 0))) := rfl
set_option maxRecDepth 100000 in
theorem pg_532 : px_hs[125]? = some (.inl (0, .inl (List.replicate 1296 0))) := rfl
set_option maxRecDepth 100000 in
theorem pg_533 : px_hs[105]? = some (.inl (2, .inr (.inl (List.replicate 1296 0)))) := rfl
set_option maxRecDepth 100000 in
theorem pg_534 : px_hs[127]? = some (.inl (2, .inr (.inl (List.replicate 1296 0)))) := rfl
set_option maxRecDepth 100000 in
theorem pg_535 : px_hs[106]? = some (.inl (0, .inl (List.replicate 3888 0))) := rfl
set_option maxRecDepth 100000 in
theorem pg_536 : px_hs[128]? = some (.inl (0, .inl (List.replicate 3888 0))) := rfl
set_option maxRecDepth 100000 in
theorem pg_537 : px_hs[107]? = some (.inl (0, .inl (List.replicate 3888 0))) := rfl
set_option maxRecDepth 100000 in
theorem pg_538 : px_hs[129]? = some (.inl (0, .inl (List.replicate 3888 0))) := rfl
set_option maxRecDepth 100000 in
theorem pg_539 : px_hs[104]? = some (.inl (1, .inl (List.replicate 1296 0))) := rfl
set_option maxRecDepth 100000 in
theorem pg_540 : px_hs[126]? = some (.inl (1, .inl (List.replicate 1296 0))) := rfl
set_option maxRecDepth 100000 in
theorem pg_541 : px_hs[110]? = some (.inl (0, .inl (List.replicate 6 0))) := rfl
set_option maxRecDepth 100000 in
theorem pg_542 : px_hs[132]? = some (.inl (0, .inl (List.replicate 6 0))) := rfl
