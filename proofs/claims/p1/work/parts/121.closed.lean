/-! CLOSED RUNS, BY THE KERNEL -/
set_option maxRecDepth 100000 in
theorem pc_x : px_exe none 2770 pm_X6_init [.ref 0] [.inr (6, [.null, .int 0, .null, .null])] 60 4000 = some (.inl none, px_h0, 135, 27288) := px_ends_s (by decide +kernel)
set_option maxRecDepth 100000 in
theorem pc_m : px_exe none 227 pm_X10_init [.ref 136] (px_h0 ++ [.inr (10, [.null, .int 0, .int 0, .null, .null, .long 0])]) 60 4000 = some (.inl none, px_hm, 27, 738) := px_ends_s (by decide +kernel)
set_option maxRecDepth 100000 in
theorem pc_0 : px_exe none 113 pm_X5_firstWaiting [.ref 92] (px_hs) 60 4000 = some (.inl (some (.int (-1))), px_hs, 0, 0) := px_ends_s (by decide +kernel)
set_option maxRecDepth 100000 in
theorem pc_1 : px_exe none 117 pm_X6_agenda [.ref 0] (px_hs) 60 4000 = some (.inl (some (.int 0)), px_hs, 0, 0) := px_ends_s (by decide +kernel)
set_option maxRecDepth 100000 in
theorem pc_2 : px_exe none 122 pm_X6_nextRule [.ref 0] (px_hs) 60 4000 = some (.inl (some (.int (-1))), px_hs, 0, 0) := px_ends_s (by decide +kernel)
set_option maxRecDepth 100000 in
theorem pc_3 : px_exe none 113 pm_X5_firstWaiting [.ref 114] (px_hs) 60 4000 = some (.inl (some (.int (-1))), px_hs, 0, 0) := px_ends_s (by decide +kernel)
set_option maxRecDepth 100000 in
theorem pc_4 : px_exe none 142 pm_X9_become [.ref 151, .ref 138] (ph_192) 60 4000 = some (.inl none, ph_192, 0, 0) := px_ends_s (by decide +kernel)
set_option maxRecDepth 100000 in
theorem pc_5 : px_exe none 1292 pm_X6_digest [.ref 0] (px_hs) 60 4000 = some (.inl (some (.long 1534238394738462484)), ph_195, 0, 0) := px_ends_s (by decide +kernel)
set_option maxRecDepth 100000 in
theorem pc_6 : px_exe none 437 pm_X10_digest [.ref 136] (ph_195) 60 4000 = some (.inl (some (.long 1534238394738462484)), ph_197, 2, 9) := px_ends_s (by decide +kernel)
set_option maxRecDepth 100000 in
theorem pc_7 : px_exe none 690 pm_X2_become [.ref 115, .ref 93] (px_hs) 60 4000 = some (.inl none, px_hs, 0, 0) := px_ends_s (by decide +kernel)
