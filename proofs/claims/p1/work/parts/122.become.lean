set_option maxRecDepth 100000 in
theorem pc_3 : px_exe none 17623 pm_X5_become [.ref 114, .ref 92] (px_hs) 60 4000 = some (.inl none, px_hs, 0, 0) := sorry
