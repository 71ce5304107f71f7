/-! WHAT THE TABLES SAY IS SO: by the kernel, over the words of the Statement, each word by its place (wip/gen/words.py) -/
def px_okk (w : Cond) : Bool := match w with
  | .castable _ _ => true
  | .declares _ => true
  | .fieldLinkNest _ _ _ _ _ _ => true
  | .methodLinkNest _ _ _ _ => true
  | _ => false
def px_gw : List Cond := lw_tbl.filter goodWord
def px_nwd : List Cond := lw_tbl.filter px_okk
def px_on (o : Nat) : String := px_rn.getD o ""
def px_ch (k : Nat) : List Cond := match k with
  | 0 => k2_sels lw_privs
  | 1 => tables_1_1
  | 2 => tables_1_2
  | 3 => tables_1_3
  | 4 => tables_1_4
  | 5 => tables_1_5
  | 6 => tables_1_6
  | 7 => tables_1_7
  | _ => []
theorem px_ch_mem {k : Nat} {w : Cond} (h : w ∈ px_ch k) : w ∈ lw_tbl := by
  unfold px_ch at h
  unfold lw_tbl tables_1
  split at h
  · simp only [List.mem_append]; simp only [h, true_or, or_true]
  · simp only [List.mem_append]; simp only [h, true_or, or_true]
  · simp only [List.mem_append]; simp only [h, true_or, or_true]
  · simp only [List.mem_append]; simp only [h, true_or, or_true]
  · simp only [List.mem_append]; simp only [h, true_or, or_true]
  · simp only [List.mem_append]; simp only [h, true_or, or_true]
  · simp only [List.mem_append]; simp only [h, true_or, or_true]
  · simp only [List.mem_append]; simp only [h, true_or, or_true]
  · cases h
def px_at1 (q : Nat × Nat) (w : Cond) : Bool := decide ((px_ch q.1)[q.2]? = some w)
theorem px_at1_s {q : Nat × Nat} {w : Cond} (h : px_at1 q w = true) : w ∈ lw_tbl := px_ch_mem (List.mem_of_getElem? (of_decide_eq_true h))
def px_ats : List (Nat × Nat) → List Cond → Bool
  | [], [] => true
  | q :: ps, w :: ws => px_at1 q w && px_ats ps ws
  | _, _ => false
theorem px_ats_s : ∀ {ps : List (Nat × Nat)} {ws : List Cond}, px_ats ps ws = true → ∀ w ∈ ws, w ∈ lw_tbl
  | [], [], _, _, hw => by cases hw
  | q :: ps, v :: ws, h, w, hw => by
    unfold px_ats at h
    rw [Bool.and_eq_true] at h
    rcases List.mem_cons.mp hw with rfl | hw
    · exact px_at1_s h.1
    · exact px_ats_s h.2 w hw
  | [], _ :: _, h, _, _ => by cases h
  | _ :: _, [], h, _, _ => by cases h
theorem px_good_in {w : Cond} (h : w ∈ lw_tbl) (hg : goodWord w = true) : w ∈ px_gw := List.mem_filter.mpr ⟨h, hg⟩
theorem px_nest_in {w : Cond} (h : w ∈ lw_tbl) (hg : px_okk w = true) : w ∈ px_nwd := List.mem_filter.mpr ⟨h, hg⟩
theorem px_gw_good {ws : List Cond} (h : ∀ w ∈ ws, w ∈ px_gw) : GoodIn px_gw ws := fun w hw => ⟨h w hw, good_of_word (List.mem_filter.mp (h w hw)).2⟩
/-- a table, row by row -/
def px_rows {α : Type} (l : List (List (Nat × α))) (f : Nat → Nat × α → Bool) : Prop := ∀ (o : Nat) (r : List (Nat × α)), l[o]? = some r → r.all (f o) = true
theorem px_tab {α : Type} {f : Nat → Nat × α → Bool} {l : List (List (Nat × α))} (h : px_rows l f) {o i : Nat} {a : α} (ha : px_as2 l o i = some a) : f o (i, a) = true := by
  obtain ⟨r, hr, hm⟩ := px_as2_mem l o i a ha
  exact List.all_eq_true.mp (h o r hr) _ hm
theorem px_rows_of {α : Type} {f : Nat → Nat × α → Bool} {l : List (List (Nat × α))} (n : Nat) (hl : l.length = n) (h : ∀ o, o < n → (l.getD o []).all (f o) = true) : px_rows l f := by
  intro o r hr
  have ho : o < n := by rw [← hl]; exact (List.getElem?_eq_some_iff.mp hr).1
  have := h o ho
  rwa [List.getD_eq_getElem?_getD, hr] at this
def px_wf : List (List (Nat × List (Nat × Nat))) := [
  [(9, [(1, 88)]), (15, [(1, 89)]), (18, [(1, 90)]), (21, [(1, 91)]), (24, [(1, 92)]), (27, [(1, 85)])],
  [(9, [(1, 50)]), (15, [(1, 51)]), (18, [(1, 52)]), (21, [(1, 53)]), (24, [(1, 54)]), (27, [(1, 55)]), (30, [(1, 56)]), (33, [(1, 43)]), (37, [(1, 48)]), (40, [(1, 46)])],
  [(9, [(1, 143)]), (15, [(1, 146)]), (19, [(1, 149)]), (22, [(1, 150)]), (25, [(1, 151)]), (28, [(1, 137)]), (32, [(1, 140)])],
  [(9, [(1, 174)]), (15, [(1, 175)]), (18, [(1, 176)]), (21, [(1, 179)]), (24, [(1, 180)]), (28, [(1, 181)]), (32, [(1, 182)]), (35, [(1, 183)]), (38, [(1, 184)]), (41, [(1, 185)])],
  [(10, [(1, 110)]), (19, [(1, 113)]), (23, [(1, 44)])],
  [(12, [(1, 209)]), (21, [(1, 211)]), (25, [(1, 213)]), (29, [(1, 217)]), (32, [(1, 219)]), (35, [(1, 220)]), (38, [(1, 208)]), (55, [(1, 215)]), (59, [(1, 138)]), (66, [(1, 144)]), (69, [(1, 147)]), (77, [(1, 141)]), (83, [(1, 109)]), (89, [(1, 112)]), (93, [(1, 49)]), (113, [(1, 115)]), (124, [(1, 87)]), (175, [(1, 178)]), (194, [(1, 107)])],
  [(12, [(1, 238)]), (21, [(2, 0)]), (25, [(2, 1)]), (35, [(1, 239)]), (44, [(1, 106)]), (57, [(1, 111)]), (61, [(1, 45)]), (66, [(1, 47)]), (69, [(1, 108)]), (100, [(1, 114)]), (104, [(1, 86)]), (134, [(1, 212)]), (138, [(1, 210)]), (148, [(1, 177)]), (153, [(1, 142)]), (180, [(1, 148)]), (199, [(1, 214)]), (202, [(1, 139)]), (229, [(1, 218)]), (258, [(1, 216)]), (261, [(1, 145)])],
  [(7, [(5, 94)]), (13, [(5, 98)]), (17, [(5, 95)])],
  [(11, [(5, 205)]), (16, [(5, 208)]), (19, [(5, 196)]), (23, [(5, 199)]), (30, [(5, 202)])],
  [(3, [(5, 125)]), (15, [(5, 111)]), (19, [(5, 113)]), (28, [(5, 115)]), (32, [(5, 117)]), (35, [(5, 119)]), (38, [(5, 121)]), (41, [(5, 122)]), (44, [(5, 123)]), (47, [(5, 106)]), (51, [(5, 108)]), (54, [(5, 109)]), (67, [(5, 96)]), (82, [(5, 154)]), (86, [(5, 201)]), (95, [(5, 206)]), (112, [(5, 124)]), (130, [(5, 156)]), (161, [(5, 197)]), (196, [(5, 204)]), (199, [(5, 210)])],
  [(11, [(5, 153)]), (20, [(5, 158)]), (24, [(5, 159)]), (27, [(5, 157)]), (31, [(5, 155)]), (42, [(5, 200)]), (52, [(5, 112)]), (60, [(5, 207)]), (71, [(5, 203)]), (74, [(5, 209)]), (98, [(5, 116)]), (131, [(5, 198)]), (144, [(5, 114)]), (147, [(5, 97)]), (150, [(5, 107)]), (156, [(5, 120)]), (158, [(5, 118)]), (202, [(5, 110)]), (212, [(5, 160)])],
  [],
  [],
  [],
  [],
  []]
def px_wdF (o : Nat) (e : Nat × (Nat × Nat × Bool × Bool)) (q : vw_C) : Cond := bif e.2.2.2.1 then .fieldLinkNest (px_on o) e.1 q.1 (q.2.1 e.2.2.1).2.1 (q.2.1 e.2.2.1).2.2.1 "RuleForgeModel" else .fieldLink (px_on o) e.1 q.1 (q.2.1 e.2.2.1).2.1 (q.2.1 e.2.2.1).2.2.1
def px_okF (o : Nat) (e : Nat × (Nat × Nat × Bool × Bool)) : Bool := match px_cl[e.2.1]?, px_cd[e.2.1]? with
  | some q, some d => Nat.blt e.2.1 11 && Nat.blt e.2.2.1 q.2.2 && decide ((q.2.1 e.2.2.1).1 = q.1) && (e.2.2.2.2 == (q.2.1 e.2.2.1).2.2.2) && decide ((d.2.2[e.2.2.1]?).isSome = true) && decide (parseFieldDescriptor (q.2.1 e.2.2.1).2.2.1 = d.2.2[e.2.2.1]?) && (match px_as2 px_wf o e.1 with
    | some ps => px_ats ps [px_wdF o e q]
    | none => false)
  | _, _ => false
set_option maxRecDepth 100000 in
theorem px_okf_r_0 : (px_fl.getD 0 []).all (px_okF 0) = true := by decide +kernel
set_option maxRecDepth 100000 in
theorem px_okf_r_1 : (px_fl.getD 1 []).all (px_okF 1) = true := by decide +kernel
set_option maxRecDepth 100000 in
theorem px_okf_r_2 : (px_fl.getD 2 []).all (px_okF 2) = true := by decide +kernel
set_option maxRecDepth 100000 in
theorem px_okf_r_3 : (px_fl.getD 3 []).all (px_okF 3) = true := by decide +kernel
set_option maxRecDepth 100000 in
theorem px_okf_r_4 : (px_fl.getD 4 []).all (px_okF 4) = true := by decide +kernel
set_option maxRecDepth 100000 in
theorem px_okf_r_5 : (px_fl.getD 5 []).all (px_okF 5) = true := by decide +kernel
set_option maxRecDepth 100000 in
theorem px_okf_r_6 : (px_fl.getD 6 []).all (px_okF 6) = true := by decide +kernel
set_option maxRecDepth 100000 in
theorem px_okf_r_7 : (px_fl.getD 7 []).all (px_okF 7) = true := by decide +kernel
set_option maxRecDepth 100000 in
theorem px_okf_r_8 : (px_fl.getD 8 []).all (px_okF 8) = true := by decide +kernel
set_option maxRecDepth 100000 in
theorem px_okf_r_9 : (px_fl.getD 9 []).all (px_okF 9) = true := by decide +kernel
set_option maxRecDepth 100000 in
theorem px_okf_r_10 : (px_fl.getD 10 []).all (px_okF 10) = true := by decide +kernel
theorem px_fl_ok : px_rows px_fl px_okF := px_rows_of 16 rfl fun o ho => match o, ho with
  | 0, _ => px_okf_r_0
  | 1, _ => px_okf_r_1
  | 2, _ => px_okf_r_2
  | 3, _ => px_okf_r_3
  | 4, _ => px_okf_r_4
  | 5, _ => px_okf_r_5
  | 6, _ => px_okf_r_6
  | 7, _ => px_okf_r_7
  | 8, _ => px_okf_r_8
  | 9, _ => px_okf_r_9
  | 10, _ => px_okf_r_10
  | 11, _ => rfl
  | 12, _ => rfl
  | 13, _ => rfl
  | 14, _ => rfl
  | 15, _ => rfl
  | n + 16, h => absurd h (by omega)
def px_wc : List (List (Nat × Nat)) := [
  [(1, 93), (1, 95), (1, 97), (1, 99), (1, 101), (1, 103), (1, 80), (1, 4)],
  [(1, 57), (1, 59), (1, 61), (1, 63), (1, 65), (1, 67), (1, 69), (1, 71), (1, 73), (1, 75), (1, 38), (1, 3)],
  [(1, 152), (1, 154), (1, 156), (1, 158), (1, 160), (1, 162), (1, 164), (1, 132), (1, 6)],
  [(1, 186), (1, 188), (1, 190), (1, 192), (1, 194), (1, 196), (1, 198), (1, 200), (1, 202), (1, 204), (1, 169), (1, 7)],
  [(1, 116), (1, 118), (1, 120), (1, 122), (1, 32), (1, 2)],
  [(1, 221), (1, 223), (1, 225), (1, 227), (1, 229), (1, 231), (1, 233), (1, 235), (1, 126), (1, 5)],
  [(2, 2), (2, 4), (2, 6), (2, 8), (1, 23), (1, 1)],
  [(5, 99), (5, 101), (5, 103), (5, 89), (1, 10)],
  [(5, 211), (5, 213), (5, 215), (5, 217), (5, 219), (5, 189), (1, 16)],
  [(5, 126), (5, 128), (5, 130), (5, 132), (5, 134), (5, 136), (5, 138), (5, 140), (5, 142), (5, 144), (5, 146), (5, 148), (5, 150), (5, 83), (1, 9)],
  [(5, 161), (5, 163), (5, 165), (5, 167), (5, 169), (5, 171), (5, 75), (1, 8)]]
def px_okC (ci : Nat) : Bool := match px_cl[ci]?, px_cd[ci]? with
  | some q, some d => decide (d.1 = q.2.2) && decide (d.2.1.length = q.2.2) && decide (d.2.2.length = q.2.2) && decide (q.1 = px_on ci) && (List.range q.2.2).all (fun k => decide ((d.2.2[k]?).isSome = true) && decide (parseFieldDescriptor (q.2.1 k).2.2.1 = d.2.2[k]?) && decide ((d.2.2[k]?).map defaultValue = d.2.1[k]?) && (List.range q.2.2).all (fun j => decide (j = k) || decide ((q.2.1 j).2.1 ≠ (q.2.1 k).2.1))) && px_ats (px_wc.getD ci []) (u_ws q.1 q.2.1 q.2.2 ++ [.instantiable q.1 q.2.2, .initialized q.1]) && (u_ws q.1 q.2.1 q.2.2).all goodWord && d.2.1.all (fun v => match v with | .ref _ => false | _ => true)
  | _, _ => false
set_option maxRecDepth 100000 in
theorem px_okc_0 : px_okC 0 = true := by decide +kernel
set_option maxRecDepth 100000 in
theorem px_okc_1 : px_okC 1 = true := by decide +kernel
set_option maxRecDepth 100000 in
theorem px_okc_2 : px_okC 2 = true := by decide +kernel
set_option maxRecDepth 100000 in
theorem px_okc_3 : px_okC 3 = true := by decide +kernel
set_option maxRecDepth 100000 in
theorem px_okc_4 : px_okC 4 = true := by decide +kernel
set_option maxRecDepth 100000 in
theorem px_okc_5 : px_okC 5 = true := by decide +kernel
set_option maxRecDepth 100000 in
theorem px_okc_6 : px_okC 6 = true := by decide +kernel
set_option maxRecDepth 100000 in
theorem px_okc_7 : px_okC 7 = true := by decide +kernel
set_option maxRecDepth 100000 in
theorem px_okc_8 : px_okC 8 = true := by decide +kernel
set_option maxRecDepth 100000 in
theorem px_okc_9 : px_okC 9 = true := by decide +kernel
set_option maxRecDepth 100000 in
theorem px_okc_10 : px_okC 10 = true := by decide +kernel
theorem px_cl_ok : ∀ ci, ci < 11 → px_okC ci = true := fun ci h => match ci, h with
  | 0, _ => px_okc_0
  | 1, _ => px_okc_1
  | 2, _ => px_okc_2
  | 3, _ => px_okc_3
  | 4, _ => px_okc_4
  | 5, _ => px_okc_5
  | 6, _ => px_okc_6
  | 7, _ => px_okc_7
  | 8, _ => px_okc_8
  | 9, _ => px_okc_9
  | 10, _ => px_okc_10
  | n + 11, h => absurd h (by omega)
def px_wn : List (List (Nat × List (Nat × Nat))) := [
  [],
  [],
  [],
  [],
  [(7, [(1, 37), (1, 3)]), (16, [(1, 79), (1, 4)])],
  [(9, [(1, 131), (1, 6)]), (18, [(1, 168), (1, 7)])],
  [(9, [(1, 30), (1, 2)]), (16, [(1, 125), (1, 5)]), (28, [(2, 196), (1, 14)]), (39, [(3, 24), (1, 15)]), (108, [(3, 52), (1, 17)])],
  [],
  [],
  [(23, [(5, 88), (1, 10)])],
  [(9, [(5, 80), (1, 16)]), (15, [(5, 82), (1, 9)])],
  [],
  [],
  [],
  [(8, [(1, 22), (1, 1)]), (13, [(2, 190), (1, 14)]), (15, [(2, 191), (1, 15)]), (21, [(3, 43), (1, 17)]), (127, [(5, 74), (1, 8)])],
  []]
def px_okN (o : Nat) (e : Nat × (Nat × Bool)) : Bool := match px_cl[e.2.1]?, px_as2 px_wn o e.1 with
  | some q, some ps => px_ats ps [.classLink (px_on o) e.1 q.1, .initialized q.1] && (bif e.2.2 then Nat.ble 11 e.2.1 && Nat.beq q.2.2 0 && Bundle.fit q.1 else Nat.blt e.2.1 11)
  | _, _ => false
set_option maxRecDepth 100000 in
theorem px_okn_r_4 : (px_nw.getD 4 []).all (px_okN 4) = true := by decide +kernel
set_option maxRecDepth 100000 in
theorem px_okn_r_5 : (px_nw.getD 5 []).all (px_okN 5) = true := by decide +kernel
set_option maxRecDepth 100000 in
theorem px_okn_r_6 : (px_nw.getD 6 []).all (px_okN 6) = true := by decide +kernel
set_option maxRecDepth 100000 in
theorem px_okn_r_9 : (px_nw.getD 9 []).all (px_okN 9) = true := by decide +kernel
set_option maxRecDepth 100000 in
theorem px_okn_r_10 : (px_nw.getD 10 []).all (px_okN 10) = true := by decide +kernel
set_option maxRecDepth 100000 in
theorem px_okn_r_14 : (px_nw.getD 14 []).all (px_okN 14) = true := by decide +kernel
theorem px_nw_ok : px_rows px_nw px_okN := px_rows_of 16 rfl fun o ho => match o, ho with
  | 0, _ => rfl
  | 1, _ => rfl
  | 2, _ => rfl
  | 3, _ => rfl
  | 4, _ => px_okn_r_4
  | 5, _ => px_okn_r_5
  | 6, _ => px_okn_r_6
  | 7, _ => rfl
  | 8, _ => rfl
  | 9, _ => px_okn_r_9
  | 10, _ => px_okn_r_10
  | 11, _ => rfl
  | 12, _ => rfl
  | 13, _ => rfl
  | 14, _ => px_okn_r_14
  | 15, _ => rfl
  | n + 16, h => absurd h (by omega)
def px_wa : List (List (Nat × List (Nat × Nat))) := [
  [],
  [],
  [],
  [],
  [],
  [],
  [(9, [(1, 30)])],
  [],
  [],
  [],
  [(9, [(5, 80)])],
  [],
  [],
  [],
  [],
  []]
def px_okA (o : Nat) (e : Nat × Nat) : Bool := match px_tys[e.2]?, px_tec.getD e.2 none, px_as2 px_wa o e.1 with
  | some ty, some ci, some ps => (match px_cl[ci]? with
    | some q => decide (ty = .object q.1) && px_ats ps [.classLink (px_on o) e.1 q.1]
    | none => false)
  | _, _, _ => false
set_option maxRecDepth 100000 in
theorem px_oka_r_6 : (px_an.getD 6 []).all (px_okA 6) = true := by decide +kernel
set_option maxRecDepth 100000 in
theorem px_oka_r_10 : (px_an.getD 10 []).all (px_okA 10) = true := by decide +kernel
theorem px_an_ok : px_rows px_an px_okA := px_rows_of 16 rfl fun o ho => match o, ho with
  | 0, _ => rfl
  | 1, _ => rfl
  | 2, _ => rfl
  | 3, _ => rfl
  | 4, _ => rfl
  | 5, _ => rfl
  | 6, _ => px_oka_r_6
  | 7, _ => rfl
  | 8, _ => rfl
  | 9, _ => rfl
  | 10, _ => px_oka_r_10
  | 11, _ => rfl
  | 12, _ => rfl
  | 13, _ => rfl
  | 14, _ => rfl
  | 15, _ => rfl
  | n + 16, h => absurd h (by omega)
def px_wx : List (List (Nat × List (Nat × Nat))) := [
  [],
  [],
  [],
  [],
  [],
  [],
  [(32, [(1, 11), (2, 218), (2, 227), (2, 231), (2, 234), (2, 236), (2, 219), (2, 220), (1, 28), (1, 29), (2, 221), (2, 226), (2, 232), (3, 12), (2, 208), (3, 13), (2, 210), (3, 14), (2, 212), (2, 222), (2, 224), (2, 214), (3, 8), (3, 9), (3, 11), (2, 214), (2, 239), (3, 0), (3, 1), (3, 2), (2, 200), (3, 2), (3, 3), (3, 4), (3, 5), (2, 202), (3, 5), (3, 6), (3, 7), (3, 8), (2, 204), (2, 238), (2, 197), (2, 198), (2, 205), (2, 206), (2, 207), (2, 209), (2, 211), (2, 213), (2, 217), (2, 216), (2, 215)]), (43, [(1, 11), (2, 218), (2, 227), (2, 231), (2, 234), (2, 236), (2, 219), (2, 220), (1, 28), (1, 29), (2, 221), (2, 226), (2, 232), (3, 12), (2, 208), (3, 13), (2, 210), (3, 14), (2, 212), (2, 222), (2, 224), (2, 214), (3, 8), (3, 9), (3, 11), (2, 214), (3, 35), (3, 36), (3, 37), (3, 2), (2, 200), (3, 2), (3, 3), (3, 4), (3, 5), (2, 202), (3, 5), (3, 6), (3, 7), (3, 8), (2, 204), (3, 34), (3, 25), (3, 26), (3, 27), (2, 229), (3, 28), (3, 29), (3, 30), (3, 31), (2, 217), (2, 216), (3, 32)]), (112, [(1, 11), (2, 218), (2, 227), (2, 231), (2, 234), (2, 236), (2, 219), (2, 220), (1, 28), (1, 29), (2, 221), (2, 226), (2, 232), (3, 12), (2, 208), (3, 13), (2, 210), (3, 14), (2, 212), (2, 222), (2, 224), (2, 214), (3, 8), (3, 9), (3, 11), (2, 214), (3, 63), (3, 64), (3, 65), (3, 2), (2, 200), (3, 2), (3, 3), (3, 4), (3, 5), (2, 202), (3, 5), (3, 6), (3, 7), (3, 8), (2, 204), (3, 62), (3, 53), (3, 54), (3, 55), (2, 230), (3, 56), (3, 57), (3, 58), (3, 59), (2, 217), (2, 216), (3, 60)])],
  [],
  [],
  [],
  [],
  [],
  [],
  [],
  [],
  []]
def px_xn : List String := ["java/lang/RuntimeException", "java/lang/Exception"]
def px_okX (o : Nat) (e : Nat × Nat) : Bool := match px_cl[e.2]?, px_as2 px_wx o e.1 with
  | some q, some ps => px_ats ps (vx_atS (px_on o) e.1 q.1 px_xn) && (vx_atS (px_on o) e.1 q.1 px_xn).all (fun w => (goodWord w || px_okk w) && vx_ot w)
  | _, _ => false
set_option maxRecDepth 100000 in
theorem px_okx_r_6 : (px_xi.getD 6 []).all (px_okX 6) = true := by decide +kernel
theorem px_xi_ok : px_rows px_xi px_okX := px_rows_of 16 rfl fun o ho => match o, ho with
  | 0, _ => rfl
  | 1, _ => rfl
  | 2, _ => rfl
  | 3, _ => rfl
  | 4, _ => rfl
  | 5, _ => rfl
  | 6, _ => px_okx_r_6
  | 7, _ => rfl
  | 8, _ => rfl
  | 9, _ => rfl
  | 10, _ => rfl
  | 11, _ => rfl
  | 12, _ => rfl
  | 13, _ => rfl
  | 14, _ => rfl
  | 15, _ => rfl
  | n + 16, h => absurd h (by omega)
def px_wl : List (List (Nat × List (Nat × Nat))) := [
  [],
  [],
  [],
  [(54, [(2, 82)]), (111, [(3, 217)])],
  [],
  [],
  [(268, [(2, 116)]), (270, [(2, 117)])],
  [],
  [],
  [],
  [(216, [(7, 196)]), (220, [(7, 191)])],
  [],
  [],
  [],
  [],
  []]
def px_okK (o : Nat) (e : Nat × Int64) : Bool := match px_as2 px_wl o e.1 with
  | some ps => px_ats ps [.constantLong (px_on o) e.1 e.2]
  | none => false
set_option maxRecDepth 100000 in
theorem px_okk_r_3 : (px_kl.getD 3 []).all (px_okK 3) = true := by decide +kernel
set_option maxRecDepth 100000 in
theorem px_okk_r_6 : (px_kl.getD 6 []).all (px_okK 6) = true := by decide +kernel
set_option maxRecDepth 100000 in
theorem px_okk_r_10 : (px_kl.getD 10 []).all (px_okK 10) = true := by decide +kernel
theorem px_kl_ok : px_rows px_kl px_okK := px_rows_of 16 rfl fun o ho => match o, ho with
  | 0, _ => rfl
  | 1, _ => rfl
  | 2, _ => rfl
  | 3, _ => px_okk_r_3
  | 4, _ => rfl
  | 5, _ => rfl
  | 6, _ => px_okk_r_6
  | 7, _ => rfl
  | 8, _ => rfl
  | 9, _ => rfl
  | 10, _ => px_okk_r_10
  | 11, _ => rfl
  | 12, _ => rfl
  | 13, _ => rfl
  | 14, _ => rfl
  | 15, _ => rfl
  | n + 16, h => absurd h (by omega)
def px_wi : List (List (Nat × List (Nat × Nat))) := [
  [],
  [],
  [],
  [],
  [],
  [],
  [],
  [],
  [],
  [],
  [(169, [(7, 99)])],
  [],
  [],
  [],
  [],
  []]
def px_okI (o : Nat) (e : Nat × Int32) : Bool := match px_as2 px_wi o e.1 with
  | some ps => px_ats ps [.constant (px_on o) e.1 e.2]
  | none => false
set_option maxRecDepth 100000 in
theorem px_oki_r_10 : (px_ki.getD 10 []).all (px_okI 10) = true := by decide +kernel
theorem px_ki_ok : px_rows px_ki px_okI := px_rows_of 16 rfl fun o ho => match o, ho with
  | 0, _ => rfl
  | 1, _ => rfl
  | 2, _ => rfl
  | 3, _ => rfl
  | 4, _ => rfl
  | 5, _ => rfl
  | 6, _ => rfl
  | 7, _ => rfl
  | 8, _ => rfl
  | 9, _ => rfl
  | 10, _ => px_oki_r_10
  | 11, _ => rfl
  | 12, _ => rfl
  | 13, _ => rfl
  | 14, _ => rfl
  | 15, _ => rfl
  | n + 16, h => absurd h (by omega)
def px_wm : List (List (Nat × Nat)) := [
  [(1, 83), (1, 4)],
  [(3, 121), (1, 4)],
  [(3, 134), (1, 4)],
  [(4, 106), (1, 4)],
  [(4, 120), (1, 4)],
  [(4, 98), (1, 4)],
  [(3, 139), (1, 4)],
  [(2, 137), (1, 4)],
  [(4, 114), (1, 4)],
  [(1, 41), (1, 3)],
  [(3, 76), (1, 3)],
  [(3, 102), (1, 3)],
  [(3, 106), (1, 3)],
  [(2, 129), (1, 3)],
  [(2, 141), (1, 3)],
  [(3, 170), (1, 3)],
  [(4, 83), (1, 3)],
  [(3, 174), (1, 3)],
  [(2, 133), (1, 3)],
  [(3, 190), (1, 3)],
  [(3, 194), (1, 3)],
  [(3, 198), (1, 3)],
  [(4, 170), (1, 3)],
  [(4, 175), (1, 3)],
  [(1, 135), (1, 6)],
  [(5, 43), (1, 6)],
  [(2, 30), (1, 6)],
  [(2, 38), (1, 6)],
  [(2, 165), (1, 6)],
  [(3, 178), (1, 6)],
  [(3, 186), (1, 6)],
  [(2, 42), (1, 6)],
  [(2, 173), (1, 6)],
  [(4, 26), (1, 6)],
  [(4, 17), (1, 6)],
  [(4, 22), (1, 6)],
  [(3, 235), (1, 6)],
  [(1, 172), (1, 7)],
  [(5, 50), (1, 7)],
  [(2, 54), (1, 7)],
  [(2, 61), (1, 7)],
  [(2, 58), (1, 7)],
  [(4, 110), (1, 7)],
  [(4, 89), (1, 7)],
  [(2, 81), (1, 7)],
  [(3, 163), (1, 7)],
  [(3, 159), (1, 7)],
  [(3, 166), (1, 7)],
  [(3, 182), (1, 7)],
  [(3, 205), (1, 7)],
  [(3, 212), (1, 7)],
  [(2, 111), (1, 7)],
  [(2, 160), (1, 7)],
  [(4, 124), (1, 7)],
  [(2, 185), (1, 7)],
  [(2, 94), (1, 7)],
  [(1, 35), (1, 2)],
  [(2, 125), (1, 2)],
  [(1, 129), (1, 5)],
  [(5, 39), (1, 5)],
  [(4, 13), (1, 5)],
  [(4, 53), (1, 5)],
  [(3, 239), (1, 5)],
  [(3, 230), (1, 5)],
  [(4, 68), (1, 5)],
  [(4, 73), (1, 5)],
  [(4, 94), (1, 5)],
  [(4, 102), (1, 5)],
  [(2, 50), (1, 5)],
  [(2, 69), (1, 5)],
  [(2, 73), (1, 5)],
  [(2, 77), (1, 5)],
  [(2, 90), (1, 5)],
  [(4, 78), (1, 5)],
  [(2, 107), (1, 5)],
  [(2, 177), (1, 5)],
  [(2, 181), (1, 5)],
  [(2, 148), (1, 5)],
  [(2, 152), (1, 5)],
  [(2, 156), (1, 5)],
  [(1, 26), (1, 1)],
  [(2, 195), (1, 1)],
  [(3, 47), (1, 1)],
  [(3, 83), (1, 1)],
  [(3, 116), (1, 1)],
  [(3, 128), (1, 1)],
  [(3, 146), (1, 1)],
  [(3, 154), (1, 1)],
  [(3, 224), (1, 1)],
  [(4, 8), (1, 1)],
  [(4, 36), (1, 1)],
  [(4, 49), (1, 1)],
  [(4, 60), (1, 1)],
  [(2, 14), (1, 1)],
  [(4, 131), (1, 1)],
  [(4, 138), (1, 1)],
  [(4, 145), (1, 1)],
  [(4, 152), (1, 1)],
  [(4, 159), (1, 1)],
  [(4, 166), (1, 1)],
  [(4, 182), (1, 1)],
  [(2, 18), (1, 1)],
  [(2, 22), (1, 1)],
  [(2, 26), (1, 1)],
  [(2, 34), (1, 1)],
  [(4, 189), (1, 1)],
  [(4, 196), (1, 1)],
  [(4, 204), (1, 1)],
  [(4, 211), (1, 1)],
  [(4, 218), (1, 1)],
  [(4, 225), (1, 1)],
  [(4, 232), (1, 1)],
  [(4, 239), (1, 1)],
  [(5, 6), (1, 1)],
  [(5, 19), (1, 1)],
  [(5, 26), (1, 1)],
  [(2, 46), (1, 1)],
  [(2, 65), (1, 1)],
  [(2, 86), (1, 1)],
  [(2, 99), (1, 1)],
  [(2, 103), (1, 1)],
  [(5, 35), (1, 1)],
  [(5, 59), (1, 1)],
  [(5, 66), (1, 1)],
  [(5, 73), (1, 1)],
  [(2, 115), (1, 1)],
  [(2, 121), (1, 1)],
  [(2, 169), (1, 1)],
  [(3, 51), (1, 1)],
  [(3, 86), (1, 1)],
  [(4, 40), (1, 1)],
  [(5, 10), (1, 1)],
  [(4, 63), (1, 1)],
  [(3, 70), (1, 1)],
  [(3, 90), (1, 1)],
  [(3, 96), (1, 1)],
  [(3, 93), (1, 1)],
  [(5, 92), (1, 10)],
  [(6, 69), (1, 10)],
  [(6, 61), (1, 10)],
  [(6, 144), (1, 10)],
  [(6, 115), (1, 10)],
  [(6, 103), (1, 10)],
  [(5, 192), (1, 16)],
  [(5, 233), (1, 16)],
  [(6, 32), (1, 16)],
  [(6, 28), (1, 16)],
  [(7, 8), (1, 16)],
  [(5, 86), (1, 9)],
  [(7, 174), (1, 9)],
  [(6, 107), (1, 9)],
  [(6, 136), (1, 9)],
  [(6, 140), (1, 9)],
  [(6, 94), (1, 9)],
  [(6, 90), (1, 9)],
  [(6, 86), (1, 9)],
  [(6, 44), (1, 9)],
  [(6, 48), (1, 9)],
  [(6, 57), (1, 9)],
  [(6, 53), (1, 9)],
  [(6, 65), (1, 9)],
  [(6, 40), (1, 9)],
  [(6, 111), (1, 9)],
  [(6, 119), (1, 9)],
  [(6, 36), (1, 9)],
  [(6, 148), (1, 9)],
  [(6, 165), (1, 9)],
  [(6, 186), (1, 9)],
  [(6, 182), (1, 9)],
  [(6, 178), (1, 9)],
  [(7, 141), (1, 9)],
  [(6, 228), (1, 9)],
  [(6, 174), (1, 9)],
  [(6, 224), (1, 9)],
  [(6, 236), (1, 9)],
  [(7, 4), (1, 9)],
  [(5, 78), (1, 8)],
  [(5, 177), (1, 8)],
  [(5, 188), (1, 8)],
  [(5, 184), (1, 8)],
  [(5, 229), (1, 8)],
  [(6, 1), (1, 8)],
  [(6, 4), (1, 8)],
  [(5, 181), (1, 8)],
  [(5, 225), (1, 8)],
  [(5, 237), (1, 8)],
  [(6, 12), (1, 8)],
  [(6, 8), (1, 8)],
  [(6, 16), (1, 8)],
  [(6, 20), (1, 8)],
  [(6, 24), (1, 8)],
  [(6, 128), (1, 8)],
  [(6, 132), (1, 8)],
  [(6, 152), (1, 8)],
  [(6, 161), (1, 8)],
  [(6, 170), (1, 8)],
  [(7, 13), (1, 8)],
  [(7, 21), (1, 8)],
  [(7, 17), (1, 8)],
  [(7, 25), (1, 8)],
  [(7, 29), (1, 8)],
  [(7, 33), (1, 8)],
  [(7, 37), (1, 8)],
  [(7, 41), (1, 8)],
  [(7, 48), (1, 8)],
  [(6, 156), (1, 8)],
  [(7, 52), (1, 8)],
  [(7, 56), (1, 8)],
  [(7, 60), (1, 8)],
  [(7, 64), (1, 8)],
  [(7, 68), (1, 8)],
  [(7, 72), (1, 8)],
  [(7, 76), (1, 8)],
  [(7, 80), (1, 8)],
  [(7, 89), (1, 8)],
  [(7, 85), (1, 8)],
  [(7, 98), (1, 8)],
  [(7, 104), (1, 8)],
  [(7, 94), (1, 8)],
  [(7, 112), (1, 8)],
  [(7, 108), (1, 8)],
  [(6, 123), (1, 8)],
  [(7, 116), (1, 8)],
  [(7, 124), (1, 8)],
  [(7, 120), (1, 8)],
  [(7, 128), (1, 8)],
  [(7, 132), (1, 8)],
  [(7, 137), (1, 8)],
  [(7, 149), (1, 8)],
  [(7, 145), (1, 8)],
  [(7, 154), (1, 8)],
  [(7, 158), (1, 8)],
  [(7, 162), (1, 8)],
  [(7, 170), (1, 8)],
  [(7, 166), (1, 8)],
  [(7, 178), (1, 8)],
  [(7, 182), (1, 8)],
  [(7, 186), (1, 8)],
  [(7, 195), (1, 8)],
  [(7, 200), (1, 8)],
  [(7, 190), (1, 8)],
  [(2, 189), (1, 0), (2, 190), (2, 198), (2, 191), (3, 26)],
  [(3, 42), (1, 0), (3, 43), (3, 54), (2, 190), (2, 198), (2, 191), (3, 26)],
  [(3, 79), (1, 0), (3, 43), (3, 54), (2, 190), (2, 198), (2, 191), (3, 26)],
  [(3, 112), (1, 0), (3, 43), (3, 54), (2, 190), (2, 198), (2, 191), (3, 26)],
  [(3, 124), (1, 0), (3, 43), (3, 54), (2, 190), (2, 198), (2, 191), (3, 26)],
  [(3, 142), (1, 0), (3, 43), (3, 54), (2, 190), (2, 198), (2, 191), (3, 26)],
  [(3, 150), (1, 0), (3, 43), (3, 54), (2, 191), (3, 26)],
  [(3, 220), (1, 0), (3, 43), (3, 54), (2, 191), (3, 26)],
  [(4, 4), (1, 0), (2, 190), (2, 198), (2, 191), (3, 26)],
  [(4, 32), (1, 0), (3, 43), (3, 54), (2, 191), (3, 26)],
  [(4, 45), (1, 0), (3, 43), (3, 54)],
  [(4, 56), (1, 0), (2, 190), (2, 198)],
  [(4, 127), (1, 0), (3, 43), (3, 54)],
  [(4, 134), (1, 0), (3, 43), (3, 54)],
  [(4, 141), (1, 0), (3, 43), (3, 54)],
  [(4, 148), (1, 0), (3, 43), (3, 54)],
  [(4, 155), (1, 0), (3, 43), (3, 54)],
  [(4, 162), (1, 0), (3, 43), (3, 54)],
  [(4, 178), (1, 0), (3, 43), (3, 54)],
  [(4, 185), (1, 0), (3, 43), (3, 54)],
  [(4, 192), (1, 0), (3, 43), (3, 54)],
  [(4, 200), (1, 0), (3, 43), (3, 54)],
  [(4, 207), (1, 0), (3, 43), (3, 54)],
  [(4, 214), (1, 0), (3, 43), (3, 54)],
  [(4, 221), (1, 0), (3, 43), (3, 54)],
  [(4, 228), (1, 0), (3, 43), (3, 54)],
  [(4, 235), (1, 0), (3, 43), (3, 54)],
  [(5, 2), (1, 0), (3, 43), (3, 54)],
  [(5, 15), (1, 0), (3, 43), (3, 54)],
  [(5, 22), (1, 0), (3, 43), (3, 54)],
  [(5, 31), (1, 0), (2, 190), (2, 198)],
  [(5, 55), (1, 0), (2, 190), (2, 198)],
  [(5, 62), (1, 0), (3, 43), (3, 54)],
  [(5, 69), (1, 0), (2, 190), (2, 198)]]
def px_tb (M : px_M) : List (Nat × Nat × Nat × Nat) := (px_hh M).map fun q => (q.1, q.2.1, q.2.2.1, px_xp q.2.2.2)
def px_cwd (M : px_M) : Cond := bif (px_hh M).isEmpty then .code (px_y M) (px_cc M) (px_ml M) (px_rt M) else .codeWith (px_y M) (px_cc M) (px_ml M) (px_rt M) (px_tb M)
def px_hws (M : px_M) : List Cond := (px_hh M).flatMap fun q => match px_cl[q.2.2.2]? with
  | some r => [.classLink (px_on (px_own M)) (px_xp q.2.2.2) r.1, .castable r.1 r.1]
  | none => []
def px_okM (M : px_M) (ps : List (Nat × Nat)) : Bool := px_ats ps ([px_cwd M, .initialized (px_y M).cls] ++ px_hws M) && plainName (px_y M).cls && decide ((px_y M).cls ≠ "java/lang/invoke/MethodHandle") && decide ((px_y M).cls ≠ "java/lang/invoke/VarHandle") && decide ((parseMethodDescriptor (px_y M).desc).map (fun d => d.parameters.length) = some (px_na M)) && decide ((px_y M).cls = px_on (px_own M)) && (!px_ini M || (decide ((px_y M).name = "<init>") && decide (px_rt M = none) && (px_hh M).isEmpty)) && (px_hh M).all (fun q => px_isX q.2.2.2 && !Nat.beq (px_xp q.2.2.2) 0)
def px_okD (M : px_M) : Bool := (px_is M).all fun r => r.all fun e => decide (decode (px_cc M) e.1 = .ok (e.2.1, e.2.2))
theorem px_step_all {α : Type} {f : α → Bool} {l : List α} (k n : Nat) (h1 : ((l.drop k).take n).all f = true) (h2 : (l.drop (k + n)).all f = true) : (l.drop k).all f = true := by
  rw [← List.take_append_drop n (l.drop k), List.all_append, h1, List.drop_drop, h2]
  rfl
set_option maxRecDepth 100000 in
theorem px_mtm_0 : (((px_mt.zip px_wm).drop 0).take 10).all (fun q => px_okM q.1 q.2) = true := by decide +kernel
set_option maxRecDepth 100000 in
theorem px_mtm_10 : (((px_mt.zip px_wm).drop 10).take 10).all (fun q => px_okM q.1 q.2) = true := by decide +kernel
set_option maxRecDepth 100000 in
theorem px_mtm_20 : (((px_mt.zip px_wm).drop 20).take 10).all (fun q => px_okM q.1 q.2) = true := by decide +kernel
set_option maxRecDepth 100000 in
theorem px_mtm_30 : (((px_mt.zip px_wm).drop 30).take 10).all (fun q => px_okM q.1 q.2) = true := by decide +kernel
set_option maxRecDepth 100000 in
theorem px_mtm_40 : (((px_mt.zip px_wm).drop 40).take 10).all (fun q => px_okM q.1 q.2) = true := by decide +kernel
set_option maxRecDepth 100000 in
theorem px_mtm_50 : (((px_mt.zip px_wm).drop 50).take 10).all (fun q => px_okM q.1 q.2) = true := by decide +kernel
set_option maxRecDepth 100000 in
theorem px_mtm_60 : (((px_mt.zip px_wm).drop 60).take 10).all (fun q => px_okM q.1 q.2) = true := by decide +kernel
set_option maxRecDepth 100000 in
theorem px_mtm_70 : (((px_mt.zip px_wm).drop 70).take 10).all (fun q => px_okM q.1 q.2) = true := by decide +kernel
set_option maxRecDepth 100000 in
theorem px_mtm_80 : (((px_mt.zip px_wm).drop 80).take 10).all (fun q => px_okM q.1 q.2) = true := by decide +kernel
set_option maxRecDepth 100000 in
theorem px_mtm_90 : (((px_mt.zip px_wm).drop 90).take 10).all (fun q => px_okM q.1 q.2) = true := by decide +kernel
set_option maxRecDepth 100000 in
theorem px_mtm_100 : (((px_mt.zip px_wm).drop 100).take 10).all (fun q => px_okM q.1 q.2) = true := by decide +kernel
set_option maxRecDepth 100000 in
theorem px_mtm_110 : (((px_mt.zip px_wm).drop 110).take 10).all (fun q => px_okM q.1 q.2) = true := by decide +kernel
set_option maxRecDepth 100000 in
theorem px_mtm_120 : (((px_mt.zip px_wm).drop 120).take 10).all (fun q => px_okM q.1 q.2) = true := by decide +kernel
set_option maxRecDepth 100000 in
theorem px_mtm_130 : (((px_mt.zip px_wm).drop 130).take 10).all (fun q => px_okM q.1 q.2) = true := by decide +kernel
set_option maxRecDepth 100000 in
theorem px_mtm_140 : (((px_mt.zip px_wm).drop 140).take 10).all (fun q => px_okM q.1 q.2) = true := by decide +kernel
set_option maxRecDepth 100000 in
theorem px_mtm_150 : (((px_mt.zip px_wm).drop 150).take 10).all (fun q => px_okM q.1 q.2) = true := by decide +kernel
set_option maxRecDepth 100000 in
theorem px_mtm_160 : (((px_mt.zip px_wm).drop 160).take 10).all (fun q => px_okM q.1 q.2) = true := by decide +kernel
set_option maxRecDepth 100000 in
theorem px_mtm_170 : (((px_mt.zip px_wm).drop 170).take 10).all (fun q => px_okM q.1 q.2) = true := by decide +kernel
set_option maxRecDepth 100000 in
theorem px_mtm_180 : (((px_mt.zip px_wm).drop 180).take 10).all (fun q => px_okM q.1 q.2) = true := by decide +kernel
set_option maxRecDepth 100000 in
theorem px_mtm_190 : (((px_mt.zip px_wm).drop 190).take 10).all (fun q => px_okM q.1 q.2) = true := by decide +kernel
set_option maxRecDepth 100000 in
theorem px_mtm_200 : (((px_mt.zip px_wm).drop 200).take 10).all (fun q => px_okM q.1 q.2) = true := by decide +kernel
set_option maxRecDepth 100000 in
theorem px_mtm_210 : (((px_mt.zip px_wm).drop 210).take 10).all (fun q => px_okM q.1 q.2) = true := by decide +kernel
set_option maxRecDepth 100000 in
theorem px_mtm_220 : (((px_mt.zip px_wm).drop 220).take 10).all (fun q => px_okM q.1 q.2) = true := by decide +kernel
set_option maxRecDepth 100000 in
theorem px_mtm_230 : (((px_mt.zip px_wm).drop 230).take 10).all (fun q => px_okM q.1 q.2) = true := by decide +kernel
set_option maxRecDepth 100000 in
theorem px_mtm_240 : (((px_mt.zip px_wm).drop 240).take 10).all (fun q => px_okM q.1 q.2) = true := by decide +kernel
set_option maxRecDepth 100000 in
theorem px_mtm_250 : (((px_mt.zip px_wm).drop 250).take 10).all (fun q => px_okM q.1 q.2) = true := by decide +kernel
set_option maxRecDepth 100000 in
theorem px_mtm_260 : (((px_mt.zip px_wm).drop 260).take 10).all (fun q => px_okM q.1 q.2) = true := by decide +kernel
set_option maxRecDepth 100000 in
theorem px_mtm_270 : (((px_mt.zip px_wm).drop 270).take 10).all (fun q => px_okM q.1 q.2) = true := by decide +kernel
theorem px_mt_ok0 : ((px_mt.zip px_wm).drop 0).all (fun q => px_okM q.1 q.2) = true :=
  px_step_all 0 10 px_mtm_0 (px_step_all 10 10 px_mtm_10 (px_step_all 20 10 px_mtm_20 (px_step_all 30 10 px_mtm_30 (px_step_all 40 10 px_mtm_40 (px_step_all 50 10 px_mtm_50 (px_step_all 60 10 px_mtm_60 (px_step_all 70 10 px_mtm_70 (px_step_all 80 10 px_mtm_80 (px_step_all 90 10 px_mtm_90 (px_step_all 100 10 px_mtm_100 (px_step_all 110 10 px_mtm_110 (px_step_all 120 10 px_mtm_120 (px_step_all 130 10 px_mtm_130 (px_step_all 140 10 px_mtm_140 (px_step_all 150 10 px_mtm_150 (px_step_all 160 10 px_mtm_160 (px_step_all 170 10 px_mtm_170 (px_step_all 180 10 px_mtm_180 (px_step_all 190 10 px_mtm_190 (px_step_all 200 10 px_mtm_200 (px_step_all 210 10 px_mtm_210 (px_step_all 220 10 px_mtm_220 (px_step_all 230 10 px_mtm_230 (px_step_all 240 10 px_mtm_240 (px_step_all 250 10 px_mtm_250 (px_step_all 260 10 px_mtm_260 (px_step_all 270 10 px_mtm_270 (by decide +kernel))))))))))))))))))))))))))))
theorem px_zip_all {α β : Type} {f : α × β → Bool} {l : List α} {w : List β} (hl : l.length = w.length) (h : ((l.zip w).drop 0).all f = true) {k : Nat} {a : α} (hk : l[k]? = some a) : ∃ b, f (a, b) = true := by
  rw [List.drop_zero] at h
  have hlt := (List.getElem?_eq_some_iff.mp hk).1
  have h2 : (l.zip w)[k]? = some (a, w[k]'(by omega)) := List.getElem?_zip_eq_some.mpr ⟨hk, List.getElem?_eq_getElem _⟩
  exact ⟨_, List.all_eq_true.mp h _ (List.mem_of_getElem? h2)⟩
theorem px_mt_len : px_mt.length = px_wm.length := by decide +kernel
theorem px_mt_ok {k : Nat} {M : px_M} (h : px_mt[k]? = some M) : ∃ ps, px_okM M ps = true := px_zip_all (f := fun q => px_okM q.1 q.2) px_mt_len px_mt_ok0 h
theorem px_awI : Cond.arrayClass .int ∈ lw_tbl := px_at1_s (q := (1, 78)) (by decide +kernel)
theorem px_awZ : Cond.arrayClass .boolean ∈ lw_tbl := px_at1_s (q := (1, 167)) (by decide +kernel)
theorem px_awJ : Cond.arrayClass .long ∈ lw_tbl := px_at1_s (q := (1, 207)) (by decide +kernel)
def px_wq : List (List (Nat × List (Nat × Nat))) := [
  [(3, [(1, 84), (1, 28), (1, 29)]), (31, [(2, 138), (2, 139), (2, 140)]), (37, [(2, 142), (2, 131), (2, 132)])],
  [(3, [(1, 42), (1, 28), (1, 29)]), (43, [(3, 103), (3, 105), (0, 8)]), (52, [(2, 130), (2, 131), (2, 132)]), (56, [(4, 84), (3, 168), (3, 169)]), (59, [(3, 191), (2, 171), (2, 172)]), (65, [(3, 192), (3, 193)]), (69, [(3, 199), (3, 176), (3, 177)]), (72, [(3, 200), (3, 184), (3, 185)]), (75, [(3, 201), (3, 188), (3, 189)]), (79, [(4, 171), (3, 172), (3, 173)]), (82, [(4, 172), (4, 174), (0, 18)])],
  [(3, [(1, 136), (1, 28), (1, 29)]), (35, [(5, 44), (5, 46), (5, 45), (1, 20)]), (41, [(4, 18), (2, 36), (2, 37)]), (45, [(4, 19), (4, 21), (0, 12)]), (48, [(4, 23), (4, 25), (0, 13)]), (52, [(4, 27), (3, 176), (3, 177)])],
  [(3, [(1, 173), (1, 28), (1, 29)]), (44, [(5, 51), (5, 46), (5, 45), (1, 20)]), (50, [(2, 59), (2, 60)]), (56, [(3, 160), (3, 161), (3, 162)]), (60, [(3, 164), (3, 165)]), (64, [(3, 179), (3, 181), (0, 9)]), (68, [(3, 195), (3, 196), (3, 197)]), (74, [(3, 202), (3, 204), (0, 10)]), (78, [(3, 167), (3, 168), (3, 169)]), (82, [(3, 171), (3, 172), (3, 173)]), (85, [(3, 175), (3, 176), (3, 177)]), (90, [(3, 183), (3, 184), (3, 185)]), (94, [(3, 187), (3, 188), (3, 189)]), (102, [(3, 209), (3, 211), (0, 11)]), (105, [(3, 213), (2, 40), (2, 41)]), (113, [(2, 186), (2, 92), (2, 93)])],
  [(1, [(1, 36), (1, 28), (1, 29)]), (9, [(1, 39), (1, 40)]), (18, [(1, 81), (1, 82)]), (27, [(2, 126), (2, 127), (2, 128)]), (31, [(2, 134), (2, 135), (2, 136)])],
  [(3, [(1, 130), (1, 28), (1, 29)]), (11, [(1, 133), (1, 134)]), (20, [(1, 170), (1, 171)]), (42, [(5, 40), (5, 41), (5, 42)]), (46, [(5, 47), (5, 48), (5, 49)]), (49, [(5, 52), (5, 46), (5, 45), (1, 20)]), (62, [(4, 14), (4, 15), (4, 16)]), (73, [(4, 28), (3, 237), (3, 238)]), (80, [(3, 232), (3, 233), (3, 234)]), (98, [(4, 0), (3, 157), (3, 158)]), (102, [(4, 1), (3, 228), (3, 229)]), (106, [(3, 231), (2, 175), (2, 176)]), (110, [(4, 69), (2, 67), (2, 68)]), (117, [(4, 70), (4, 72), (0, 15)]), (121, [(4, 86), (4, 87), (4, 88)]), (129, [(4, 90), (3, 132), (3, 133)]), (133, [(4, 91), (4, 93), (0, 16)]), (137, [(4, 99), (4, 101), (0, 17)]), (141, [(4, 74), (2, 88), (2, 89)]), (145, [(4, 75), (4, 76), (4, 77)]), (149, [(4, 95), (4, 96), (4, 97)]), (152, [(4, 80), (4, 81), (4, 82)]), (155, [(2, 161), (2, 28), (2, 29)]), (158, [(4, 103), (4, 104), (4, 105)]), (161, [(4, 107), (4, 108), (4, 109)]), (164, [(4, 111), (4, 112), (4, 113)]), (168, [(4, 117), (4, 118), (4, 119)]), (171, [(4, 121), (4, 122), (4, 123)]), (177, [(2, 51), (2, 52), (2, 53)]), (180, [(2, 55), (2, 56), (2, 57)]), (183, [(2, 70), (2, 72), (0, 0)]), (187, [(2, 74), (2, 76), (0, 1)]), (190, [(2, 78), (2, 79), (2, 80)]), (197, [(2, 91), (2, 92), (2, 93)]), (200, [(2, 95), (2, 40), (2, 41)]), (203, [(4, 79), (2, 131), (2, 132)]), (206, [(4, 85), (2, 171), (2, 172)]), (209, [(2, 108), (2, 109), (2, 110)]), (212, [(2, 182), (2, 183), (2, 184)]), (215, [(2, 149), (2, 151), (0, 3)]), (218, [(2, 153), (2, 155), (0, 4)]), (221, [(2, 157), (2, 158), (2, 159)])],
  [(3, [(1, 27), (1, 28), (1, 29)]), (11, [(1, 33), (1, 34)]), (18, [(1, 127), (1, 128)]), (47, [(3, 48), (3, 50), (0, 7)]), (51, [(3, 68), (3, 69)]), (75, [(3, 73), (3, 74), (3, 75)]), (79, [(3, 84), (3, 85)]), (83, [(3, 88), (3, 89)]), (86, [(3, 91), (3, 92)]), (94, [(3, 99), (3, 100), (3, 101)]), (107, [(3, 118), (3, 119), (3, 120)]), (113, [(3, 94), (3, 95)]), (118, [(3, 131), (3, 132), (3, 133)]), (123, [(3, 136), (3, 137), (3, 138)]), (128, [(2, 122), (2, 123), (2, 124)]), (142, [(3, 156), (3, 157), (3, 158)]), (158, [(3, 226), (3, 161), (3, 162)]), (162, [(3, 227), (3, 228), (3, 229)]), (166, [(3, 236), (3, 237), (3, 238)]), (171, [(4, 10), (4, 11), (4, 12)]), (176, [(4, 37), (4, 39), (0, 14)]), (186, [(4, 50), (4, 51), (4, 52)]), (189, [(4, 61), (4, 62)]), (192, [(4, 65), (4, 66), (4, 67)]), (195, [(4, 167), (4, 168), (4, 169)]), (205, [(2, 27), (2, 28), (2, 29)]), (208, [(2, 35), (2, 36), (2, 37)]), (211, [(2, 39), (2, 40), (2, 41)]), (216, [(2, 170), (2, 171), (2, 172)]), (220, [(2, 104), (2, 105), (2, 106)]), (223, [(2, 174), (2, 175), (2, 176)]), (226, [(2, 145), (2, 146), (2, 147)]), (232, [(2, 178), (2, 179), (2, 180)]), (235, [(5, 7), (5, 9), (0, 19)]), (240, [(2, 87), (2, 88), (2, 89)]), (243, [(2, 144), (2, 56), (2, 57)]), (248, [(5, 28), (4, 76), (4, 77)]), (252, [(2, 47), (2, 48), (2, 49)]), (255, [(2, 66), (2, 67), (2, 68)]), (264, [(5, 36), (5, 37), (5, 38)]), (272, [(2, 118), (2, 120), (0, 2)]), (276, [(2, 162), (2, 163), (2, 164)]), (279, [(2, 166), (2, 168), (0, 5)]), (282, [(2, 143), (2, 52), (2, 53)])],
  [(1, [(5, 93), (1, 28), (1, 29)]), (26, [(6, 82), (5, 46), (5, 45), (1, 20)])],
  [(3, [(5, 193), (1, 28), (1, 29)]), (26, [(6, 29), (6, 31), (0, 24)])],
  [(9, [(5, 87), (1, 28), (1, 29)]), (25, [(5, 90), (5, 91)]), (57, [(6, 49), (5, 46), (5, 45), (1, 20)]), (63, [(6, 100), (6, 101), (6, 102)]), (70, [(6, 58), (6, 59), (6, 60)]), (74, [(6, 91), (6, 93), (0, 33)]), (78, [(6, 87), (6, 89), (0, 32)]), (91, [(6, 45), (6, 47), (0, 27)]), (99, [(6, 83), (6, 85), (0, 31)]), (103, [(6, 41), (6, 43), (0, 26)]), (115, [(6, 50), (6, 52), (0, 28)]), (119, [(6, 62), (6, 64), (0, 30)]), (122, [(6, 66), (6, 67), (6, 68)]), (126, [(6, 54), (6, 56), (0, 29)]), (133, [(6, 37), (6, 39), (0, 25)]), (136, [(6, 104), (6, 105), (6, 106)]), (140, [(6, 108), (6, 110), (0, 34)]), (143, [(6, 112), (6, 113), (6, 114)]), (146, [(6, 116), (6, 117), (6, 118)]), (148, [(6, 166), (6, 34), (6, 35)]), (164, [(6, 183), (6, 185), (0, 38)]), (173, [(6, 179), (6, 181), (0, 37)]), (183, [(6, 175), (6, 176), (6, 177)]), (186, [(6, 221), (6, 223), (0, 39)]), (189, [(6, 225), (6, 226), (6, 227)]), (192, [(6, 232), (6, 142), (6, 143)]), (202, [(6, 233), (6, 235), (0, 40)]), (206, [(7, 5), (7, 6), (7, 7)]), (209, [(7, 9), (6, 163), (6, 164)]), (215, [(6, 238), (6, 134), (6, 135)]), (219, [(6, 239), (6, 138), (6, 139)]), (222, [(7, 0), (6, 146), (6, 147)]), (225, [(7, 1), (7, 3), (0, 41)])],
  [(1, [(5, 79), (1, 28), (1, 29)]), (17, [(5, 84), (5, 85)]), (34, [(5, 182), (5, 183)]), (38, [(5, 226), (5, 228), (0, 21)]), (45, [(5, 185), (5, 187), (0, 20)]), (49, [(5, 190), (5, 191)]), (56, [(5, 230), (5, 231), (5, 232)]), (64, [(5, 238), (6, 0), (0, 22)]), (68, [(6, 2), (6, 3)]), (77, [(6, 9), (6, 11), (0, 23)]), (81, [(6, 25), (6, 26), (6, 27)]), (85, [(6, 33), (6, 34), (6, 35)]), (88, [(6, 120), (6, 122), (0, 35)]), (91, [(6, 133), (6, 134), (6, 135)]), (95, [(6, 137), (6, 138), (6, 139)]), (102, [(6, 141), (6, 142), (6, 143)]), (108, [(6, 124), (6, 59), (6, 60)]), (112, [(6, 145), (6, 146), (6, 147)]), (116, [(6, 153), (6, 155), (0, 36)]), (119, [(6, 157), (6, 105), (6, 106)]), (122, [(6, 162), (6, 163), (6, 164)]), (125, [(6, 171), (6, 172), (6, 173)]), (128, [(7, 18), (7, 20), (0, 42)]), (140, []), (153, [(7, 81), (6, 117), (6, 118)]), (161, []), (164, [(7, 86), (7, 88), (0, 43)]), (175, [(7, 95), (7, 97), (0, 44)]), (179, [(7, 101), (7, 103), (0, 45)]), (183, [(7, 109), (7, 111), (0, 46)]), (186, [(7, 121), (7, 123), (0, 47)]), (189, [(7, 133), (6, 226), (6, 227)]), (193, [(7, 138), (7, 139), (7, 140)]), (196, [(7, 150), (6, 176), (6, 177)]), (199, [(7, 146), (7, 148), (0, 48)]), (205, [(7, 171), (7, 172), (7, 173)]), (209, [(7, 167), (7, 169), (0, 49)]), (218, [(7, 192), (7, 194), (0, 50)]), (222, [(7, 197), (7, 199), (0, 51)])],
  [],
  [],
  [],
  [(7, [(2, 192), (2, 193), (2, 194)]), (17, [(3, 44), (3, 45), (3, 46)]), (23, [(3, 80), (3, 81), (3, 82)]), (27, [(3, 113), (3, 114), (3, 115)]), (31, [(3, 125), (3, 126), (3, 127)]), (34, [(3, 143), (3, 144), (3, 145)]), (38, [(3, 151), (3, 152), (3, 153)]), (41, [(3, 221), (3, 222), (3, 223)]), (44, [(4, 5), (4, 6), (4, 7)]), (47, [(4, 33), (4, 34), (4, 35)]), (50, [(4, 46), (4, 47), (4, 48)]), (53, [(4, 57), (4, 58), (4, 59)]), (56, [(4, 128), (4, 129), (4, 130)]), (60, [(4, 135), (4, 136), (4, 137)]), (63, [(4, 142), (4, 143), (4, 144)]), (66, [(4, 149), (4, 150), (4, 151)]), (69, [(4, 156), (4, 157), (4, 158)]), (72, [(4, 163), (4, 164), (4, 165)]), (75, [(4, 179), (4, 180), (4, 181)]), (78, [(4, 186), (4, 187), (4, 188)]), (81, [(4, 193), (4, 194), (4, 195)]), (84, [(4, 201), (4, 202), (4, 203)]), (87, [(4, 208), (4, 209), (4, 210)]), (90, [(4, 215), (4, 216), (4, 217)]), (93, [(4, 222), (4, 223), (4, 224)]), (96, [(4, 229), (4, 230), (4, 231)]), (99, [(4, 236), (4, 237), (4, 238)]), (102, [(5, 3), (5, 4), (5, 5)]), (106, [(5, 16), (5, 17), (5, 18)]), (110, [(5, 23), (5, 24), (5, 25)]), (113, [(5, 32), (5, 33), (5, 34)]), (116, [(5, 56), (5, 57), (5, 58)]), (119, [(5, 63), (5, 64), (5, 65)]), (122, [(5, 70), (5, 71), (5, 72)]), (126, [(1, 24), (1, 25)]), (129, [(5, 76), (5, 77)]), (130, [(2, 187), (2, 188)]), (135, [(5, 178), (5, 179), (5, 180)]), (136, [(5, 174), (5, 175), (5, 176)]), (140, [(3, 40), (3, 41)]), (143, [(5, 222), (5, 223), (5, 224)]), (144, [(3, 77), (3, 78)]), (147, [(5, 234), (5, 235), (5, 236)]), (148, [(3, 110), (3, 111)]), (151, [(6, 5), (6, 6), (6, 7)]), (152, [(3, 122), (3, 123)]), (154, [(6, 13), (6, 14), (6, 15)]), (155, [(3, 140), (3, 141)]), (158, [(6, 17), (6, 18), (6, 19)]), (159, [(3, 148), (3, 149)]), (161, [(6, 21), (6, 22), (6, 23)]), (162, [(3, 218), (3, 219)]), (164, [(6, 125), (6, 126), (6, 127)]), (165, [(4, 2), (4, 3)]), (167, [(6, 129), (6, 130), (6, 131)]), (168, [(4, 30), (4, 31)]), (170, [(6, 149), (6, 150), (6, 151)]), (171, [(4, 43), (4, 44)]), (173, [(6, 158), (6, 159), (6, 160)]), (174, [(4, 54), (4, 55)]), (176, [(6, 167), (6, 168), (6, 169)]), (177, [(2, 11), (2, 12), (2, 13)]), (180, [(7, 10), (7, 11), (7, 12)]), (181, [(4, 125), (4, 126)]), (183, [(7, 14), (7, 15), (7, 16)]), (184, [(4, 132), (4, 133)]), (186, [(7, 22), (7, 23), (7, 24)]), (187, [(4, 139), (4, 140)]), (189, [(7, 26), (7, 27), (7, 28)]), (190, [(4, 146), (4, 147)]), (192, [(7, 30), (7, 31), (7, 32)]), (193, [(4, 153), (4, 154)]), (195, [(7, 34), (7, 35), (7, 36)]), (196, [(4, 160), (4, 161)]), (198, [(7, 38), (7, 39), (7, 40)]), (199, [(4, 176), (4, 177)]), (201, [(7, 45), (7, 46), (7, 47)]), (202, [(2, 15), (2, 16), (2, 17)]), (205, [(7, 49), (7, 50), (7, 51)]), (206, [(2, 19), (2, 20), (2, 21)]), (209, [(7, 53), (7, 54), (7, 55)]), (210, [(2, 23), (2, 24), (2, 25)]), (213, [(7, 57), (7, 58), (7, 59)]), (214, [(2, 31), (2, 32), (2, 33)]), (217, [(7, 61), (7, 62), (7, 63)]), (218, [(4, 183), (4, 184)]), (220, [(7, 65), (7, 66), (7, 67)]), (221, [(4, 190), (4, 191)]), (223, [(7, 69), (7, 70), (7, 71)]), (224, [(4, 198), (4, 199)]), (226, [(7, 73), (7, 74), (7, 75)]), (227, [(4, 205), (4, 206)]), (229, [(7, 77), (7, 78), (7, 79)]), (230, [(4, 212), (4, 213)]), (232, [(7, 82), (7, 83), (7, 84)]), (233, [(4, 219), (4, 220)]), (235, [(7, 91), (7, 92), (7, 93)]), (236, [(4, 226), (4, 227)]), (238, [(7, 105), (7, 106), (7, 107)]), (239, [(4, 233), (4, 234)]), (241, [(7, 113), (7, 114), (7, 115)]), (242, [(5, 0), (5, 1)]), (245, [(7, 117), (7, 118), (7, 119)]), (246, [(5, 13), (5, 14)]), (248, [(7, 125), (7, 126), (7, 127)]), (249, [(5, 20), (5, 21)]), (251, [(7, 129), (7, 130), (7, 131)]), (252, [(2, 43), (2, 44), (2, 45)]), (255, [(7, 134), (7, 135), (7, 136)]), (256, [(2, 62), (2, 63), (2, 64)]), (259, [(7, 142), (7, 143), (7, 144)]), (260, [(2, 83), (2, 84), (2, 85)]), (263, [(7, 151), (7, 152), (7, 153)]), (264, [(2, 96), (2, 97), (2, 98)]), (267, [(7, 155), (7, 156), (7, 157)]), (268, [(2, 100), (2, 101), (2, 102)]), (272, [(7, 159), (7, 160), (7, 161)]), (273, [(5, 29), (5, 30)]), (275, [(7, 163), (7, 164), (7, 165)]), (276, [(5, 53), (5, 54)]), (278, [(7, 175), (7, 176), (7, 177)]), (279, [(5, 60), (5, 61)]), (281, [(7, 179), (7, 180), (7, 181)]), (282, [(5, 67), (5, 68)]), (284, [(7, 183), (7, 184), (7, 185)]), (285, [(2, 112), (2, 113), (2, 114)]), (289, [(7, 187), (7, 188), (7, 189)])],
  [(150, [(6, 81), (5, 46), (5, 45), (1, 20)])]]
noncomputable def px_okL (o : Nat) (e : Nat × (Nat × Nat)) : Bool := match px_as2 px_wq o e.1 with
  | some ps => (match e.2.1 with
    | 0 => px_ats ps [.methodLink (px_on o) e.1 objectInit, .instanceMethod objectInit, .code objectInit ⟨#[0xb1]⟩ 1 none]
    | 7 => px_ats ps [.methodLink (px_on o) e.1 arraycopyName, .native arraycopyName, .static arraycopyName, .initialized "java/lang/System"]
    | 2 => true
    | k => (match px_mt[e.2.2]? with
      | some N => (match k with
        | 1 => px_ats ps [.methodLink (px_on o) e.1 (px_y N), .instanceMethod (px_y N), .selects (px_y N).cls (px_y N) (px_y N)] && (px_hh N).isEmpty
        | 3 => px_ats ps [.methodLink (px_on o) e.1 (px_y N), .static (px_y N)] && (px_hh N).isEmpty
        | 4 => px_ats ps [.methodLink (px_on o) e.1 (px_y N), .static (px_y N)] && !(px_hh N).isEmpty
        | 5 => px_ats ps [.methodLink (px_on o) e.1 (px_y N), .instanceMethod (px_y N)] && px_ini N
        | 6 => px_ats ps [.methodLinkNest (px_on o) e.1 (px_y N) (px_host (px_own N)), .instanceMethod (px_y N)] && px_ini N
        | _ => false)
      | none => false))
  | none => false
set_option maxRecDepth 100000 in
theorem px_okl_r_0 : (px_mi.getD 0 []).all (px_okL 0) = true := by decide +kernel
set_option maxRecDepth 100000 in
theorem px_okl_r_1 : (px_mi.getD 1 []).all (px_okL 1) = true := by decide +kernel
set_option maxRecDepth 100000 in
theorem px_okl_r_2 : (px_mi.getD 2 []).all (px_okL 2) = true := by decide +kernel
set_option maxRecDepth 100000 in
theorem px_okl_r_3 : (px_mi.getD 3 []).all (px_okL 3) = true := by decide +kernel
set_option maxRecDepth 100000 in
theorem px_okl_r_4 : (px_mi.getD 4 []).all (px_okL 4) = true := by decide +kernel
set_option maxRecDepth 100000 in
theorem px_okl_r_5 : (px_mi.getD 5 []).all (px_okL 5) = true := by decide +kernel
set_option maxRecDepth 100000 in
theorem px_okl_r_6 : (px_mi.getD 6 []).all (px_okL 6) = true := by decide +kernel
set_option maxRecDepth 100000 in
theorem px_okl_r_7 : (px_mi.getD 7 []).all (px_okL 7) = true := by decide +kernel
set_option maxRecDepth 100000 in
theorem px_okl_r_8 : (px_mi.getD 8 []).all (px_okL 8) = true := by decide +kernel
set_option maxRecDepth 100000 in
theorem px_okl_r_9 : (px_mi.getD 9 []).all (px_okL 9) = true := by decide +kernel
set_option maxRecDepth 100000 in
theorem px_okl_r_10 : (px_mi.getD 10 []).all (px_okL 10) = true := by decide +kernel
set_option maxRecDepth 100000 in
theorem px_okl_r_14 : (px_mi.getD 14 []).all (px_okL 14) = true := by decide +kernel
set_option maxRecDepth 100000 in
theorem px_okl_r_15 : (px_mi.getD 15 []).all (px_okL 15) = true := by decide +kernel
theorem px_mi_ok : px_rows px_mi px_okL := px_rows_of 16 rfl fun o ho => match o, ho with
  | 0, _ => px_okl_r_0
  | 1, _ => px_okl_r_1
  | 2, _ => px_okl_r_2
  | 3, _ => px_okl_r_3
  | 4, _ => px_okl_r_4
  | 5, _ => px_okl_r_5
  | 6, _ => px_okl_r_6
  | 7, _ => px_okl_r_7
  | 8, _ => px_okl_r_8
  | 9, _ => px_okl_r_9
  | 10, _ => px_okl_r_10
  | 11, _ => rfl
  | 12, _ => rfl
  | 13, _ => rfl
  | 14, _ => px_okl_r_14
  | 15, _ => px_okl_r_15
  | n + 16, h => absurd h (by omega)
