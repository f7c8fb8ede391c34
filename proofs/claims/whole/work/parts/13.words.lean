/-! THE TABLES' WORDS, a row each -/
theorem hf_t1 {w : Cond} (h : w ∈ tables_1_1) (hg : goodWord w = true) : w ∈ hf_all := List.mem_filter.mpr ⟨List.mem_append_right _ (List.mem_append_left _ h), hg⟩
theorem hf_t2 {w : Cond} (h : w ∈ tables_1_2) (hg : goodWord w = true) : w ∈ hf_all := List.mem_filter.mpr ⟨List.mem_append_right _ (List.mem_append_right _ (List.mem_append_left _ h)), hg⟩
theorem hf_t3 {w : Cond} (h : w ∈ tables_1_3) (hg : goodWord w = true) : w ∈ hf_all := List.mem_filter.mpr ⟨List.mem_append_right _ (List.mem_append_right _ (List.mem_append_right _ (List.mem_append_left _ h))), hg⟩
theorem hf_t4 {w : Cond} (h : w ∈ tables_1_4) (hg : goodWord w = true) : w ∈ hf_all := List.mem_filter.mpr ⟨List.mem_append_right _ (List.mem_append_right _ (List.mem_append_right _ (List.mem_append_right _ (List.mem_append_left _ h)))), hg⟩
theorem hf_t5 {w : Cond} (h : w ∈ tables_1_5) (hg : goodWord w = true) : w ∈ hf_all := List.mem_filter.mpr ⟨List.mem_append_right _ (List.mem_append_right _ (List.mem_append_right _ (List.mem_append_right _ (List.mem_append_right _ (List.mem_append_left _ h))))), hg⟩
theorem hf_t6 {w : Cond} (h : w ∈ tables_1_6) (hg : goodWord w = true) : w ∈ hf_all := List.mem_filter.mpr ⟨List.mem_append_right _ (List.mem_append_right _ (List.mem_append_right _ (List.mem_append_right _ (List.mem_append_right _ (List.mem_append_right _ (List.mem_append_left _ h)))))), hg⟩
theorem hf_t7 {w : Cond} (h : w ∈ tables_1_7) (hg : goodWord w = true) : w ∈ hf_all := List.mem_filter.mpr ⟨List.mem_append_right _ (List.mem_append_right _ (List.mem_append_right _ (List.mem_append_right _ (List.mem_append_right _ (List.mem_append_right _ (List.mem_append_right _ (List.mem_append_left _ h))))))), hg⟩
theorem hf_t8 {w : Cond} (h : w ∈ tables_1_8) (hg : goodWord w = true) : w ∈ hf_all := List.mem_filter.mpr ⟨List.mem_append_right _ (List.mem_append_right _ (List.mem_append_right _ (List.mem_append_right _ (List.mem_append_right _ (List.mem_append_right _ (List.mem_append_right _ (List.mem_append_right _ h))))))), hg⟩
theorem hf_t0 {w : Cond} (h : w ∈ k2_sels lw_privs) (hg : goodWord w = true) : w ∈ hf_all := List.mem_filter.mpr ⟨List.mem_append_left _ h, hg⟩
theorem hf_goodIn (ws : List Cond) (ps : List Nat) (hp : ws = ps.filterMap (fun i => tables_1[i]?)) (h : ws.all goodWord = true) : ∀ w ∈ ws, w ∈ hf_all := by
  intro w hw
  have h1 := List.all_eq_true.mp h w hw
  rw [hp] at hw
  obtain ⟨i, -, hi⟩ := List.mem_filterMap.mp hw
  exact List.mem_filter.mpr ⟨List.mem_append_right _ (List.mem_of_getElem? hi), h1⟩
theorem hf_inX0 : ∀ w ∈ u_ws RX0 TX0 18, w ∈ hf_all := hf_goodIn _ [343, 345, 347, 349, 351, 353, 355, 357, 359, 361, 363, 365, 367, 369, 371, 373, 375, 377] (by decide +kernel) (by decide +kernel)
theorem hf_inX1 : ∀ w ∈ u_ws RX1 TX1 14, w ∈ hf_all := hf_goodIn _ [250, 252, 254, 256, 258, 260, 262, 264, 266, 268, 270, 272, 274, 276] (by decide +kernel) (by decide +kernel)
theorem hf_inX2 : ∀ w ∈ u_ws RX2 TX2 2, w ∈ hf_all := hf_goodIn _ [413, 415] (by decide +kernel) (by decide +kernel)
theorem hf_inX3 : ∀ w ∈ u_ws RX3 TX3 8, w ∈ hf_all := hf_goodIn _ [434, 436, 438, 440, 442, 444, 446, 448] (by decide +kernel) (by decide +kernel)
theorem hf_inX4 : ∀ w ∈ u_ws RX4 TX4 6, w ∈ hf_all := hf_goodIn _ [151, 153, 155, 157, 159, 161] (by decide +kernel) (by decide +kernel)
theorem hf_inX5 : ∀ w ∈ u_ws RX5 TX5 13, w ∈ hf_all := hf_goodIn _ [179, 181, 183, 185, 187, 189, 191, 193, 195, 197, 199, 201, 203] (by decide +kernel) (by decide +kernel)
theorem hf_inX6 : ∀ w ∈ u_ws RX6 TX6 4, w ∈ hf_all := hf_goodIn _ [305, 307, 309, 311] (by decide +kernel) (by decide +kernel)
theorem hf_inX7 : ∀ w ∈ u_ws RX7 TX7 3, w ∈ hf_all := hf_goodIn _ [289, 291, 293] (by decide +kernel) (by decide +kernel)
theorem hf_inX8 : ∀ w ∈ u_ws RX8 TX8 8, w ∈ hf_all := hf_goodIn _ [74, 76, 78, 80, 82, 84, 86, 88] (by decide +kernel) (by decide +kernel)
theorem hf_inX9 : ∀ w ∈ u_ws RX9 TX9 6, w ∈ hf_all := hf_goodIn _ [113, 115, 117, 119, 121, 123] (by decide +kernel) (by decide +kernel)
theorem hf_inX10 : ∀ w ∈ u_ws RX10 TX10 6, w ∈ hf_all := hf_goodIn _ [392, 394, 396, 398, 400, 402] (by decide +kernel) (by decide +kernel)
theorem hf_inX11 : ∀ w ∈ u_ws RX11 TX11 15, w ∈ hf_all := hf_goodIn _ [468, 470, 472, 474, 476, 478, 480, 482, 484, 486, 488, 490, 492, 494, 496] (by decide +kernel) (by decide +kernel)
theorem hf_inX12 : ∀ w ∈ u_ws RX12 TX12 69, w ∈ hf_all := hf_goodIn _ [1299, 1301, 1303, 1305, 1307, 1309, 1311, 1313, 1315, 1317, 1319, 1321, 1323, 1325, 1327, 1329, 1331, 1333, 1335, 1337, 1339, 1341, 1343, 1345, 1347, 1349, 1351, 1353, 1355, 1357, 1359, 1361, 1363, 1365, 1367, 1369, 1371, 1373, 1375, 1377, 1379, 1381, 1383, 1385, 1387, 1389, 1391, 1393, 1395, 1397, 1399, 1401, 1403, 1405, 1407, 1409, 1411, 1413, 1415, 1417, 1419, 1421, 1423, 1425, 1427, 1429, 1431, 1433, 1435] (by decide +kernel) (by decide +kernel)
theorem hf_in : ∀ (tg : Nat) (q : vw_C), vwCl[tg]? = some q → ∀ w ∈ u_ws q.1 q.2.1 q.2.2, w ∈ hf_all := by
  intro tg q h
  match tg, h with
  | 0, h => cases h; exact hf_inX0
  | 1, h => cases h; exact hf_inX1
  | 2, h => cases h; exact hf_inX2
  | 3, h => cases h; exact hf_inX3
  | 4, h => cases h; exact hf_inX4
  | 5, h => cases h; exact hf_inX5
  | 6, h => cases h; exact hf_inX6
  | 7, h => cases h; exact hf_inX7
  | 8, h => cases h; exact hf_inX8
  | 9, h => cases h; exact hf_inX9
  | 10, h => cases h; exact hf_inX10
  | 11, h => cases h; exact hf_inX11
  | 12, h => cases h; exact hf_inX12
  | n + 13, h => cases h
theorem fl_X11_10 : hf_fl RX11 10 11 0 2 true := ⟨(RX11, TX11, 15), rfl, by decide, hf_t2 (List.mem_of_getElem? (i := 213) rfl) rfl, rfl, rfl⟩
theorem fl_X11_16 : hf_fl RX11 16 11 1 2 true := ⟨(RX11, TX11, 15), rfl, by decide, hf_t2 (List.mem_of_getElem? (i := 214) rfl) rfl, rfl, rfl⟩
theorem fl_X11_20 : hf_fl RX11 20 11 2 0 false := ⟨(RX11, TX11, 15), rfl, by decide, hf_t2 (List.mem_of_getElem? (i := 215) rfl) rfl, rfl, rfl⟩
theorem fl_X11_27 : hf_fl RX11 27 11 3 2 true := ⟨(RX11, TX11, 15), rfl, by decide, hf_t2 (List.mem_of_getElem? (i := 216) rfl) rfl, rfl, rfl⟩
theorem fl_X11_34 : hf_fl RX11 34 11 4 2 false := ⟨(RX11, TX11, 15), rfl, by decide, hf_t2 (List.mem_of_getElem? (i := 217) rfl) rfl, rfl, rfl⟩
theorem fl_X11_38 : hf_fl RX11 38 11 5 2 false := ⟨(RX11, TX11, 15), rfl, by decide, hf_t2 (List.mem_of_getElem? (i := 218) rfl) rfl, rfl, rfl⟩
theorem fl_X11_41 : hf_fl RX11 41 11 6 0 false := ⟨(RX11, TX11, 15), rfl, by decide, hf_t2 (List.mem_of_getElem? (i := 219) rfl) rfl, rfl, rfl⟩
theorem fl_X11_48 : hf_fl RX11 48 11 7 2 true := ⟨(RX11, TX11, 15), rfl, by decide, hf_t2 (List.mem_of_getElem? (i := 220) rfl) rfl, rfl, rfl⟩
theorem fl_X11_55 : hf_fl RX11 55 11 8 2 true := ⟨(RX11, TX11, 15), rfl, by decide, hf_t2 (List.mem_of_getElem? (i := 221) rfl) rfl, rfl, rfl⟩
theorem fl_X11_62 : hf_fl RX11 62 11 9 2 true := ⟨(RX11, TX11, 15), rfl, by decide, hf_t2 (List.mem_of_getElem? (i := 222) rfl) rfl, rfl, rfl⟩
theorem fl_X11_66 : hf_fl RX11 66 11 10 2 true := ⟨(RX11, TX11, 15), rfl, by decide, hf_t2 (List.mem_of_getElem? (i := 223) rfl) rfl, rfl, rfl⟩
theorem fl_X11_72 : hf_fl RX11 72 11 11 2 true := ⟨(RX11, TX11, 15), rfl, by decide, hf_t2 (List.mem_of_getElem? (i := 224) rfl) rfl, rfl, rfl⟩
theorem fl_X11_79 : hf_fl RX11 79 11 12 2 true := ⟨(RX11, TX11, 15), rfl, by decide, hf_t2 (List.mem_of_getElem? (i := 225) rfl) rfl, rfl, rfl⟩
theorem fl_X11_88 : hf_fl RX11 88 11 13 2 true := ⟨(RX11, TX11, 15), rfl, by decide, hf_t2 (List.mem_of_getElem? (i := 226) rfl) rfl, rfl, rfl⟩
theorem fl_X11_92 : hf_fl RX11 92 11 14 0 false := ⟨(RX11, TX11, 15), rfl, by decide, hf_t2 (List.mem_of_getElem? (i := 227) rfl) rfl, rfl, rfl⟩
theorem fl_X11_133 : hf_fl RX11 133 8 1 2 true := ⟨(RX8, TX8, 8), rfl, by decide, hf_t1 (List.mem_of_getElem? (i := 55) rfl) rfl, rfl, rfl⟩
theorem fl_X11_136 : hf_fl RX11 136 8 2 2 true := ⟨(RX8, TX8, 8), rfl, by decide, hf_t1 (List.mem_of_getElem? (i := 58) rfl) rfl, rfl, rfl⟩
theorem fl_X11_139 : hf_fl RX11 139 8 3 2 true := ⟨(RX8, TX8, 8), rfl, by decide, hf_t1 (List.mem_of_getElem? (i := 61) rfl) rfl, rfl, rfl⟩
theorem fl_X11_147 : hf_fl RX11 147 8 6 2 true := ⟨(RX8, TX8, 8), rfl, by decide, hf_t1 (List.mem_of_getElem? (i := 70) rfl) rfl, rfl, rfl⟩
theorem fl_X11_154 : hf_fl RX11 154 5 11 0 false := ⟨(RX5, TX5, 13), rfl, by decide, hf_t1 (List.mem_of_getElem? (i := 176) rfl) rfl, rfl, rfl⟩
theorem fl_X11_157 : hf_fl RX11 157 4 0 0 false := ⟨(RX4, TX4, 6), rfl, by decide, hf_t1 (List.mem_of_getElem? (i := 135) rfl) rfl, rfl, rfl⟩
theorem fl_X11_160 : hf_fl RX11 160 5 12 0 false := ⟨(RX5, TX5, 13), rfl, by decide, hf_t1 (List.mem_of_getElem? (i := 178) rfl) rfl, rfl, rfl⟩
theorem fl_X11_171 : hf_fl RX11 171 6 2 0 false := ⟨(RX6, TX6, 4), rfl, by decide, hf_t2 (List.mem_of_getElem? (i := 62) rfl) rfl, rfl, rfl⟩
theorem fl_X11_174 : hf_fl RX11 174 6 0 2 true := ⟨(RX6, TX6, 4), rfl, by decide, hf_t2 (List.mem_of_getElem? (i := 59) rfl) rfl, rfl, rfl⟩
theorem fl_X11_177 : hf_fl RX11 177 1 11 0 false := ⟨(RX1, TX1, 14), rfl, by decide, hf_t2 (List.mem_of_getElem? (i := 4) rfl) rfl, rfl, rfl⟩
theorem fl_X11_180 : hf_fl RX11 180 1 12 0 false := ⟨(RX1, TX1, 14), rfl, by decide, hf_t2 (List.mem_of_getElem? (i := 6) rfl) rfl, rfl, rfl⟩
theorem fl_X11_183 : hf_fl RX11 183 1 13 0 false := ⟨(RX1, TX1, 14), rfl, by decide, hf_t2 (List.mem_of_getElem? (i := 9) rfl) rfl, rfl, rfl⟩
theorem fl_X11_186 : hf_fl RX11 186 6 3 1 false := ⟨(RX6, TX6, 4), rfl, by decide, hf_t2 (List.mem_of_getElem? (i := 64) rfl) rfl, rfl, rfl⟩
theorem fl_X11_194 : hf_fl RX11 194 8 0 0 false := ⟨(RX8, TX8, 8), rfl, by decide, hf_t1 (List.mem_of_getElem? (i := 50) rfl) rfl, rfl, rfl⟩
theorem fl_X11_219 : hf_fl RX11 219 0 16 0 false := ⟨(RX0, TX0, 18), rfl, by decide, hf_t2 (List.mem_of_getElem? (i := 100) rfl) rfl, rfl, rfl⟩
theorem fl_X11_222 : hf_fl RX11 222 0 17 0 false := ⟨(RX0, TX0, 18), rfl, by decide, hf_t2 (List.mem_of_getElem? (i := 102) rfl) rfl, rfl, rfl⟩
theorem fl_X11_296 : hf_fl RX11 296 1 9 0 false := ⟨(RX1, TX1, 14), rfl, by decide, hf_t1 (List.mem_of_getElem? (i := 236) rfl) rfl, rfl, rfl⟩
theorem fl_X11_299 : hf_fl RX11 299 1 10 0 false := ⟨(RX1, TX1, 14), rfl, by decide, hf_t2 (List.mem_of_getElem? (i := 0) rfl) rfl, rfl, rfl⟩
theorem fl_X11_305 : hf_fl RX11 305 1 8 0 false := ⟨(RX1, TX1, 14), rfl, by decide, hf_t1 (List.mem_of_getElem? (i := 232) rfl) rfl, rfl, rfl⟩
theorem fl_X11_308 : hf_fl RX11 308 4 1 0 false := ⟨(RX4, TX4, 6), rfl, by decide, hf_t1 (List.mem_of_getElem? (i := 138) rfl) rfl, rfl, rfl⟩
theorem fl_X11_311 : hf_fl RX11 311 3 0 0 false := ⟨(RX3, TX3, 8), rfl, by decide, hf_t2 (List.mem_of_getElem? (i := 186) rfl) rfl, rfl, rfl⟩
theorem fl_X11_314 : hf_fl RX11 314 8 4 0 false := ⟨(RX8, TX8, 8), rfl, by decide, hf_t1 (List.mem_of_getElem? (i := 64) rfl) rfl, rfl, rfl⟩
theorem fl_X11_317 : hf_fl RX11 317 8 5 0 false := ⟨(RX8, TX8, 8), rfl, by decide, hf_t1 (List.mem_of_getElem? (i := 67) rfl) rfl, rfl, rfl⟩
theorem fl_X0_11 : hf_fl RX0 11 0 0 2 true := ⟨(RX0, TX0, 18), rfl, by decide, hf_t2 (List.mem_of_getElem? (i := 83) rfl) rfl, rfl, rfl⟩
theorem fl_X0_17 : hf_fl RX0 17 0 1 2 true := ⟨(RX0, TX0, 18), rfl, by decide, hf_t2 (List.mem_of_getElem? (i := 84) rfl) rfl, rfl, rfl⟩
theorem fl_X0_20 : hf_fl RX0 20 0 2 0 false := ⟨(RX0, TX0, 18), rfl, by decide, hf_t2 (List.mem_of_getElem? (i := 85) rfl) rfl, rfl, rfl⟩
theorem fl_X0_24 : hf_fl RX0 24 0 3 0 false := ⟨(RX0, TX0, 18), rfl, by decide, hf_t2 (List.mem_of_getElem? (i := 86) rfl) rfl, rfl, rfl⟩
theorem fl_X0_27 : hf_fl RX0 27 0 4 0 false := ⟨(RX0, TX0, 18), rfl, by decide, hf_t2 (List.mem_of_getElem? (i := 87) rfl) rfl, rfl, rfl⟩
theorem fl_X0_30 : hf_fl RX0 30 0 5 0 false := ⟨(RX0, TX0, 18), rfl, by decide, hf_t2 (List.mem_of_getElem? (i := 88) rfl) rfl, rfl, rfl⟩
theorem fl_X0_33 : hf_fl RX0 33 0 6 0 false := ⟨(RX0, TX0, 18), rfl, by decide, hf_t2 (List.mem_of_getElem? (i := 89) rfl) rfl, rfl, rfl⟩
theorem fl_X0_37 : hf_fl RX0 37 0 7 0 false := ⟨(RX0, TX0, 18), rfl, by decide, hf_t2 (List.mem_of_getElem? (i := 90) rfl) rfl, rfl, rfl⟩
theorem fl_X0_40 : hf_fl RX0 40 0 8 0 false := ⟨(RX0, TX0, 18), rfl, by decide, hf_t2 (List.mem_of_getElem? (i := 91) rfl) rfl, rfl, rfl⟩
theorem fl_X0_43 : hf_fl RX0 43 0 9 2 true := ⟨(RX0, TX0, 18), rfl, by decide, hf_t2 (List.mem_of_getElem? (i := 92) rfl) rfl, rfl, rfl⟩
theorem fl_X0_46 : hf_fl RX0 46 0 10 2 true := ⟨(RX0, TX0, 18), rfl, by decide, hf_t2 (List.mem_of_getElem? (i := 93) rfl) rfl, rfl, rfl⟩
theorem fl_X0_49 : hf_fl RX0 49 0 11 2 true := ⟨(RX0, TX0, 18), rfl, by decide, hf_t2 (List.mem_of_getElem? (i := 94) rfl) rfl, rfl, rfl⟩
theorem fl_X0_52 : hf_fl RX0 52 0 12 2 true := ⟨(RX0, TX0, 18), rfl, by decide, hf_t2 (List.mem_of_getElem? (i := 95) rfl) rfl, rfl, rfl⟩
theorem fl_X0_55 : hf_fl RX0 55 0 13 0 false := ⟨(RX0, TX0, 18), rfl, by decide, hf_t2 (List.mem_of_getElem? (i := 96) rfl) rfl, rfl, rfl⟩
theorem fl_X0_58 : hf_fl RX0 58 0 14 0 false := ⟨(RX0, TX0, 18), rfl, by decide, hf_t2 (List.mem_of_getElem? (i := 97) rfl) rfl, rfl, rfl⟩
theorem fl_X0_62 : hf_fl RX0 62 0 15 0 false := ⟨(RX0, TX0, 18), rfl, by decide, hf_t2 (List.mem_of_getElem? (i := 98) rfl) rfl, rfl, rfl⟩
theorem fl_X0_65 : hf_fl RX0 65 0 16 0 false := ⟨(RX0, TX0, 18), rfl, by decide, hf_t2 (List.mem_of_getElem? (i := 99) rfl) rfl, rfl, rfl⟩
theorem fl_X0_68 : hf_fl RX0 68 0 17 0 false := ⟨(RX0, TX0, 18), rfl, by decide, hf_t2 (List.mem_of_getElem? (i := 101) rfl) rfl, rfl, rfl⟩
theorem fl_X0_71 : hf_fl RX0 71 8 7 0 false := ⟨(RX8, TX8, 8), rfl, by decide, hf_t1 (List.mem_of_getElem? (i := 73) rfl) rfl, rfl, rfl⟩
theorem fl_X0_76 : hf_fl RX0 76 8 0 0 false := ⟨(RX8, TX8, 8), rfl, by decide, hf_t1 (List.mem_of_getElem? (i := 47) rfl) rfl, rfl, rfl⟩
theorem fl_X0_77 : hf_fl RX0 77 8 4 0 false := ⟨(RX8, TX8, 8), rfl, by decide, hf_t1 (List.mem_of_getElem? (i := 63) rfl) rfl, rfl, rfl⟩
theorem fl_X0_78 : hf_fl RX0 78 8 5 0 false := ⟨(RX8, TX8, 8), rfl, by decide, hf_t1 (List.mem_of_getElem? (i := 66) rfl) rfl, rfl, rfl⟩
theorem fl_X0_79 : hf_fl RX0 79 8 1 2 true := ⟨(RX8, TX8, 8), rfl, by decide, hf_t1 (List.mem_of_getElem? (i := 53) rfl) rfl, rfl, rfl⟩
theorem fl_X0_80 : hf_fl RX0 80 8 3 2 true := ⟨(RX8, TX8, 8), rfl, by decide, hf_t1 (List.mem_of_getElem? (i := 60) rfl) rfl, rfl, rfl⟩
theorem fl_X0_81 : hf_fl RX0 81 8 6 2 true := ⟨(RX8, TX8, 8), rfl, by decide, hf_t1 (List.mem_of_getElem? (i := 69) rfl) rfl, rfl, rfl⟩
theorem fl_X1_9 : hf_fl RX1 9 1 7 2 true := ⟨(RX1, TX1, 14), rfl, by decide, hf_t1 (List.mem_of_getElem? (i := 228) rfl) rfl, rfl, rfl⟩
theorem fl_X1_15 : hf_fl RX1 15 1 8 0 false := ⟨(RX1, TX1, 14), rfl, by decide, hf_t1 (List.mem_of_getElem? (i := 230) rfl) rfl, rfl, rfl⟩
theorem fl_X1_19 : hf_fl RX1 19 1 9 0 false := ⟨(RX1, TX1, 14), rfl, by decide, hf_t1 (List.mem_of_getElem? (i := 233) rfl) rfl, rfl, rfl⟩
theorem fl_X1_22 : hf_fl RX1 22 1 10 0 false := ⟨(RX1, TX1, 14), rfl, by decide, hf_t1 (List.mem_of_getElem? (i := 237) rfl) rfl, rfl, rfl⟩
theorem fl_X1_25 : hf_fl RX1 25 1 11 0 false := ⟨(RX1, TX1, 14), rfl, by decide, hf_t2 (List.mem_of_getElem? (i := 1) rfl) rfl, rfl, rfl⟩
theorem fl_X1_28 : hf_fl RX1 28 1 12 0 false := ⟨(RX1, TX1, 14), rfl, by decide, hf_t2 (List.mem_of_getElem? (i := 5) rfl) rfl, rfl, rfl⟩
theorem fl_X1_31 : hf_fl RX1 31 1 13 0 false := ⟨(RX1, TX1, 14), rfl, by decide, hf_t2 (List.mem_of_getElem? (i := 7) rfl) rfl, rfl, rfl⟩
theorem fl_X1_34 : hf_fl RX1 34 1 0 0 true := ⟨(RX1, TX1, 14), rfl, by decide, hf_t1 (List.mem_of_getElem? (i := 221) rfl) rfl, rfl, rfl⟩
theorem fl_X1_37 : hf_fl RX1 37 1 1 2 true := ⟨(RX1, TX1, 14), rfl, by decide, hf_t1 (List.mem_of_getElem? (i := 222) rfl) rfl, rfl, rfl⟩
theorem fl_X1_40 : hf_fl RX1 40 1 2 2 true := ⟨(RX1, TX1, 14), rfl, by decide, hf_t1 (List.mem_of_getElem? (i := 223) rfl) rfl, rfl, rfl⟩
theorem fl_X1_43 : hf_fl RX1 43 1 3 2 true := ⟨(RX1, TX1, 14), rfl, by decide, hf_t1 (List.mem_of_getElem? (i := 224) rfl) rfl, rfl, rfl⟩
theorem fl_X1_46 : hf_fl RX1 46 1 4 2 true := ⟨(RX1, TX1, 14), rfl, by decide, hf_t1 (List.mem_of_getElem? (i := 225) rfl) rfl, rfl, rfl⟩
theorem fl_X1_49 : hf_fl RX1 49 1 5 2 true := ⟨(RX1, TX1, 14), rfl, by decide, hf_t1 (List.mem_of_getElem? (i := 226) rfl) rfl, rfl, rfl⟩
theorem fl_X1_52 : hf_fl RX1 52 1 6 2 true := ⟨(RX1, TX1, 14), rfl, by decide, hf_t1 (List.mem_of_getElem? (i := 227) rfl) rfl, rfl, rfl⟩
theorem fl_X1_55 : hf_fl RX1 55 8 2 2 true := ⟨(RX8, TX8, 8), rfl, by decide, hf_t1 (List.mem_of_getElem? (i := 57) rfl) rfl, rfl, rfl⟩
theorem fl_X1_60 : hf_fl RX1 60 8 0 0 false := ⟨(RX8, TX8, 8), rfl, by decide, hf_t1 (List.mem_of_getElem? (i := 46) rfl) rfl, rfl, rfl⟩
theorem fl_X1_73 : hf_fl RX1 73 8 1 2 true := ⟨(RX8, TX8, 8), rfl, by decide, hf_t1 (List.mem_of_getElem? (i := 54) rfl) rfl, rfl, rfl⟩
theorem fl_X2_9 : hf_fl RX2 9 2 0 2 false := ⟨(RX2, TX2, 2), rfl, by decide, hf_t2 (List.mem_of_getElem? (i := 171) rfl) rfl, rfl, rfl⟩
theorem fl_X2_15 : hf_fl RX2 15 2 1 0 false := ⟨(RX2, TX2, 2), rfl, by decide, hf_t2 (List.mem_of_getElem? (i := 172) rfl) rfl, rfl, rfl⟩
theorem fl_X3_9 : hf_fl RX3 9 3 0 0 false := ⟨(RX3, TX3, 8), rfl, by decide, hf_t2 (List.mem_of_getElem? (i := 185) rfl) rfl, rfl, rfl⟩
theorem fl_X3_15 : hf_fl RX3 15 3 1 2 true := ⟨(RX3, TX3, 8), rfl, by decide, hf_t2 (List.mem_of_getElem? (i := 187) rfl) rfl, rfl, rfl⟩
theorem fl_X3_19 : hf_fl RX3 19 3 2 2 true := ⟨(RX3, TX3, 8), rfl, by decide, hf_t2 (List.mem_of_getElem? (i := 188) rfl) rfl, rfl, rfl⟩
theorem fl_X3_22 : hf_fl RX3 22 3 3 2 true := ⟨(RX3, TX3, 8), rfl, by decide, hf_t2 (List.mem_of_getElem? (i := 189) rfl) rfl, rfl, rfl⟩
theorem fl_X3_25 : hf_fl RX3 25 3 4 2 true := ⟨(RX3, TX3, 8), rfl, by decide, hf_t2 (List.mem_of_getElem? (i := 190) rfl) rfl, rfl, rfl⟩
theorem fl_X3_29 : hf_fl RX3 29 3 5 2 true := ⟨(RX3, TX3, 8), rfl, by decide, hf_t2 (List.mem_of_getElem? (i := 191) rfl) rfl, rfl, rfl⟩
theorem fl_X3_32 : hf_fl RX3 32 3 6 2 true := ⟨(RX3, TX3, 8), rfl, by decide, hf_t2 (List.mem_of_getElem? (i := 192) rfl) rfl, rfl, rfl⟩
theorem fl_X3_35 : hf_fl RX3 35 3 7 2 true := ⟨(RX3, TX3, 8), rfl, by decide, hf_t2 (List.mem_of_getElem? (i := 193) rfl) rfl, rfl, rfl⟩
theorem fl_X3_59 : hf_fl RX3 59 8 0 0 false := ⟨(RX8, TX8, 8), rfl, by decide, hf_t1 (List.mem_of_getElem? (i := 49) rfl) rfl, rfl, rfl⟩
theorem fl_X3_65 : hf_fl RX3 65 8 6 2 true := ⟨(RX8, TX8, 8), rfl, by decide, hf_t1 (List.mem_of_getElem? (i := 71) rfl) rfl, rfl, rfl⟩
theorem fl_X4_7 : hf_fl RX4 7 4 0 0 false := ⟨(RX4, TX4, 6), rfl, by decide, hf_t1 (List.mem_of_getElem? (i := 132) rfl) rfl, rfl, rfl⟩
theorem fl_X4_13 : hf_fl RX4 13 4 1 0 false := ⟨(RX4, TX4, 6), rfl, by decide, hf_t1 (List.mem_of_getElem? (i := 136) rfl) rfl, rfl, rfl⟩
theorem fl_X4_16 : hf_fl RX4 16 4 2 2 true := ⟨(RX4, TX4, 6), rfl, by decide, hf_t1 (List.mem_of_getElem? (i := 139) rfl) rfl, rfl, rfl⟩
theorem fl_X4_20 : hf_fl RX4 20 4 3 2 true := ⟨(RX4, TX4, 6), rfl, by decide, hf_t1 (List.mem_of_getElem? (i := 142) rfl) rfl, rfl, rfl⟩
theorem fl_X4_23 : hf_fl RX4 23 4 4 2 true := ⟨(RX4, TX4, 6), rfl, by decide, hf_t1 (List.mem_of_getElem? (i := 145) rfl) rfl, rfl, rfl⟩
theorem fl_X4_26 : hf_fl RX4 26 4 5 2 true := ⟨(RX4, TX4, 6), rfl, by decide, hf_t1 (List.mem_of_getElem? (i := 148) rfl) rfl, rfl, rfl⟩
theorem fl_X5_12 : hf_fl RX5 12 5 0 2 true := ⟨(RX5, TX5, 13), rfl, by decide, hf_t1 (List.mem_of_getElem? (i := 164) rfl) rfl, rfl, rfl⟩
theorem fl_X5_21 : hf_fl RX5 21 5 1 2 false := ⟨(RX5, TX5, 13), rfl, by decide, hf_t1 (List.mem_of_getElem? (i := 165) rfl) rfl, rfl, rfl⟩
theorem fl_X5_25 : hf_fl RX5 25 5 2 2 true := ⟨(RX5, TX5, 13), rfl, by decide, hf_t1 (List.mem_of_getElem? (i := 166) rfl) rfl, rfl, rfl⟩
theorem fl_X5_29 : hf_fl RX5 29 5 3 0 false := ⟨(RX5, TX5, 13), rfl, by decide, hf_t1 (List.mem_of_getElem? (i := 167) rfl) rfl, rfl, rfl⟩
theorem fl_X5_33 : hf_fl RX5 33 5 4 0 false := ⟨(RX5, TX5, 13), rfl, by decide, hf_t1 (List.mem_of_getElem? (i := 168) rfl) rfl, rfl, rfl⟩
theorem fl_X5_36 : hf_fl RX5 36 5 5 0 false := ⟨(RX5, TX5, 13), rfl, by decide, hf_t1 (List.mem_of_getElem? (i := 169) rfl) rfl, rfl, rfl⟩
theorem fl_X5_39 : hf_fl RX5 39 5 6 0 false := ⟨(RX5, TX5, 13), rfl, by decide, hf_t1 (List.mem_of_getElem? (i := 170) rfl) rfl, rfl, rfl⟩
theorem fl_X5_42 : hf_fl RX5 42 5 7 0 false := ⟨(RX5, TX5, 13), rfl, by decide, hf_t1 (List.mem_of_getElem? (i := 171) rfl) rfl, rfl, rfl⟩
theorem fl_X5_45 : hf_fl RX5 45 5 8 2 true := ⟨(RX5, TX5, 13), rfl, by decide, hf_t1 (List.mem_of_getElem? (i := 172) rfl) rfl, rfl, rfl⟩
theorem fl_X5_49 : hf_fl RX5 49 5 9 0 false := ⟨(RX5, TX5, 13), rfl, by decide, hf_t1 (List.mem_of_getElem? (i := 173) rfl) rfl, rfl, rfl⟩
theorem fl_X5_53 : hf_fl RX5 53 5 10 0 false := ⟨(RX5, TX5, 13), rfl, by decide, hf_t1 (List.mem_of_getElem? (i := 174) rfl) rfl, rfl, rfl⟩
theorem fl_X5_56 : hf_fl RX5 56 5 11 0 false := ⟨(RX5, TX5, 13), rfl, by decide, hf_t1 (List.mem_of_getElem? (i := 175) rfl) rfl, rfl, rfl⟩
theorem fl_X5_59 : hf_fl RX5 59 5 12 0 false := ⟨(RX5, TX5, 13), rfl, by decide, hf_t1 (List.mem_of_getElem? (i := 177) rfl) rfl, rfl, rfl⟩
theorem fl_X5_71 : hf_fl RX5 71 9 3 0 false := ⟨(RX9, TX9, 6), rfl, by decide, hf_t1 (List.mem_of_getElem? (i := 108) rfl) rfl, rfl, rfl⟩
theorem fl_X5_78 : hf_fl RX5 78 9 4 0 false := ⟨(RX9, TX9, 6), rfl, by decide, hf_t1 (List.mem_of_getElem? (i := 110) rfl) rfl, rfl, rfl⟩
theorem fl_X5_79 : hf_fl RX5 79 4 1 0 false := ⟨(RX4, TX4, 6), rfl, by decide, hf_t1 (List.mem_of_getElem? (i := 137) rfl) rfl, rfl, rfl⟩
theorem fl_X5_94 : hf_fl RX5 94 4 0 0 false := ⟨(RX4, TX4, 6), rfl, by decide, hf_t1 (List.mem_of_getElem? (i := 134) rfl) rfl, rfl, rfl⟩
theorem fl_X5_104 : hf_fl RX5 104 4 3 2 true := ⟨(RX4, TX4, 6), rfl, by decide, hf_t1 (List.mem_of_getElem? (i := 144) rfl) rfl, rfl, rfl⟩
theorem fl_X5_107 : hf_fl RX5 107 4 2 2 true := ⟨(RX4, TX4, 6), rfl, by decide, hf_t1 (List.mem_of_getElem? (i := 141) rfl) rfl, rfl, rfl⟩
theorem fl_X5_110 : hf_fl RX5 110 9 5 0 false := ⟨(RX9, TX9, 6), rfl, by decide, hf_t1 (List.mem_of_getElem? (i := 112) rfl) rfl, rfl, rfl⟩
theorem fl_X5_142 : hf_fl RX5 142 4 4 2 true := ⟨(RX4, TX4, 6), rfl, by decide, hf_t1 (List.mem_of_getElem? (i := 147) rfl) rfl, rfl, rfl⟩
theorem fl_X5_145 : hf_fl RX5 145 4 5 2 true := ⟨(RX4, TX4, 6), rfl, by decide, hf_t1 (List.mem_of_getElem? (i := 150) rfl) rfl, rfl, rfl⟩
theorem fl_X6_14 : hf_fl RX6 14 6 0 2 true := ⟨(RX6, TX6, 4), rfl, by decide, hf_t2 (List.mem_of_getElem? (i := 58) rfl) rfl, rfl, rfl⟩
theorem fl_X6_23 : hf_fl RX6 23 6 1 2 true := ⟨(RX6, TX6, 4), rfl, by decide, hf_t2 (List.mem_of_getElem? (i := 60) rfl) rfl, rfl, rfl⟩
theorem fl_X6_27 : hf_fl RX6 27 6 2 0 false := ⟨(RX6, TX6, 4), rfl, by decide, hf_t2 (List.mem_of_getElem? (i := 61) rfl) rfl, rfl, rfl⟩
theorem fl_X6_33 : hf_fl RX6 33 6 3 1 false := ⟨(RX6, TX6, 4), rfl, by decide, hf_t2 (List.mem_of_getElem? (i := 63) rfl) rfl, rfl, rfl⟩
theorem fl_X6_41 : hf_fl RX6 41 1 9 0 false := ⟨(RX1, TX1, 14), rfl, by decide, hf_t1 (List.mem_of_getElem? (i := 234) rfl) rfl, rfl, rfl⟩
theorem fl_X6_44 : hf_fl RX6 44 1 10 0 false := ⟨(RX1, TX1, 14), rfl, by decide, hf_t1 (List.mem_of_getElem? (i := 238) rfl) rfl, rfl, rfl⟩
theorem fl_X6_55 : hf_fl RX6 55 4 3 2 true := ⟨(RX4, TX4, 6), rfl, by decide, hf_t1 (List.mem_of_getElem? (i := 143) rfl) rfl, rfl, rfl⟩
theorem fl_X6_61 : hf_fl RX6 61 4 4 2 true := ⟨(RX4, TX4, 6), rfl, by decide, hf_t1 (List.mem_of_getElem? (i := 146) rfl) rfl, rfl, rfl⟩
theorem fl_X6_68 : hf_fl RX6 68 7 2 0 false := ⟨(RX7, TX7, 3), rfl, by decide, hf_t2 (List.mem_of_getElem? (i := 48) rfl) rfl, rfl, rfl⟩
theorem fl_X6_72 : hf_fl RX6 72 4 2 2 true := ⟨(RX4, TX4, 6), rfl, by decide, hf_t1 (List.mem_of_getElem? (i := 140) rfl) rfl, rfl, rfl⟩
theorem fl_X6_75 : hf_fl RX6 75 1 8 0 false := ⟨(RX1, TX1, 14), rfl, by decide, hf_t1 (List.mem_of_getElem? (i := 231) rfl) rfl, rfl, rfl⟩
theorem fl_X6_82 : hf_fl RX6 82 4 0 0 false := ⟨(RX4, TX4, 6), rfl, by decide, hf_t1 (List.mem_of_getElem? (i := 133) rfl) rfl, rfl, rfl⟩
theorem fl_X6_93 : hf_fl RX6 93 8 0 0 false := ⟨(RX8, TX8, 8), rfl, by decide, hf_t1 (List.mem_of_getElem? (i := 48) rfl) rfl, rfl, rfl⟩
theorem fl_X6_104 : hf_fl RX6 104 1 11 0 false := ⟨(RX1, TX1, 14), rfl, by decide, hf_t2 (List.mem_of_getElem? (i := 3) rfl) rfl, rfl, rfl⟩
theorem fl_X6_107 : hf_fl RX6 107 1 13 0 false := ⟨(RX1, TX1, 14), rfl, by decide, hf_t2 (List.mem_of_getElem? (i := 8) rfl) rfl, rfl, rfl⟩
theorem fl_X7_9 : hf_fl RX7 9 7 0 2 true := ⟨(RX7, TX7, 3), rfl, by decide, hf_t2 (List.mem_of_getElem? (i := 45) rfl) rfl, rfl, rfl⟩
theorem fl_X7_15 : hf_fl RX7 15 7 1 0 false := ⟨(RX7, TX7, 3), rfl, by decide, hf_t2 (List.mem_of_getElem? (i := 46) rfl) rfl, rfl, rfl⟩
theorem fl_X7_19 : hf_fl RX7 19 7 2 0 false := ⟨(RX7, TX7, 3), rfl, by decide, hf_t2 (List.mem_of_getElem? (i := 47) rfl) rfl, rfl, rfl⟩
theorem fl_X7_23 : hf_fl RX7 23 4 5 2 true := ⟨(RX4, TX4, 6), rfl, by decide, hf_t1 (List.mem_of_getElem? (i := 149) rfl) rfl, rfl, rfl⟩
theorem fl_X7_53 : hf_fl RX7 53 1 9 0 false := ⟨(RX1, TX1, 14), rfl, by decide, hf_t1 (List.mem_of_getElem? (i := 235) rfl) rfl, rfl, rfl⟩
theorem fl_X7_58 : hf_fl RX7 58 1 10 0 false := ⟨(RX1, TX1, 14), rfl, by decide, hf_t1 (List.mem_of_getElem? (i := 239) rfl) rfl, rfl, rfl⟩
theorem fl_X7_61 : hf_fl RX7 61 1 11 0 false := ⟨(RX1, TX1, 14), rfl, by decide, hf_t2 (List.mem_of_getElem? (i := 2) rfl) rfl, rfl, rfl⟩
theorem fl_X7_71 : hf_fl RX7 71 1 7 2 true := ⟨(RX1, TX1, 14), rfl, by decide, hf_t1 (List.mem_of_getElem? (i := 229) rfl) rfl, rfl, rfl⟩
theorem fl_X8_9 : hf_fl RX8 9 8 0 0 false := ⟨(RX8, TX8, 8), rfl, by decide, hf_t1 (List.mem_of_getElem? (i := 44) rfl) rfl, rfl, rfl⟩
theorem fl_X8_15 : hf_fl RX8 15 8 1 2 true := ⟨(RX8, TX8, 8), rfl, by decide, hf_t1 (List.mem_of_getElem? (i := 51) rfl) rfl, rfl, rfl⟩
theorem fl_X8_19 : hf_fl RX8 19 8 2 2 true := ⟨(RX8, TX8, 8), rfl, by decide, hf_t1 (List.mem_of_getElem? (i := 56) rfl) rfl, rfl, rfl⟩
theorem fl_X8_22 : hf_fl RX8 22 8 3 2 true := ⟨(RX8, TX8, 8), rfl, by decide, hf_t1 (List.mem_of_getElem? (i := 59) rfl) rfl, rfl, rfl⟩
theorem fl_X8_25 : hf_fl RX8 25 8 4 0 false := ⟨(RX8, TX8, 8), rfl, by decide, hf_t1 (List.mem_of_getElem? (i := 62) rfl) rfl, rfl, rfl⟩
theorem fl_X8_28 : hf_fl RX8 28 8 5 0 false := ⟨(RX8, TX8, 8), rfl, by decide, hf_t1 (List.mem_of_getElem? (i := 65) rfl) rfl, rfl, rfl⟩
theorem fl_X8_31 : hf_fl RX8 31 8 6 2 true := ⟨(RX8, TX8, 8), rfl, by decide, hf_t1 (List.mem_of_getElem? (i := 68) rfl) rfl, rfl, rfl⟩
theorem fl_X8_34 : hf_fl RX8 34 8 7 0 false := ⟨(RX8, TX8, 8), rfl, by decide, hf_t1 (List.mem_of_getElem? (i := 72) rfl) rfl, rfl, rfl⟩
theorem fl_X9_7 : hf_fl RX9 7 9 0 2 false := ⟨(RX9, TX9, 6), rfl, by decide, hf_t1 (List.mem_of_getElem? (i := 104) rfl) rfl, rfl, rfl⟩
theorem fl_X9_13 : hf_fl RX9 13 9 1 0 false := ⟨(RX9, TX9, 6), rfl, by decide, hf_t1 (List.mem_of_getElem? (i := 105) rfl) rfl, rfl, rfl⟩
theorem fl_X9_17 : hf_fl RX9 17 9 2 0 false := ⟨(RX9, TX9, 6), rfl, by decide, hf_t1 (List.mem_of_getElem? (i := 106) rfl) rfl, rfl, rfl⟩
theorem fl_X9_20 : hf_fl RX9 20 9 3 0 false := ⟨(RX9, TX9, 6), rfl, by decide, hf_t1 (List.mem_of_getElem? (i := 107) rfl) rfl, rfl, rfl⟩
theorem fl_X9_23 : hf_fl RX9 23 9 4 0 false := ⟨(RX9, TX9, 6), rfl, by decide, hf_t1 (List.mem_of_getElem? (i := 109) rfl) rfl, rfl, rfl⟩
theorem fl_X9_26 : hf_fl RX9 26 9 5 0 false := ⟨(RX9, TX9, 6), rfl, by decide, hf_t1 (List.mem_of_getElem? (i := 111) rfl) rfl, rfl, rfl⟩
theorem fl_X10_9 : hf_fl RX10 9 10 0 2 false := ⟨(RX10, TX10, 6), rfl, by decide, hf_t2 (List.mem_of_getElem? (i := 146) rfl) rfl, rfl, rfl⟩
theorem fl_X10_15 : hf_fl RX10 15 10 1 2 false := ⟨(RX10, TX10, 6), rfl, by decide, hf_t2 (List.mem_of_getElem? (i := 147) rfl) rfl, rfl, rfl⟩
theorem fl_X10_18 : hf_fl RX10 18 10 2 2 false := ⟨(RX10, TX10, 6), rfl, by decide, hf_t2 (List.mem_of_getElem? (i := 148) rfl) rfl, rfl, rfl⟩
theorem fl_X10_21 : hf_fl RX10 21 10 3 0 false := ⟨(RX10, TX10, 6), rfl, by decide, hf_t2 (List.mem_of_getElem? (i := 149) rfl) rfl, rfl, rfl⟩
theorem fl_X10_25 : hf_fl RX10 25 10 4 0 false := ⟨(RX10, TX10, 6), rfl, by decide, hf_t2 (List.mem_of_getElem? (i := 150) rfl) rfl, rfl, rfl⟩
theorem fl_X10_28 : hf_fl RX10 28 10 5 0 false := ⟨(RX10, TX10, 6), rfl, by decide, hf_t2 (List.mem_of_getElem? (i := 151) rfl) rfl, rfl, rfl⟩
theorem fl_X10_34 : hf_fl RX10 34 8 0 0 false := ⟨(RX8, TX8, 8), rfl, by decide, hf_t1 (List.mem_of_getElem? (i := 45) rfl) rfl, rfl, rfl⟩
theorem fl_X10_37 : hf_fl RX10 37 8 1 2 true := ⟨(RX8, TX8, 8), rfl, by decide, hf_t1 (List.mem_of_getElem? (i := 52) rfl) rfl, rfl, rfl⟩
theorem fl_X12_7 : hf_fl RX12 7 12 0 2 true := ⟨(RX12, TX12, 69), rfl, by decide, hf_t6 (List.mem_of_getElem? (i := 30) rfl) rfl, rfl, rfl⟩
theorem fl_X12_13 : hf_fl RX12 13 12 3 0 false := ⟨(RX12, TX12, 69), rfl, by decide, hf_t6 (List.mem_of_getElem? (i := 33) rfl) rfl, rfl, rfl⟩
theorem fl_X12_17 : hf_fl RX12 17 12 4 2 true := ⟨(RX12, TX12, 69), rfl, by decide, hf_t6 (List.mem_of_getElem? (i := 34) rfl) rfl, rfl, rfl⟩
theorem fl_X12_20 : hf_fl RX12 20 12 5 2 true := ⟨(RX12, TX12, 69), rfl, by decide, hf_t6 (List.mem_of_getElem? (i := 35) rfl) rfl, rfl, rfl⟩
theorem fl_X12_23 : hf_fl RX12 23 12 6 2 true := ⟨(RX12, TX12, 69), rfl, by decide, hf_t6 (List.mem_of_getElem? (i := 36) rfl) rfl, rfl, rfl⟩
theorem fl_X12_26 : hf_fl RX12 26 12 7 2 true := ⟨(RX12, TX12, 69), rfl, by decide, hf_t6 (List.mem_of_getElem? (i := 37) rfl) rfl, rfl, rfl⟩
theorem fl_X12_29 : hf_fl RX12 29 12 8 0 false := ⟨(RX12, TX12, 69), rfl, by decide, hf_t6 (List.mem_of_getElem? (i := 38) rfl) rfl, rfl, rfl⟩
theorem fl_X12_32 : hf_fl RX12 32 12 10 2 true := ⟨(RX12, TX12, 69), rfl, by decide, hf_t6 (List.mem_of_getElem? (i := 40) rfl) rfl, rfl, rfl⟩
theorem fl_X12_35 : hf_fl RX12 35 12 12 0 false := ⟨(RX12, TX12, 69), rfl, by decide, hf_t6 (List.mem_of_getElem? (i := 42) rfl) rfl, rfl, rfl⟩
theorem fl_X12_38 : hf_fl RX12 38 12 23 2 true := ⟨(RX12, TX12, 69), rfl, by decide, hf_t6 (List.mem_of_getElem? (i := 53) rfl) rfl, rfl, rfl⟩
theorem fl_X12_41 : hf_fl RX12 41 12 24 2 true := ⟨(RX12, TX12, 69), rfl, by decide, hf_t6 (List.mem_of_getElem? (i := 54) rfl) rfl, rfl, rfl⟩
theorem fl_X12_44 : hf_fl RX12 44 12 25 2 true := ⟨(RX12, TX12, 69), rfl, by decide, hf_t6 (List.mem_of_getElem? (i := 55) rfl) rfl, rfl, rfl⟩
theorem fl_X12_47 : hf_fl RX12 47 12 26 2 true := ⟨(RX12, TX12, 69), rfl, by decide, hf_t6 (List.mem_of_getElem? (i := 56) rfl) rfl, rfl, rfl⟩
theorem fl_X12_50 : hf_fl RX12 50 12 27 2 true := ⟨(RX12, TX12, 69), rfl, by decide, hf_t6 (List.mem_of_getElem? (i := 57) rfl) rfl, rfl, rfl⟩
theorem fl_X12_53 : hf_fl RX12 53 12 28 2 true := ⟨(RX12, TX12, 69), rfl, by decide, hf_t6 (List.mem_of_getElem? (i := 58) rfl) rfl, rfl, rfl⟩
theorem fl_X12_56 : hf_fl RX12 56 12 29 2 true := ⟨(RX12, TX12, 69), rfl, by decide, hf_t6 (List.mem_of_getElem? (i := 59) rfl) rfl, rfl, rfl⟩
theorem fl_X12_59 : hf_fl RX12 59 12 30 2 true := ⟨(RX12, TX12, 69), rfl, by decide, hf_t6 (List.mem_of_getElem? (i := 60) rfl) rfl, rfl, rfl⟩
theorem fl_X12_62 : hf_fl RX12 62 12 31 2 true := ⟨(RX12, TX12, 69), rfl, by decide, hf_t6 (List.mem_of_getElem? (i := 61) rfl) rfl, rfl, rfl⟩
theorem fl_X12_65 : hf_fl RX12 65 12 32 2 true := ⟨(RX12, TX12, 69), rfl, by decide, hf_t6 (List.mem_of_getElem? (i := 62) rfl) rfl, rfl, rfl⟩
theorem fl_X12_68 : hf_fl RX12 68 12 39 2 true := ⟨(RX12, TX12, 69), rfl, by decide, hf_t6 (List.mem_of_getElem? (i := 69) rfl) rfl, rfl, rfl⟩
theorem fl_X12_72 : hf_fl RX12 72 12 40 2 true := ⟨(RX12, TX12, 69), rfl, by decide, hf_t6 (List.mem_of_getElem? (i := 70) rfl) rfl, rfl, rfl⟩
theorem fl_X12_75 : hf_fl RX12 75 12 47 2 true := ⟨(RX12, TX12, 69), rfl, by decide, hf_t6 (List.mem_of_getElem? (i := 77) rfl) rfl, rfl, rfl⟩
theorem fl_X12_78 : hf_fl RX12 78 12 48 2 true := ⟨(RX12, TX12, 69), rfl, by decide, hf_t6 (List.mem_of_getElem? (i := 78) rfl) rfl, rfl, rfl⟩
theorem fl_X12_81 : hf_fl RX12 81 12 49 2 true := ⟨(RX12, TX12, 69), rfl, by decide, hf_t6 (List.mem_of_getElem? (i := 79) rfl) rfl, rfl, rfl⟩
theorem fl_X12_85 : hf_fl RX12 85 12 50 2 true := ⟨(RX12, TX12, 69), rfl, by decide, hf_t6 (List.mem_of_getElem? (i := 80) rfl) rfl, rfl, rfl⟩
theorem fl_X12_88 : hf_fl RX12 88 12 51 2 true := ⟨(RX12, TX12, 69), rfl, by decide, hf_t6 (List.mem_of_getElem? (i := 81) rfl) rfl, rfl, rfl⟩
theorem fl_X12_92 : hf_fl RX12 92 12 54 2 true := ⟨(RX12, TX12, 69), rfl, by decide, hf_t6 (List.mem_of_getElem? (i := 84) rfl) rfl, rfl, rfl⟩
theorem fl_X12_95 : hf_fl RX12 95 12 55 2 true := ⟨(RX12, TX12, 69), rfl, by decide, hf_t6 (List.mem_of_getElem? (i := 85) rfl) rfl, rfl, rfl⟩
theorem fl_X12_99 : hf_fl RX12 99 12 56 2 true := ⟨(RX12, TX12, 69), rfl, by decide, hf_t6 (List.mem_of_getElem? (i := 86) rfl) rfl, rfl, rfl⟩
theorem fl_X12_102 : hf_fl RX12 102 12 58 2 true := ⟨(RX12, TX12, 69), rfl, by decide, hf_t6 (List.mem_of_getElem? (i := 88) rfl) rfl, rfl, rfl⟩
theorem fl_X12_105 : hf_fl RX12 105 12 59 2 true := ⟨(RX12, TX12, 69), rfl, by decide, hf_t6 (List.mem_of_getElem? (i := 89) rfl) rfl, rfl, rfl⟩
theorem fl_X12_108 : hf_fl RX12 108 12 60 2 true := ⟨(RX12, TX12, 69), rfl, by decide, hf_t6 (List.mem_of_getElem? (i := 90) rfl) rfl, rfl, rfl⟩
theorem fl_X12_111 : hf_fl RX12 111 12 61 2 true := ⟨(RX12, TX12, 69), rfl, by decide, hf_t6 (List.mem_of_getElem? (i := 91) rfl) rfl, rfl, rfl⟩
theorem fl_X12_115 : hf_fl RX12 115 12 62 2 true := ⟨(RX12, TX12, 69), rfl, by decide, hf_t6 (List.mem_of_getElem? (i := 92) rfl) rfl, rfl, rfl⟩
theorem fl_X12_118 : hf_fl RX12 118 12 66 2 true := ⟨(RX12, TX12, 69), rfl, by decide, hf_t6 (List.mem_of_getElem? (i := 96) rfl) rfl, rfl, rfl⟩
theorem fl_X12_121 : hf_fl RX12 121 12 67 2 true := ⟨(RX12, TX12, 69), rfl, by decide, hf_t6 (List.mem_of_getElem? (i := 97) rfl) rfl, rfl, rfl⟩
theorem fl_X12_124 : hf_fl RX12 124 12 68 2 true := ⟨(RX12, TX12, 69), rfl, by decide, hf_t6 (List.mem_of_getElem? (i := 98) rfl) rfl, rfl, rfl⟩
theorem fl_X12_127 : hf_fl RX12 127 12 2 0 false := ⟨(RX12, TX12, 69), rfl, by decide, hf_t6 (List.mem_of_getElem? (i := 32) rfl) rfl, rfl, rfl⟩
theorem fl_X12_130 : hf_fl RX12 130 12 1 0 false := ⟨(RX12, TX12, 69), rfl, by decide, hf_t6 (List.mem_of_getElem? (i := 31) rfl) rfl, rfl, rfl⟩
theorem fl_X12_137 : hf_fl RX12 137 12 57 0 false := ⟨(RX12, TX12, 69), rfl, by decide, hf_t6 (List.mem_of_getElem? (i := 87) rfl) rfl, rfl, rfl⟩
theorem fl_X12_140 : hf_fl RX12 140 12 63 0 false := ⟨(RX12, TX12, 69), rfl, by decide, hf_t6 (List.mem_of_getElem? (i := 93) rfl) rfl, rfl, rfl⟩
theorem fl_X12_148 : hf_fl RX12 148 12 9 0 false := ⟨(RX12, TX12, 69), rfl, by decide, hf_t6 (List.mem_of_getElem? (i := 39) rfl) rfl, rfl, rfl⟩
theorem fl_X12_158 : hf_fl RX12 158 12 11 0 false := ⟨(RX12, TX12, 69), rfl, by decide, hf_t6 (List.mem_of_getElem? (i := 41) rfl) rfl, rfl, rfl⟩
theorem fl_X12_161 : hf_fl RX12 161 12 17 0 false := ⟨(RX12, TX12, 69), rfl, by decide, hf_t6 (List.mem_of_getElem? (i := 47) rfl) rfl, rfl, rfl⟩
theorem fl_X12_164 : hf_fl RX12 164 12 13 0 false := ⟨(RX12, TX12, 69), rfl, by decide, hf_t6 (List.mem_of_getElem? (i := 43) rfl) rfl, rfl, rfl⟩
theorem fl_X12_167 : hf_fl RX12 167 12 14 0 false := ⟨(RX12, TX12, 69), rfl, by decide, hf_t6 (List.mem_of_getElem? (i := 44) rfl) rfl, rfl, rfl⟩
theorem fl_X12_170 : hf_fl RX12 170 12 15 0 false := ⟨(RX12, TX12, 69), rfl, by decide, hf_t6 (List.mem_of_getElem? (i := 45) rfl) rfl, rfl, rfl⟩
theorem fl_X12_180 : hf_fl RX12 180 12 16 0 false := ⟨(RX12, TX12, 69), rfl, by decide, hf_t6 (List.mem_of_getElem? (i := 46) rfl) rfl, rfl, rfl⟩
theorem fl_X12_192 : hf_fl RX12 192 12 22 0 false := ⟨(RX12, TX12, 69), rfl, by decide, hf_t6 (List.mem_of_getElem? (i := 52) rfl) rfl, rfl, rfl⟩
theorem fl_X12_195 : hf_fl RX12 195 12 34 0 false := ⟨(RX12, TX12, 69), rfl, by decide, hf_t6 (List.mem_of_getElem? (i := 64) rfl) rfl, rfl, rfl⟩
theorem fl_X12_198 : hf_fl RX12 198 12 33 0 false := ⟨(RX12, TX12, 69), rfl, by decide, hf_t6 (List.mem_of_getElem? (i := 63) rfl) rfl, rfl, rfl⟩
theorem fl_X12_212 : hf_fl RX12 212 12 36 0 false := ⟨(RX12, TX12, 69), rfl, by decide, hf_t6 (List.mem_of_getElem? (i := 66) rfl) rfl, rfl, rfl⟩
theorem fl_X12_218 : hf_fl RX12 218 12 35 0 false := ⟨(RX12, TX12, 69), rfl, by decide, hf_t6 (List.mem_of_getElem? (i := 65) rfl) rfl, rfl, rfl⟩
theorem fl_X12_225 : hf_fl RX12 225 12 38 0 false := ⟨(RX12, TX12, 69), rfl, by decide, hf_t6 (List.mem_of_getElem? (i := 68) rfl) rfl, rfl, rfl⟩
theorem fl_X12_242 : hf_fl RX12 242 12 37 0 false := ⟨(RX12, TX12, 69), rfl, by decide, hf_t6 (List.mem_of_getElem? (i := 67) rfl) rfl, rfl, rfl⟩
theorem fl_X12_257 : hf_fl RX12 257 12 21 0 false := ⟨(RX12, TX12, 69), rfl, by decide, hf_t6 (List.mem_of_getElem? (i := 51) rfl) rfl, rfl, rfl⟩
theorem fl_X12_266 : hf_fl RX12 266 12 18 0 false := ⟨(RX12, TX12, 69), rfl, by decide, hf_t6 (List.mem_of_getElem? (i := 48) rfl) rfl, rfl, rfl⟩
theorem fl_X12_269 : hf_fl RX12 269 12 19 0 false := ⟨(RX12, TX12, 69), rfl, by decide, hf_t6 (List.mem_of_getElem? (i := 49) rfl) rfl, rfl, rfl⟩
theorem fl_X12_272 : hf_fl RX12 272 12 20 0 false := ⟨(RX12, TX12, 69), rfl, by decide, hf_t6 (List.mem_of_getElem? (i := 50) rfl) rfl, rfl, rfl⟩
theorem fl_X12_275 : hf_fl RX12 275 12 41 0 false := ⟨(RX12, TX12, 69), rfl, by decide, hf_t6 (List.mem_of_getElem? (i := 71) rfl) rfl, rfl, rfl⟩
theorem fl_X12_302 : hf_fl RX12 302 12 43 0 false := ⟨(RX12, TX12, 69), rfl, by decide, hf_t6 (List.mem_of_getElem? (i := 73) rfl) rfl, rfl, rfl⟩
theorem fl_X12_305 : hf_fl RX12 305 12 44 0 false := ⟨(RX12, TX12, 69), rfl, by decide, hf_t6 (List.mem_of_getElem? (i := 74) rfl) rfl, rfl, rfl⟩
theorem fl_X12_308 : hf_fl RX12 308 12 45 1 false := ⟨(RX12, TX12, 69), rfl, by decide, hf_t6 (List.mem_of_getElem? (i := 75) rfl) rfl, rfl, rfl⟩
theorem fl_X12_314 : hf_fl RX12 314 12 46 1 false := ⟨(RX12, TX12, 69), rfl, by decide, hf_t6 (List.mem_of_getElem? (i := 76) rfl) rfl, rfl, rfl⟩
theorem fl_X12_317 : hf_fl RX12 317 12 42 0 false := ⟨(RX12, TX12, 69), rfl, by decide, hf_t6 (List.mem_of_getElem? (i := 72) rfl) rfl, rfl, rfl⟩
theorem fl_X12_345 : hf_fl RX12 345 12 52 0 false := ⟨(RX12, TX12, 69), rfl, by decide, hf_t6 (List.mem_of_getElem? (i := 82) rfl) rfl, rfl, rfl⟩
theorem fl_X12_348 : hf_fl RX12 348 12 53 0 false := ⟨(RX12, TX12, 69), rfl, by decide, hf_t6 (List.mem_of_getElem? (i := 83) rfl) rfl, rfl, rfl⟩
theorem fl_X12_419 : hf_fl RX12 419 12 64 0 false := ⟨(RX12, TX12, 69), rfl, by decide, hf_t6 (List.mem_of_getElem? (i := 94) rfl) rfl, rfl, rfl⟩
theorem fl_X12_422 : hf_fl RX12 422 12 65 0 false := ⟨(RX12, TX12, 69), rfl, by decide, hf_t6 (List.mem_of_getElem? (i := 95) rfl) rfl, rfl, rfl⟩
theorem ml_X11_1 : Cond.methodLink RX11 1 Lib.objectInit ∈ hf_all := hf_t1 (List.mem_of_getElem? (i := 32) rfl) rfl
theorem ml_X11_9 : Cond.methodLink RX11 9 yX8_init ∈ hf_all := hf_t1 (List.mem_of_getElem? (i := 37) rfl) rfl
theorem ml_X11_85 : Cond.methodLink RX11 85 yX1_init ∈ hf_all := hf_t2 (List.mem_of_getElem? (i := 212) rfl) rfl
theorem ml_X11_95 : Cond.methodLink RX11 95 yX11_putBytes ∈ hf_all := hf_t3 (List.mem_of_getElem? (i := 23) rfl) rfl
theorem ml_X11_98 : Cond.methodLink RX11 98 yX8_renew ∈ hf_all := hf_t3 (List.mem_of_getElem? (i := 31) rfl) rfl
theorem ml_X11_101 : Cond.methodLink RX11 101 yX3_clear ∈ hf_all := hf_t3 (List.mem_of_getElem? (i := 35) rfl) rfl
theorem ml_X11_104 : Cond.methodLink RX11 104 yX8_hasKind ∈ hf_all := hf_t3 (List.mem_of_getElem? (i := 43) rfl) rfl
theorem ml_X11_108 : Cond.methodLink RX11 108 yX11_isWithin ∈ hf_all := hf_t3 (List.mem_of_getElem? (i := 47) rfl) rfl
theorem ml_X11_112 : Cond.methodLink RX11 112 yX8_setKind ∈ hf_all := hf_t3 (List.mem_of_getElem? (i := 50) rfl) rfl
theorem ml_X11_116 : Cond.methodLink RX11 116 yX8_setCosts ∈ hf_all := hf_t3 (List.mem_of_getElem? (i := 58) rfl) rfl
theorem ml_X11_120 : Cond.methodLink RX11 120 yX8_hasStrength ∈ hf_all := hf_t3 (List.mem_of_getElem? (i := 66) rfl) rfl
theorem ml_X11_123 : Cond.methodLink RX11 123 yX8_setWeight ∈ hf_all := hf_t3 (List.mem_of_getElem? (i := 70) rfl) rfl
theorem ml_X11_150 : Cond.methodLink RX11 150 yX5_read ∈ hf_all := hf_t3 (List.mem_of_getElem? (i := 82) rfl) rfl
theorem ml_X11_167 : Cond.methodLink RX11 167 yX6_run ∈ hf_all := hf_t4 (List.mem_of_getElem? (i := 27) rfl) rfl
theorem ml_X11_190 : Cond.methodLink RX11 190 yX1_recall ∈ hf_all := hf_t4 (List.mem_of_getElem? (i := 129) rfl) rfl
theorem ml_X11_197 : Cond.methodLink RX11 197 yX6_shareOf ∈ hf_all := hf_t4 (List.mem_of_getElem? (i := 137) rfl) rfl
theorem ml_X11_201 : Cond.methodLink RX11 201 yJ9_max_f86c9 ∈ hf_all := hf_t4 (List.mem_of_getElem? (i := 141) rfl) rfl
theorem ml_X11_207 : Cond.methodLink RX11 207 yX0_prepare ∈ hf_all := hf_t4 (List.mem_of_getElem? (i := 148) rfl) rfl
theorem ml_X11_211 : Cond.methodLink RX11 211 yX8_allPieces ∈ hf_all := hf_t4 (List.mem_of_getElem? (i := 152) rfl) rfl
theorem ml_X11_215 : Cond.methodLink RX11 215 yX0_valueOf ∈ hf_all := hf_t4 (List.mem_of_getElem? (i := 156) rfl) rfl
theorem ml_X11_225 : Cond.methodLink RX11 225 yX0_edgeOf ∈ hf_all := hf_t4 (List.mem_of_getElem? (i := 203) rfl) rfl
theorem ml_X11_228 : Cond.methodLink RX11 228 yX10_fewestFalls ∈ hf_all := hf_t4 (List.mem_of_getElem? (i := 224) rfl) rfl
theorem ml_X11_232 : Cond.methodLink RX11 232 yJ7_fill_53178 ∈ hf_all := hf_t5 (List.mem_of_getElem? (i := 13) rfl) rfl
theorem ml_X11_238 : Cond.methodLink RX11 238 yX11_addRound ∈ hf_all := hf_t5 (List.mem_of_getElem? (i := 14) rfl) rfl
theorem ml_X11_241 : Cond.methodLink RX11 241 yX2_fewestFalls ∈ hf_all := hf_t5 (List.mem_of_getElem? (i := 23) rfl) rfl
theorem ml_X11_243 : Cond.methodLink RX11 243 yX8_hasStep ∈ hf_all := hf_t5 (List.mem_of_getElem? (i := 57) rfl) rfl
theorem ml_X11_246 : Cond.methodLink RX11 246 yX3_write ∈ hf_all := hf_t5 (List.mem_of_getElem? (i := 58) rfl) rfl
theorem ml_X11_250 : Cond.methodLink RX11 250 yX3_writeStrike ∈ hf_all := hf_t5 (List.mem_of_getElem? (i := 74) rfl) rfl
theorem ml_X11_254 : Cond.methodLink RX11 254 yX3_wrongAt ∈ hf_all := hf_t5 (List.mem_of_getElem? (i := 82) rfl) rfl
theorem ml_X11_258 : Cond.methodLink RX11 258 yX3_leastDoubted ∈ hf_all := hf_t5 (List.mem_of_getElem? (i := 99) rfl) rfl
theorem ml_X11_262 : Cond.methodLink RX11 262 yX3_wrongBy ∈ hf_all := hf_t5 (List.mem_of_getElem? (i := 108) rfl) rfl
theorem ml_X11_266 : Cond.methodLink RX11 266 yX3_partingStep ∈ hf_all := hf_t5 (List.mem_of_getElem? (i := 116) rfl) rfl
theorem ml_X11_269 : Cond.methodLink RX11 269 yX8_allWeights ∈ hf_all := hf_t5 (List.mem_of_getElem? (i := 131) rfl) rfl
theorem ml_X11_280 : Cond.methodLink RX11 280 yX8_strengthBehind ∈ hf_all := hf_t5 (List.mem_of_getElem? (i := 139) rfl) rfl
theorem ml_X11_283 : Cond.methodLink RX11 283 yX1_start ∈ hf_all := hf_t5 (List.mem_of_getElem? (i := 143) rfl) rfl
theorem ml_X11_286 : Cond.methodLink RX11 286 yX1_canFall ∈ hf_all := hf_t5 (List.mem_of_getElem? (i := 148) rfl) rfl
theorem ml_X11_290 : Cond.methodLink RX11 290 yX1_letFall ∈ hf_all := hf_t5 (List.mem_of_getElem? (i := 149) rfl) rfl
theorem ml_X11_293 : Cond.methodLink RX11 293 yX1_takeBack ∈ hf_all := hf_t5 (List.mem_of_getElem? (i := 154) rfl) rfl
theorem ml_X11_302 : Cond.methodLink RX11 302 yX1_leftCode ∈ hf_all := hf_t5 (List.mem_of_getElem? (i := 162) rfl) rfl
theorem ml_X11_320 : Cond.methodLink RX11 320 yJ9_min_7cf53 ∈ hf_all := hf_t5 (List.mem_of_getElem? (i := 18) rfl) rfl
theorem ml_X0_3 : Cond.methodLink RX0 3 Lib.objectInit ∈ hf_all := hf_t2 (List.mem_of_getElem? (i := 79) rfl) rfl
theorem ml_X0_84 : Cond.methodLink RX0 84 yX0_forgetFirst ∈ hf_all := hf_t4 (List.mem_of_getElem? (i := 160) rfl) rfl
theorem ml_X0_87 : Cond.methodLink RX0 87 yX0_fillUpTo ∈ hf_all := hf_t4 (List.mem_of_getElem? (i := 164) rfl) rfl
theorem ml_X0_91 : Cond.methodLink RX0 91 yX0_pick ∈ hf_all := hf_t4 (List.mem_of_getElem? (i := 184) rfl) rfl
theorem ml_X0_97 : Cond.methodLink RX0 97 yJ7_fill_53178 ∈ hf_all := hf_t4 (List.mem_of_getElem? (i := 207) rfl) rfl
theorem ml_X0_103 : Cond.methodLink RX0 103 yJ9_min_7cf53 ∈ hf_all := hf_t4 (List.mem_of_getElem? (i := 193) rfl) rfl
theorem ml_X0_109 : Cond.methodLink RX0 109 yX0_seek ∈ hf_all := hf_t4 (List.mem_of_getElem? (i := 208) rfl) rfl
theorem ml_X0_113 : Cond.methodLink RX0 113 yX0_staysBetween ∈ hf_all := hf_t4 (List.mem_of_getElem? (i := 216) rfl) rfl
theorem ml_X0_117 : Cond.methodLink RX0 117 yX0_fillAgain ∈ hf_all := hf_t4 (List.mem_of_getElem? (i := 212) rfl) rfl
theorem ml_X0_125 : Cond.methodLink RX0 125 yX0_piecesIn ∈ hf_all := hf_t4 (List.mem_of_getElem? (i := 171) rfl) rfl
theorem ml_X0_128 : Cond.methodLink RX0 128 yX0_isPartOf ∈ hf_all := hf_t4 (List.mem_of_getElem? (i := 168) rfl) rfl
theorem ml_X0_132 : Cond.methodLink RX0 132 yX0_fillRow ∈ hf_all := hf_t4 (List.mem_of_getElem? (i := 177) rfl) rfl
theorem ml_X0_138 : Cond.methodLink RX0 138 yX0_pickOf ∈ hf_all := hf_t4 (List.mem_of_getElem? (i := 188) rfl) rfl
theorem ml_X0_142 : Cond.methodLink RX0 142 yJ9_max_7cf53 ∈ hf_all := hf_t4 (List.mem_of_getElem? (i := 192) rfl) rfl
theorem ml_X1_3 : Cond.methodLink RX1 3 Lib.objectInit ∈ hf_all := hf_t1 (List.mem_of_getElem? (i := 220) rfl) rfl
theorem ml_X1_62 : Cond.methodLink RX1 62 yX8_hasKind ∈ hf_all := hf_t4 (List.mem_of_getElem? (i := 104) rfl) rfl
theorem ml_X1_66 : Cond.methodLink RX1 66 yX8_hasStep ∈ hf_all := hf_t4 (List.mem_of_getElem? (i := 105) rfl) rfl
theorem ml_X1_69 : Cond.methodLink RX1 69 yX8_breaks ∈ hf_all := hf_t4 (List.mem_of_getElem? (i := 113) rfl) rfl
theorem ml_X1_76 : Cond.methodLink RX1 76 yJ9_min_7cf53 ∈ hf_all := hf_t4 (List.mem_of_getElem? (i := 117) rfl) rfl
theorem ml_X1_82 : Cond.methodLink RX1 82 yJ9_max_7cf53 ∈ hf_all := hf_t4 (List.mem_of_getElem? (i := 118) rfl) rfl
theorem ml_X1_85 : Cond.methodLink RX1 85 yX8_costOf ∈ hf_all := hf_t4 (List.mem_of_getElem? (i := 121) rfl) rfl
theorem ml_X2_3 : Cond.methodLink RX2 3 Lib.objectInit ∈ hf_all := hf_t2 (List.mem_of_getElem? (i := 170) rfl) rfl
theorem ml_X2_19 : Cond.methodLink RX2 19 yJ7_copyOf_9075b ∈ hf_all := hf_t5 (List.mem_of_getElem? (i := 27) rfl) rfl
theorem ml_X2_25 : Cond.methodLink RX2 25 yX2_fewestFrom ∈ hf_all := hf_t5 (List.mem_of_getElem? (i := 41) rfl) rfl
theorem ml_X2_29 : Cond.methodLink RX2 29 yJ6_bitCount_0f7a4 ∈ hf_all := hf_t5 (List.mem_of_getElem? (i := 45) rfl) rfl
theorem ml_X2_34 : Cond.methodLink RX2 34 yJ9_max_7cf53 ∈ hf_all := hf_t5 (List.mem_of_getElem? (i := 51) rfl) rfl
theorem ml_X2_40 : Cond.methodLink RX2 40 yJ9_min_7cf53 ∈ hf_all := hf_t5 (List.mem_of_getElem? (i := 52) rfl) rfl
theorem ml_X3_3 : Cond.methodLink RX3 3 Lib.objectInit ∈ hf_all := hf_t2 (List.mem_of_getElem? (i := 184) rfl) rfl
theorem ml_X3_38 : Cond.methodLink RX3 38 yX3_close ∈ hf_all := hf_t5 (List.mem_of_getElem? (i := 62) rfl) rfl
theorem ml_X3_42 : Cond.methodLink RX3 42 yX3_settle ∈ hf_all := hf_t5 (List.mem_of_getElem? (i := 66) rfl) rfl
theorem ml_X3_45 : Cond.methodLink RX3 45 yX8_breaks ∈ hf_all := hf_t5 (List.mem_of_getElem? (i := 90) rfl) rfl
theorem ml_X3_51 : Cond.methodLink RX3 51 yX3_isWrong ∈ hf_all := hf_t5 (List.mem_of_getElem? (i := 86) rfl) rfl
theorem ml_X3_55 : Cond.methodLink RX3 55 yX3_wrongAt ∈ hf_all := hf_t5 (List.mem_of_getElem? (i := 103) rfl) rfl
theorem ml_X3_61 : Cond.methodLink RX3 61 yX3_differenceBy ∈ hf_all := hf_t5 (List.mem_of_getElem? (i := 120) rfl) rfl
theorem ml_X3_68 : Cond.methodLink RX3 68 yJ9_abs_0f7a4 ∈ hf_all := hf_t5 (List.mem_of_getElem? (i := 124) rfl) rfl
theorem ml_X4_1 : Cond.methodLink RX4 1 Lib.objectInit ∈ hf_all := hf_t1 (List.mem_of_getElem? (i := 131) rfl) rfl
theorem ml_X4_29 : Cond.methodLink RX4 29 yX4_conditionFrom ∈ hf_all := hf_t4 (List.mem_of_getElem? (i := 47) rfl) rfl
theorem ml_X5_3 : Cond.methodLink RX5 3 Lib.objectInit ∈ hf_all := hf_t1 (List.mem_of_getElem? (i := 97) rfl) rfl
theorem ml_X5_62 : Cond.methodLink RX5 62 yX9_open ∈ hf_all := hf_t3 (List.mem_of_getElem? (i := 86) rfl) rfl
theorem ml_X5_65 : Cond.methodLink RX5 65 yX4_clear ∈ hf_all := hf_t3 (List.mem_of_getElem? (i := 93) rfl) rfl
theorem ml_X5_68 : Cond.methodLink RX5 68 yX9_advance ∈ hf_all := hf_t3 (List.mem_of_getElem? (i := 97) rfl) rfl
theorem ml_X5_74 : Cond.methodLink RX5 74 yX5_take ∈ hf_all := hf_t3 (List.mem_of_getElem? (i := 195) rfl) rfl
theorem ml_X5_82 : Cond.methodLink RX5 82 yX5_takeAtLine ∈ hf_all := hf_t3 (List.mem_of_getElem? (i := 199) rfl) rfl
theorem ml_X5_85 : Cond.methodLink RX5 85 yX5_takeKind ∈ hf_all := hf_t3 (List.mem_of_getElem? (i := 211) rfl) rfl
theorem ml_X5_88 : Cond.methodLink RX5 88 yX5_takeOperand ∈ hf_all := hf_t3 (List.mem_of_getElem? (i := 215) rfl) rfl
theorem ml_X5_91 : Cond.methodLink RX5 91 yX5_takeBehindOperand ∈ hf_all := hf_t4 (List.mem_of_getElem? (i := 9) rfl) rfl
theorem ml_X5_97 : Cond.methodLink RX5 97 yX5_startExpression ∈ hf_all := hf_t3 (List.mem_of_getElem? (i := 203) rfl) rfl
theorem ml_X5_100 : Cond.methodLink RX5 100 yX5_startDeed ∈ hf_all := hf_t3 (List.mem_of_getElem? (i := 207) rfl) rfl
theorem ml_X5_113 : Cond.methodLink RX5 113 yX5_takeOpen ∈ hf_all := hf_t3 (List.mem_of_getElem? (i := 219) rfl) rfl
theorem ml_X5_117 : Cond.methodLink RX5 117 yX5_takeOperator ∈ hf_all := hf_t3 (List.mem_of_getElem? (i := 227) rfl) rfl
theorem ml_X5_120 : Cond.methodLink RX5 120 yX9_isName ∈ hf_all := hf_t4 (List.mem_of_getElem? (i := 6) rfl) rfl
theorem ml_X5_124 : Cond.methodLink RX5 124 yX5_write ∈ hf_all := hf_t4 (List.mem_of_getElem? (i := 1) rfl) rfl
theorem ml_X5_127 : Cond.methodLink RX5 127 yX5_hold ∈ hf_all := hf_t3 (List.mem_of_getElem? (i := 223) rfl) rfl
theorem ml_X5_130 : Cond.methodLink RX5 130 yX5_takeClose ∈ hf_all := hf_t4 (List.mem_of_getElem? (i := 13) rfl) rfl
theorem ml_X5_133 : Cond.methodLink RX5 133 yX9_isComparison ∈ hf_all := hf_t4 (List.mem_of_getElem? (i := 5) rfl) rfl
theorem ml_X5_136 : Cond.methodLink RX5 136 yX9_bindingOf ∈ hf_all := hf_t3 (List.mem_of_getElem? (i := 231) rfl) rfl
theorem ml_X5_139 : Cond.methodLink RX5 139 yX5_release ∈ hf_all := hf_t3 (List.mem_of_getElem? (i := 237) rfl) rfl
theorem ml_X6_3 : Cond.methodLink RX6 3 Lib.objectInit ∈ hf_all := hf_t1 (List.mem_of_getElem? (i := 214) rfl) rfl
theorem ml_X6_11 : Cond.methodLink RX6 11 yX1_init ∈ hf_all := hf_t1 (List.mem_of_getElem? (i := 217) rfl) rfl
theorem ml_X6_37 : Cond.methodLink RX6 37 yX1_start ∈ hf_all := hf_t4 (List.mem_of_getElem? (i := 31) rfl) rfl
theorem ml_X6_47 : Cond.methodLink RX6 47 yX6_takeTurn ∈ hf_all := hf_t4 (List.mem_of_getElem? (i := 35) rfl) rfl
theorem ml_X6_51 : Cond.methodLink RX6 51 yX6_lineThatHolds ∈ hf_all := hf_t4 (List.mem_of_getElem? (i := 39) rfl) rfl
theorem ml_X6_64 : Cond.methodLink RX6 64 yX7_work ∈ hf_all := hf_t4 (List.mem_of_getElem? (i := 52) rfl) rfl
theorem ml_X6_78 : Cond.methodLink RX6 78 yX6_letFall ∈ hf_all := hf_t4 (List.mem_of_getElem? (i := 96) rfl) rfl
theorem ml_X6_85 : Cond.methodLink RX6 85 yX4_hasCondition ∈ hf_all := hf_t4 (List.mem_of_getElem? (i := 43) rfl) rfl
theorem ml_X6_89 : Cond.methodLink RX6 89 yX4_conditionFrom ∈ hf_all := hf_t4 (List.mem_of_getElem? (i := 51) rfl) rfl
theorem ml_X6_98 : Cond.methodLink RX6 98 yX1_canFall ∈ hf_all := hf_t4 (List.mem_of_getElem? (i := 100) rfl) rfl
theorem ml_X6_102 : Cond.methodLink RX6 102 yX1_letFall ∈ hf_all := hf_t4 (List.mem_of_getElem? (i := 109) rfl) rfl
theorem ml_X7_1 : Cond.methodLink RX7 1 Lib.objectInit ∈ hf_all := hf_t2 (List.mem_of_getElem? (i := 44) rfl) rfl
theorem ml_X7_27 : Cond.methodLink RX7 27 yX7_push ∈ hf_all := hf_t4 (List.mem_of_getElem? (i := 56) rfl) rfl
theorem ml_X7_31 : Cond.methodLink RX7 31 yX9_isName ∈ hf_all := hf_t4 (List.mem_of_getElem? (i := 62) rfl) rfl
theorem ml_X7_37 : Cond.methodLink RX7 37 yX7_valueOfName ∈ hf_all := hf_t4 (List.mem_of_getElem? (i := 63) rfl) rfl
theorem ml_X7_41 : Cond.methodLink RX7 41 yX7_operate ∈ hf_all := hf_t4 (List.mem_of_getElem? (i := 74) rfl) rfl
theorem ml_X7_45 : Cond.methodLink RX7 45 yX7_pop ∈ hf_all := hf_t4 (List.mem_of_getElem? (i := 78) rfl) rfl
theorem ml_X7_64 : Cond.methodLink RX7 64 yX1_lastStep ∈ hf_all := hf_t4 (List.mem_of_getElem? (i := 66) rfl) rfl
theorem ml_X7_68 : Cond.methodLink RX7 68 yX1_lastBroke ∈ hf_all := hf_t4 (List.mem_of_getElem? (i := 70) rfl) rfl
theorem ml_X7_74 : Cond.methodLink RX7 74 yX7_multiply ∈ hf_all := hf_t4 (List.mem_of_getElem? (i := 82) rfl) rfl
theorem ml_X7_78 : Cond.methodLink RX7 78 yX7_divide ∈ hf_all := hf_t4 (List.mem_of_getElem? (i := 89) rfl) rfl
theorem ml_X7_81 : Cond.methodLink RX7 81 yX7_holds ∈ hf_all := hf_t4 (List.mem_of_getElem? (i := 93) rfl) rfl
theorem ml_X7_85 : Cond.methodLink RX7 85 yJ9_abs_067f4 ∈ hf_all := hf_t4 (List.mem_of_getElem? (i := 86) rfl) rfl
theorem ml_X8_3 : Cond.methodLink RX8 3 Lib.objectInit ∈ hf_all := hf_t1 (List.mem_of_getElem? (i := 40) rfl) rfl
theorem ml_X8_37 : Cond.methodLink RX8 37 yJ7_fill_53178 ∈ hf_all := hf_t1 (List.mem_of_getElem? (i := 41) rfl) rfl
theorem ml_X9_1 : Cond.methodLink RX9 1 Lib.objectInit ∈ hf_all := hf_t1 (List.mem_of_getElem? (i := 103) rfl) rfl
theorem ml_X9_29 : Cond.methodLink RX9 29 yJ9_min_7cf53 ∈ hf_all := hf_t3 (List.mem_of_getElem? (i := 90) rfl) rfl
theorem ml_X9_35 : Cond.methodLink RX9 35 yX9_isDigitAt ∈ hf_all := hf_t3 (List.mem_of_getElem? (i := 101) rfl) rfl
theorem ml_X9_39 : Cond.methodLink RX9 39 yX9_readNumber ∈ hf_all := hf_t3 (List.mem_of_getElem? (i := 105) rfl) rfl
theorem ml_X9_42 : Cond.methodLink RX9 42 yX9_isLetterAt ∈ hf_all := hf_t3 (List.mem_of_getElem? (i := 109) rfl) rfl
theorem ml_X9_45 : Cond.methodLink RX9 45 yX9_readWord ∈ hf_all := hf_t3 (List.mem_of_getElem? (i := 113) rfl) rfl
theorem ml_X9_48 : Cond.methodLink RX9 48 yX9_readSign ∈ hf_all := hf_t3 (List.mem_of_getElem? (i := 188) rfl) rfl
theorem ml_X9_51 : Cond.methodLink RX9 51 yX9_wordOf ∈ hf_all := hf_t3 (List.mem_of_getElem? (i := 117) rfl) rfl
theorem ml_X9_55 : Cond.methodLink RX9 55 yX9_isWord ∈ hf_all := hf_t3 (List.mem_of_getElem? (i := 136) rfl) rfl
theorem ml_X9_59 : Cond.methodLink RX9 59 yJ0_length_8abf5 ∈ hf_all := hf_t3 (List.mem_of_getElem? (i := 140) rfl) rfl
theorem ml_X9_64 : Cond.methodLink RX9 64 yJ0_charAt_5068e ∈ hf_all := hf_t3 (List.mem_of_getElem? (i := 150) rfl) rfl
theorem ml_X9_68 : Cond.methodLink RX9 68 yX9_signOf ∈ hf_all := hf_t3 (List.mem_of_getElem? (i := 192) rfl) rfl
theorem ml_X9_72 : Cond.methodLink RX9 72 yX9_isComparison ∈ hf_all := hf_t3 (List.mem_of_getElem? (i := 234) rfl) rfl
theorem ml_X10_3 : Cond.methodLink RX10 3 Lib.objectInit ∈ hf_all := hf_t2 (List.mem_of_getElem? (i := 145) rfl) rfl
theorem ml_X10_31 : Cond.methodLink RX10 31 yX10_makeRoom ∈ hf_all := hf_t4 (List.mem_of_getElem? (i := 228) rfl) rfl
theorem ml_X10_39 : Cond.methodLink RX10 39 yX10_fillWithoutPieces ∈ hf_all := hf_t4 (List.mem_of_getElem? (i := 232) rfl) rfl
theorem ml_X10_42 : Cond.methodLink RX10 42 yX10_fillHigh ∈ hf_all := hf_t4 (List.mem_of_getElem? (i := 239) rfl) rfl
theorem ml_X10_51 : Cond.methodLink RX10 51 yJ7_fill_53178 ∈ hf_all := hf_t4 (List.mem_of_getElem? (i := 237) rfl) rfl
theorem ml_X10_57 : Cond.methodLink RX10 57 yX10_fewestFrom ∈ hf_all := hf_t5 (List.mem_of_getElem? (i := 3) rfl) rfl
theorem ml_X10_61 : Cond.methodLink RX10 61 yJ9_max_7cf53 ∈ hf_all := hf_t5 (List.mem_of_getElem? (i := 7) rfl) rfl
theorem ml_X10_66 : Cond.methodLink RX10 66 yJ9_min_7cf53 ∈ hf_all := hf_t5 (List.mem_of_getElem? (i := 8) rfl) rfl
theorem ml_L_7 : Cond.methodLink RL 7 yX11_look ∈ hf_all := hf_t5 (List.mem_of_getElem? (i := 175) rfl) rfl
theorem ml_L_17 : Cond.methodLink RL 17 yX11_init ∈ hf_all := hf_t1 (List.mem_of_getElem? (i := 29) rfl) rfl
theorem ml_L_20 : Cond.methodLink RL 20 yX12_init ∈ hf_all := hf_t6 (List.mem_of_getElem? (i := 23) rfl) rfl
theorem ml_L_21 : Cond.methodLink RL 21 yX11_feed ∈ hf_all := hf_t3 (List.mem_of_getElem? (i := 19) rfl) rfl
theorem ml_L_25 : Cond.methodLink RL 25 yX12_feed ∈ hf_all := hf_t7 (List.mem_of_getElem? (i := 2) rfl) rfl
theorem ml_L_26 : Cond.methodLink RL 26 yX11_stair ∈ hf_all := hf_t3 (List.mem_of_getElem? (i := 27) rfl) rfl
theorem ml_L_30 : Cond.methodLink RL 30 yX12_stair ∈ hf_all := hf_t7 (List.mem_of_getElem? (i := 6) rfl) rfl
theorem ml_L_31 : Cond.methodLink RL 31 yX11_kind ∈ hf_all := hf_t3 (List.mem_of_getElem? (i := 39) rfl) rfl
theorem ml_L_35 : Cond.methodLink RL 35 yX12_kind ∈ hf_all := hf_t7 (List.mem_of_getElem? (i := 13) rfl) rfl
theorem ml_L_36 : Cond.methodLink RL 36 yX11_cost ∈ hf_all := hf_t3 (List.mem_of_getElem? (i := 54) rfl) rfl
theorem ml_L_40 : Cond.methodLink RL 40 yX12_cost ∈ hf_all := hf_t7 (List.mem_of_getElem? (i := 20) rfl) rfl
theorem ml_L_41 : Cond.methodLink RL 41 yX11_weight ∈ hf_all := hf_t3 (List.mem_of_getElem? (i := 62) rfl) rfl
theorem ml_L_44 : Cond.methodLink RL 44 yX12_weight ∈ hf_all := hf_t7 (List.mem_of_getElem? (i := 24) rfl) rfl
theorem ml_L_45 : Cond.methodLink RL 45 yL_look ∈ hf_all := hf_t5 (List.mem_of_getElem? (i := 170) rfl) rfl
theorem ml_L_50 : Cond.methodLink RL 50 yX12_look ∈ hf_all := hf_t7 (List.mem_of_getElem? (i := 32) rfl) rfl
theorem ml_L_51 : Cond.methodLink RL 51 yX12_thrown ∈ hf_all := hf_t6 (List.mem_of_getElem? (i := 238) rfl) rfl
theorem ml_L_55 : Cond.methodLink RL 55 yX11_likely ∈ hf_all := hf_t3 (List.mem_of_getElem? (i := 74) rfl) rfl
theorem ml_L_59 : Cond.methodLink RL 59 yX12_likely ∈ hf_all := hf_t7 (List.mem_of_getElem? (i := 40) rfl) rfl
theorem ml_L_60 : Cond.methodLink RL 60 yX11_plan ∈ hf_all := hf_t3 (List.mem_of_getElem? (i := 78) rfl) rfl
theorem ml_L_63 : Cond.methodLink RL 63 yX12_plan ∈ hf_all := hf_t7 (List.mem_of_getElem? (i := 44) rfl) rfl
theorem ml_L_64 : Cond.methodLink RL 64 yX11_fault ∈ hf_all := hf_t4 (List.mem_of_getElem? (i := 17) rfl) rfl
theorem ml_L_67 : Cond.methodLink RL 67 yX12_fault ∈ hf_all := hf_t7 (List.mem_of_getElem? (i := 127) rfl) rfl
theorem ml_L_68 : Cond.methodLink RL 68 yX11_tried ∈ hf_all := hf_t4 (List.mem_of_getElem? (i := 21) rfl) rfl
theorem ml_L_72 : Cond.methodLink RL 72 yX12_tried ∈ hf_all := hf_t7 (List.mem_of_getElem? (i := 131) rfl) rfl
theorem ml_L_73 : Cond.methodLink RL 73 yX11_fall ∈ hf_all := hf_t4 (List.mem_of_getElem? (i := 125) rfl) rfl
theorem ml_L_77 : Cond.methodLink RL 77 yX12_fall ∈ hf_all := hf_t7 (List.mem_of_getElem? (i := 174) rfl) rfl
theorem ml_L_78 : Cond.methodLink RL 78 yX11_judge ∈ hf_all := hf_t4 (List.mem_of_getElem? (i := 133) rfl) rfl
theorem ml_L_82 : Cond.methodLink RL 82 yX12_judge ∈ hf_all := hf_t7 (List.mem_of_getElem? (i := 178) rfl) rfl
theorem ml_L_83 : Cond.methodLink RL 83 yX11_best ∈ hf_all := hf_t4 (List.mem_of_getElem? (i := 144) rfl) rfl
theorem ml_L_86 : Cond.methodLink RL 86 yX12_best ∈ hf_all := hf_t7 (List.mem_of_getElem? (i := 182) rfl) rfl
theorem ml_L_87 : Cond.methodLink RL 87 yX11_next ∈ hf_all := hf_t4 (List.mem_of_getElem? (i := 195) rfl) rfl
theorem ml_L_91 : Cond.methodLink RL 91 yX12_next ∈ hf_all := hf_t7 (List.mem_of_getElem? (i := 219) rfl) rfl
theorem ml_L_92 : Cond.methodLink RL 92 yX11_edge ∈ hf_all := hf_t4 (List.mem_of_getElem? (i := 199) rfl) rfl
theorem ml_L_95 : Cond.methodLink RL 95 yX12_edge ∈ hf_all := hf_t7 (List.mem_of_getElem? (i := 223) rfl) rfl
theorem ml_L_96 : Cond.methodLink RL 96 yX11_weak ∈ hf_all := hf_t4 (List.mem_of_getElem? (i := 220) rfl) rfl
theorem ml_L_99 : Cond.methodLink RL 99 yX12_weak ∈ hf_all := hf_t7 (List.mem_of_getElem? (i := 227) rfl) rfl
theorem ml_L_100 : Cond.methodLink RL 100 yX11_rounds ∈ hf_all := hf_t5 (List.mem_of_getElem? (i := 9) rfl) rfl
theorem ml_L_103 : Cond.methodLink RL 103 yX12_rounds ∈ hf_all := hf_t8 (List.mem_of_getElem? (i := 0) rfl) rfl
theorem ml_L_104 : Cond.methodLink RL 104 yX11_lies ∈ hf_all := hf_t5 (List.mem_of_getElem? (i := 19) rfl) rfl
theorem ml_L_107 : Cond.methodLink RL 107 yX12_lies ∈ hf_all := hf_t8 (List.mem_of_getElem? (i := 4) rfl) rfl
theorem ml_L_108 : Cond.methodLink RL 108 yX11_note ∈ hf_all := hf_t5 (List.mem_of_getElem? (i := 53) rfl) rfl
theorem ml_L_112 : Cond.methodLink RL 112 yX12_note ∈ hf_all := hf_t8 (List.mem_of_getElem? (i := 24) rfl) rfl
theorem ml_L_113 : Cond.methodLink RL 113 yX11_strike ∈ hf_all := hf_t5 (List.mem_of_getElem? (i := 70) rfl) rfl
theorem ml_L_116 : Cond.methodLink RL 116 yX12_strike ∈ hf_all := hf_t8 (List.mem_of_getElem? (i := 32) rfl) rfl
theorem ml_L_117 : Cond.methodLink RL 117 yX11_fitting ∈ hf_all := hf_t5 (List.mem_of_getElem? (i := 78) rfl) rfl
theorem ml_L_120 : Cond.methodLink RL 120 yX12_fitting ∈ hf_all := hf_t8 (List.mem_of_getElem? (i := 36) rfl) rfl
theorem ml_L_121 : Cond.methodLink RL 121 yX11_doubt ∈ hf_all := hf_t5 (List.mem_of_getElem? (i := 91) rfl) rfl
theorem ml_L_124 : Cond.methodLink RL 124 yX12_doubt ∈ hf_all := hf_t8 (List.mem_of_getElem? (i := 52) rfl) rfl
theorem ml_L_125 : Cond.methodLink RL 125 yX11_least ∈ hf_all := hf_t5 (List.mem_of_getElem? (i := 95) rfl) rfl
theorem ml_L_128 : Cond.methodLink RL 128 yX12_least ∈ hf_all := hf_t8 (List.mem_of_getElem? (i := 56) rfl) rfl
theorem ml_L_129 : Cond.methodLink RL 129 yX11_doubted ∈ hf_all := hf_t5 (List.mem_of_getElem? (i := 104) rfl) rfl
theorem ml_L_132 : Cond.methodLink RL 132 yX12_doubted ∈ hf_all := hf_t8 (List.mem_of_getElem? (i := 64) rfl) rfl
theorem ml_L_133 : Cond.methodLink RL 133 yX11_parts ∈ hf_all := hf_t5 (List.mem_of_getElem? (i := 112) rfl) rfl
theorem ml_L_136 : Cond.methodLink RL 136 yX12_parts ∈ hf_all := hf_t8 (List.mem_of_getElem? (i := 68) rfl) rfl
theorem ml_L_137 : Cond.methodLink RL 137 yX11_begin ∈ hf_all := hf_t5 (List.mem_of_getElem? (i := 127) rfl) rfl
theorem ml_L_140 : Cond.methodLink RL 140 yX12_begin ∈ hf_all := hf_t8 (List.mem_of_getElem? (i := 72) rfl) rfl
theorem ml_L_141 : Cond.methodLink RL 141 yX11_drop ∈ hf_all := hf_t5 (List.mem_of_getElem? (i := 144) rfl) rfl
theorem ml_L_144 : Cond.methodLink RL 144 yX12_drop ∈ hf_all := hf_t8 (List.mem_of_getElem? (i := 84) rfl) rfl
theorem ml_L_145 : Cond.methodLink RL 145 yX11_back ∈ hf_all := hf_t5 (List.mem_of_getElem? (i := 150) rfl) rfl
theorem ml_L_148 : Cond.methodLink RL 148 yX12_back ∈ hf_all := hf_t8 (List.mem_of_getElem? (i := 92) rfl) rfl
theorem ml_L_149 : Cond.methodLink RL 149 yX11_now ∈ hf_all := hf_t5 (List.mem_of_getElem? (i := 158) rfl) rfl
theorem ml_L_152 : Cond.methodLink RL 152 yX12_now ∈ hf_all := hf_t8 (List.mem_of_getElem? (i := 96) rfl) rfl
theorem ml_L_153 : Cond.methodLink RL 153 yX11_count ∈ hf_all := hf_t5 (List.mem_of_getElem? (i := 166) rfl) rfl
theorem ml_L_156 : Cond.methodLink RL 156 yX12_count ∈ hf_all := hf_t8 (List.mem_of_getElem? (i := 104) rfl) rfl
theorem ml_X12_1 : Cond.methodLink RX12 1 Lib.objectInit ∈ hf_all := hf_t6 (List.mem_of_getElem? (i := 26) rfl) rfl
theorem ml_X12_133 : Cond.methodLink RX12 133 yX12_isIn ∈ hf_all := hf_t7 (List.mem_of_getElem? (i := 10) rfl) rfl
theorem ml_X12_144 : Cond.methodLink RX12 144 yX12_isKind ∈ hf_all := hf_t7 (List.mem_of_getElem? (i := 17) rfl) rfl
theorem ml_X12_151 : Cond.methodLink RX12 151 yX12_isStrength ∈ hf_all := hf_t7 (List.mem_of_getElem? (i := 28) rfl) rfl
theorem ml_X12_154 : Cond.methodLink RX12 154 yX12_fails ∈ hf_all := hf_t7 (List.mem_of_getElem? (i := 36) rfl) rfl
theorem ml_X12_173 : Cond.methodLink RX12 173 yX12_isSmall ∈ hf_all := hf_t7 (List.mem_of_getElem? (i := 52) rfl) rfl
theorem ml_X12_176 : Cond.methodLink RX12 176 yX12_wordAt ∈ hf_all := hf_t7 (List.mem_of_getElem? (i := 56) rfl) rfl
theorem ml_X12_183 : Cond.methodLink RX12 183 yX12_isDigit ∈ hf_all := hf_t7 (List.mem_of_getElem? (i := 60) rfl) rfl
theorem ml_X12_186 : Cond.methodLink RX12 186 yX12_takeSign ∈ hf_all := hf_t7 (List.mem_of_getElem? (i := 64) rfl) rfl
theorem ml_X12_189 : Cond.methodLink RX12 189 yX12_wrong ∈ hf_all := hf_t7 (List.mem_of_getElem? (i := 76) rfl) rfl
theorem ml_X12_201 : Cond.methodLink RX12 201 yX12_rank ∈ hf_all := hf_t7 (List.mem_of_getElem? (i := 120) rfl) rfl
theorem ml_X12_204 : Cond.methodLink RX12 204 yX12_dropHeld ∈ hf_all := hf_t7 (List.mem_of_getElem? (i := 123) rfl) rfl
theorem ml_X12_208 : Cond.methodLink RX12 208 yX12_grown ∈ hf_all := hf_t7 (List.mem_of_getElem? (i := 108) rfl) rfl
theorem ml_X12_215 : Cond.methodLink RX12 215 yX12_isSign ∈ hf_all := hf_t7 (List.mem_of_getElem? (i := 88) rfl) rfl
theorem ml_X12_221 : Cond.methodLink RX12 221 yX12_waitsFor ∈ hf_all := hf_t7 (List.mem_of_getElem? (i := 96) rfl) rfl
theorem ml_X12_228 : Cond.methodLink RX12 228 yX12_take ∈ hf_all := hf_t7 (List.mem_of_getElem? (i := 48) rfl) rfl
theorem ml_X12_231 : Cond.methodLink RX12 231 yX12_isKey ∈ hf_all := hf_t7 (List.mem_of_getElem? (i := 72) rfl) rfl
theorem ml_X12_234 : Cond.methodLink RX12 234 yX12_isCounted ∈ hf_all := hf_t7 (List.mem_of_getElem? (i := 100) rfl) rfl
theorem ml_X12_238 : Cond.methodLink RX12 238 yX12_numberRead ∈ hf_all := hf_t7 (List.mem_of_getElem? (i := 104) rfl) rfl
theorem ml_X12_245 : Cond.methodLink RX12 245 yX12_bind ∈ hf_all := hf_t7 (List.mem_of_getElem? (i := 116) rfl) rfl
theorem ml_X12_248 : Cond.methodLink RX12 248 yX12_signMet ∈ hf_all := hf_t7 (List.mem_of_getElem? (i := 84) rfl) rfl
theorem ml_X12_251 : Cond.methodLink RX12 251 yX12_leafRead ∈ hf_all := hf_t7 (List.mem_of_getElem? (i := 92) rfl) rfl
theorem ml_X12_254 : Cond.methodLink RX12 254 yX12_signs ∈ hf_all := hf_t7 (List.mem_of_getElem? (i := 112) rfl) rfl
theorem ml_X12_260 : Cond.methodLink RX12 260 yX12_sumRead ∈ hf_all := hf_t7 (List.mem_of_getElem? (i := 80) rfl) rfl
theorem ml_X12_263 : Cond.methodLink RX12 263 yX12_lineRead ∈ hf_all := hf_t7 (List.mem_of_getElem? (i := 68) rfl) rfl
theorem ml_X12_282 : Cond.methodLink RX12 282 yX12_bounded ∈ hf_all := hf_t7 (List.mem_of_getElem? (i := 153) rfl) rfl
theorem ml_X12_286 : Cond.methodLink RX12 286 yX12_times ∈ hf_all := hf_t7 (List.mem_of_getElem? (i := 159) rfl) rfl
theorem ml_X12_290 : Cond.methodLink RX12 290 yX12_compares ∈ hf_all := hf_t7 (List.mem_of_getElem? (i := 163) rfl) rfl
theorem ml_X12_294 : Cond.methodLink RX12 294 yX12_worthOf ∈ hf_all := hf_t7 (List.mem_of_getElem? (i := 149) rfl) rfl
theorem ml_X12_298 : Cond.methodLink RX12 298 yX12_sumOf ∈ hf_all := hf_t7 (List.mem_of_getElem? (i := 145) rfl) rfl
theorem ml_X12_320 : Cond.methodLink RX12 320 yX12_lineNow ∈ hf_all := hf_t7 (List.mem_of_getElem? (i := 141) rfl) rfl
theorem ml_X12_323 : Cond.methodLink RX12 323 yX12_lets ∈ hf_all := hf_t7 (List.mem_of_getElem? (i := 166) rfl) rfl
theorem ml_X12_326 : Cond.methodLink RX12 326 yX12_breaks ∈ hf_all := hf_t7 (List.mem_of_getElem? (i := 170) rfl) rfl
theorem ml_X12_332 : Cond.methodLink RX12 332 yX12_runs ∈ hf_all := hf_t7 (List.mem_of_getElem? (i := 137) rfl) rfl
theorem ml_X12_335 : Cond.methodLink RX12 335 yX12_bestAt ∈ hf_all := hf_t7 (List.mem_of_getElem? (i := 208) rfl) rfl
theorem ml_X12_339 : Cond.methodLink RX12 339 yX12_oneOf ∈ hf_all := hf_t7 (List.mem_of_getElem? (i := 212) rfl) rfl
theorem ml_X12_342 : Cond.methodLink RX12 342 yX12_costOf ∈ hf_all := hf_t7 (List.mem_of_getElem? (i := 215) rfl) rfl
theorem ml_X12_351 : Cond.methodLink RX12 351 yX12_leftOf ∈ hf_all := hf_t7 (List.mem_of_getElem? (i := 197) rfl) rfl
theorem ml_X12_354 : Cond.methodLink RX12 354 yX12_ofFall ∈ hf_all := hf_t7 (List.mem_of_getElem? (i := 204) rfl) rfl
theorem ml_X12_358 : Cond.methodLink RX12 358 yX12_isWithin ∈ hf_all := hf_t7 (List.mem_of_getElem? (i := 194) rfl) rfl
theorem ml_X12_361 : Cond.methodLink RX12 361 yX12_bestOf ∈ hf_all := hf_t7 (List.mem_of_getElem? (i := 200) rfl) rfl
theorem ml_X12_365 : Cond.methodLink RX12 365 yX12_allPieces ∈ hf_all := hf_t7 (List.mem_of_getElem? (i := 186) rfl) rfl
theorem ml_X12_368 : Cond.methodLink RX12 368 yX12_layBest ∈ hf_all := hf_t7 (List.mem_of_getElem? (i := 190) rfl) rfl
theorem ml_X12_372 : Cond.methodLink RX12 372 yX12_weakAt ∈ hf_all := hf_t7 (List.mem_of_getElem? (i := 235) rfl) rfl
theorem ml_X12_376 : Cond.methodLink RX12 376 yX12_weakBest ∈ hf_all := hf_t7 (List.mem_of_getElem? (i := 231) rfl) rfl
theorem ml_X12_380 : Cond.methodLink RX12 380 yX12_digitOf ∈ hf_all := hf_t8 (List.mem_of_getElem? (i := 16) rfl) rfl
theorem ml_X12_384 : Cond.methodLink RX12 384 yX12_canBe ∈ hf_all := hf_t8 (List.mem_of_getElem? (i := 12) rfl) rfl
theorem ml_X12_387 : Cond.methodLink RX12 387 yX12_moreLies ∈ hf_all := hf_t8 (List.mem_of_getElem? (i := 20) rfl) rfl
theorem ml_X12_390 : Cond.methodLink RX12 390 yX12_sureFrom ∈ hf_all := hf_t8 (List.mem_of_getElem? (i := 8) rfl) rfl
theorem ml_X12_393 : Cond.methodLink RX12 393 yX12_isStep ∈ hf_all := hf_t8 (List.mem_of_getElem? (i := 28) rfl) rfl
theorem ml_X12_396 : Cond.methodLink RX12 396 yX12_isAgainst ∈ hf_all := hf_t8 (List.mem_of_getElem? (i := 48) rfl) rfl
theorem ml_X12_399 : Cond.methodLink RX12 399 yX12_layCounts ∈ hf_all := hf_t8 (List.mem_of_getElem? (i := 40) rfl) rfl
theorem ml_X12_402 : Cond.methodLink RX12 402 yX12_doubtOf ∈ hf_all := hf_t8 (List.mem_of_getElem? (i := 44) rfl) rfl
theorem ml_X12_405 : Cond.methodLink RX12 405 yX12_leastDoubted ∈ hf_all := hf_t8 (List.mem_of_getElem? (i := 60) rfl) rfl
theorem ml_X12_408 : Cond.methodLink RX12 408 yX12_weightsOf ∈ hf_all := hf_t8 (List.mem_of_getElem? (i := 76) rfl) rfl
theorem ml_X12_425 : Cond.methodLink RX12 425 yX12_leftNow ∈ hf_all := hf_t8 (List.mem_of_getElem? (i := 88) rfl) rfl
theorem ml_X12_428 : Cond.methodLink RX12 428 yX12_bound ∈ hf_all := hf_t8 (List.mem_of_getElem? (i := 100) rfl) rfl
theorem ml_J0_335 : Cond.methodLink RJ0 335 yJ0_coder_7d493 ∈ hf_all := hf_t3 (List.mem_of_getElem? (i := 144) rfl) rfl
theorem ml_J0_492 : Cond.methodLink RJ0 492 yJ0_isLatin1_aae02 ∈ hf_all := hf_t3 (List.mem_of_getElem? (i := 154) rfl) rfl
theorem ml_J0_495 : Cond.methodLink RJ0 495 yJ1_charAt_3b067 ∈ hf_all := hf_t3 (List.mem_of_getElem? (i := 158) rfl) rfl
theorem ml_J0_498 : Cond.methodLink RJ0 498 yJ2_charAt_3b067 ∈ hf_all := hf_t3 (List.mem_of_getElem? (i := 169) rfl) rfl
theorem ml_J0_1059 : Cond.methodLink RJ0 1059 yJ3_checkIndex_8e157 ∈ hf_all := hf_t3 (List.mem_of_getElem? (i := 166) rfl) rfl
theorem ml_J1_9 : Cond.methodLink RJ1 9 yJ0_checkIndex_df160 ∈ hf_all := hf_t3 (List.mem_of_getElem? (i := 161) rfl) rfl
theorem ml_J2_48 : Cond.methodLink RJ2 48 yJ2_length_9d52b ∈ hf_all := hf_t3 (List.mem_of_getElem? (i := 175) rfl) rfl
theorem ml_J2_67 : Cond.methodLink RJ2 67 yJ2_checkIndex_2214a ∈ hf_all := hf_t3 (List.mem_of_getElem? (i := 172) rfl) rfl
theorem ml_J2_71 : Cond.methodLink RJ2 71 yJ2_getChar_3b067 ∈ hf_all := hf_t3 (List.mem_of_getElem? (i := 179) rfl) rfl
theorem ml_J2_414 : Cond.methodLink RJ2 414 yJ0_checkIndex_df160 ∈ hf_all := hf_t3 (List.mem_of_getElem? (i := 178) rfl) rfl
theorem ml_J7_304 : Cond.methodLink RJ7 304 yJ9_min_7cf53 ∈ hf_all := hf_t5 (List.mem_of_getElem? (i := 37) rfl) rfl
theorem mn_X11_26 : Cond.methodLinkNest RX11 26 yX5_init RX11 ∈ hf_nest := by simp [hf_nest]
theorem mn_X11_33 : Cond.methodLinkNest RX11 33 yX4_init RX11 ∈ hf_nest := by simp [hf_nest]
theorem mn_X11_47 : Cond.methodLinkNest RX11 47 yX6_init RX11 ∈ hf_nest := by simp [hf_nest]
theorem mn_X11_54 : Cond.methodLinkNest RX11 54 yX0_init RX11 ∈ hf_nest := by simp [hf_nest]
theorem mn_X11_61 : Cond.methodLinkNest RX11 61 yX10_init RX11 ∈ hf_nest := by simp [hf_nest]
theorem mn_X11_71 : Cond.methodLinkNest RX11 71 yX2_init RX11 ∈ hf_nest := by simp [hf_nest]
theorem mn_X11_78 : Cond.methodLinkNest RX11 78 yX3_init RX11 ∈ hf_nest := by simp [hf_nest]
theorem mn_X0_121 : Cond.methodLinkNest RX0 121 yX11_unitOf RX11 ∈ hf_nest := by simp [hf_nest]
theorem mn_X0_135 : Cond.methodLinkNest RX0 135 yX11_spanAt RX11 ∈ hf_nest := by simp [hf_nest]
theorem mn_X5_11 : Cond.methodLinkNest RX5 11 yX9_init RX11 ∈ hf_nest := by simp [hf_nest]
theorem mn_X5_20 : Cond.methodLinkNest RX5 20 yX4_init RX11 ∈ hf_nest := by simp [hf_nest]
theorem mn_X6_22 : Cond.methodLinkNest RX6 22 yX7_init RX11 ∈ hf_nest := by simp [hf_nest]
theorem mn_X10_46 : Cond.methodLinkNest RX10 46 yX11_spanAt RX11 ∈ hf_nest := by simp [hf_nest]
theorem cl_X11_7 : Cond.classLink RX11 7 RX8 ∈ hf_all := hf_t1 (List.mem_of_getElem? (i := 35) rfl) rfl
theorem cl_X11_24 : Cond.classLink RX11 24 RX5 ∈ hf_all := hf_t1 (List.mem_of_getElem? (i := 92) rfl) rfl
theorem cl_X11_31 : Cond.classLink RX11 31 RX4 ∈ hf_all := hf_t1 (List.mem_of_getElem? (i := 207) rfl) rfl
theorem cl_X11_45 : Cond.classLink RX11 45 RX6 ∈ hf_all := hf_t1 (List.mem_of_getElem? (i := 209) rfl) rfl
theorem cl_X11_52 : Cond.classLink RX11 52 RX0 ∈ hf_all := hf_t2 (List.mem_of_getElem? (i := 74) rfl) rfl
theorem cl_X11_59 : Cond.classLink RX11 59 RX10 ∈ hf_all := hf_t2 (List.mem_of_getElem? (i := 140) rfl) rfl
theorem cl_X11_69 : Cond.classLink RX11 69 RX2 ∈ hf_all := hf_t2 (List.mem_of_getElem? (i := 165) rfl) rfl
theorem cl_X11_76 : Cond.classLink RX11 76 RX3 ∈ hf_all := hf_t2 (List.mem_of_getElem? (i := 179) rfl) rfl
theorem cl_X11_83 : Cond.classLink RX11 83 RX1 ∈ hf_all := hf_t2 (List.mem_of_getElem? (i := 211) rfl) rfl
theorem cl_X0_9 : Cond.classLink RX0 9 (FieldType.array .int).toString ∈ hf_all := hf_t2 (List.mem_of_getElem? (i := 80) rfl) rfl
theorem cl_X5_9 : Cond.classLink RX5 9 RX9 ∈ hf_all := hf_t1 (List.mem_of_getElem? (i := 98) rfl) rfl
theorem cl_X5_18 : Cond.classLink RX5 18 RX4 ∈ hf_all := hf_t1 (List.mem_of_getElem? (i := 126) rfl) rfl
theorem cl_X6_9 : Cond.classLink RX6 9 RX1 ∈ hf_all := hf_t1 (List.mem_of_getElem? (i := 215) rfl) rfl
theorem cl_X6_20 : Cond.classLink RX6 20 RX7 ∈ hf_all := hf_t2 (List.mem_of_getElem? (i := 39) rfl) rfl
theorem cl_L_8 : Cond.classLink RL 8 RX11 ∈ hf_all := hf_t1 (List.mem_of_getElem? (i := 27) rfl) rfl
theorem cl_L_18 : Cond.classLink RL 18 RX12 ∈ hf_all := hf_t6 (List.mem_of_getElem? (i := 21) rfl) rfl
theorem co_X0_61 : Cond.constant RX0 61 1000000000 ∈ hf_all := hf_t2 (List.mem_of_getElem? (i := 82) rfl) rfl
theorem co_X10_50 : Cond.constant RX10 50 1000000000 ∈ hf_all := hf_t4 (List.mem_of_getElem? (i := 236) rfl) rfl
theorem co_X12_84 : Cond.constant RX12 84 210125 ∈ hf_all := hf_t6 (List.mem_of_getElem? (i := 27) rfl) rfl
theorem co_X12_91 : Cond.constant RX12 91 344605 ∈ hf_all := hf_t6 (List.mem_of_getElem? (i := 28) rfl) rfl
theorem co_X12_98 : Cond.constant RX12 98 65536 ∈ hf_all := hf_t6 (List.mem_of_getElem? (i := 29) rfl) rfl
theorem co_X12_371 : Cond.constant RX12 371 1000000 ∈ hf_all := hf_t7 (List.mem_of_getElem? (i := 239) rfl) rfl
theorem co_J6_265 : Cond.constant RJ6 265 1431655765 ∈ hf_all := hf_t5 (List.mem_of_getElem? (i := 48) rfl) rfl
theorem co_J6_266 : Cond.constant RJ6 266 858993459 ∈ hf_all := hf_t5 (List.mem_of_getElem? (i := 49) rfl) rfl
theorem co_J6_267 : Cond.constant RJ6 267 252645135 ∈ hf_all := hf_t5 (List.mem_of_getElem? (i := 50) rfl) rfl
theorem co_X11_163 : Cond.constantLong RX11 163 (-2) ∈ hf_all := hf_t4 (List.mem_of_getElem? (i := 25) rfl) rfl
theorem co_X11_165 : Cond.constantLong RX11 165 (-1) ∈ hf_all := hf_t4 (List.mem_of_getElem? (i := 26) rfl) rfl
theorem co_X11_272 : Cond.constantLong RX11 272 1103515245 ∈ hf_all := hf_t5 (List.mem_of_getElem? (i := 135) rfl) rfl
theorem co_X11_274 : Cond.constantLong RX11 274 12345 ∈ hf_all := hf_t5 (List.mem_of_getElem? (i := 136) rfl) rfl
theorem co_X11_276 : Cond.constantLong RX11 276 2147483647 ∈ hf_all := hf_t5 (List.mem_of_getElem? (i := 137) rfl) rfl
theorem co_X11_278 : Cond.constantLong RX11 278 65536 ∈ hf_all := hf_t5 (List.mem_of_getElem? (i := 138) rfl) rfl
theorem co_X0_95 : Cond.constantLong RX0 95 (-2) ∈ hf_all := hf_t4 (List.mem_of_getElem? (i := 194) rfl) rfl
theorem co_X6_31 : Cond.constantLong RX6 31 (-1) ∈ hf_all := hf_t2 (List.mem_of_getElem? (i := 57) rfl) rfl
theorem co_X7_49 : Cond.constantLong RX7 49 1000000000000 ∈ hf_all := hf_t4 (List.mem_of_getElem? (i := 60) rfl) rfl
theorem co_X7_51 : Cond.constantLong RX7 51 (-1000000000000) ∈ hf_all := hf_t4 (List.mem_of_getElem? (i := 61) rfl) rfl
theorem co_X12_278 : Cond.constantLong RX12 278 1000000000000 ∈ hf_all := hf_t7 (List.mem_of_getElem? (i := 157) rfl) rfl
theorem co_X12_280 : Cond.constantLong RX12 280 (-1000000000000) ∈ hf_all := hf_t7 (List.mem_of_getElem? (i := 158) rfl) rfl
theorem co_X12_312 : Cond.constantLong RX12 312 (-1) ∈ hf_all := hf_t7 (List.mem_of_getElem? (i := 136) rfl) rfl
theorem co_X12_330 : Cond.constantLong RX12 330 (-2) ∈ hf_all := hf_t7 (List.mem_of_getElem? (i := 135) rfl) rfl
theorem co_X12_411 : Cond.constantLong RX12 411 1103515245 ∈ hf_all := hf_t8 (List.mem_of_getElem? (i := 80) rfl) rfl
theorem co_X12_413 : Cond.constantLong RX12 413 12345 ∈ hf_all := hf_t8 (List.mem_of_getElem? (i := 81) rfl) rfl
theorem co_X12_415 : Cond.constantLong RX12 415 2147483647 ∈ hf_all := hf_t8 (List.mem_of_getElem? (i := 82) rfl) rfl
theorem co_X12_417 : Cond.constantLong RX12 417 65536 ∈ hf_all := hf_t8 (List.mem_of_getElem? (i := 83) rfl) rfl
theorem ac_int : Cond.arrayClass .int ∈ hf_all := hf_t1 (List.mem_of_getElem? (i := 91) rfl) rfl
theorem ac_long : Cond.arrayClass .long ∈ hf_all := hf_t2 (List.mem_of_getElem? (i := 56) rfl) rfl
theorem ac_byte : Cond.arrayClass .byte ∈ hf_all := hf_t2 (List.mem_of_getElem? (i := 178) rfl) rfl
theorem ac_boolean : Cond.arrayClass .boolean ∈ hf_all := hf_t1 (List.mem_of_getElem? (i := 206) rfl) rfl
theorem ii_X0 : Cond.initialized RX0 ∈ hf_all := hf_t1 (List.mem_of_getElem? (i := 10) rfl) rfl
theorem it_X0 : Cond.instantiable RX0 18 ∈ hf_all := hf_t2 (List.mem_of_getElem? (i := 75) rfl) rfl
theorem ii_X1 : Cond.initialized RX1 ∈ hf_all := hf_t1 (List.mem_of_getElem? (i := 8) rfl) rfl
theorem it_X1 : Cond.instantiable RX1 14 ∈ hf_all := hf_t1 (List.mem_of_getElem? (i := 216) rfl) rfl
theorem ii_X2 : Cond.initialized RX2 ∈ hf_all := hf_t1 (List.mem_of_getElem? (i := 12) rfl) rfl
theorem it_X2 : Cond.instantiable RX2 2 ∈ hf_all := hf_t2 (List.mem_of_getElem? (i := 166) rfl) rfl
theorem ii_X3 : Cond.initialized RX3 ∈ hf_all := hf_t1 (List.mem_of_getElem? (i := 13) rfl) rfl
theorem it_X3 : Cond.instantiable RX3 8 ∈ hf_all := hf_t2 (List.mem_of_getElem? (i := 180) rfl) rfl
theorem ii_X4 : Cond.initialized RX4 ∈ hf_all := hf_t1 (List.mem_of_getElem? (i := 6) rfl) rfl
theorem it_X4 : Cond.instantiable RX4 6 ∈ hf_all := hf_t1 (List.mem_of_getElem? (i := 127) rfl) rfl
theorem ii_X5 : Cond.initialized RX5 ∈ hf_all := hf_t1 (List.mem_of_getElem? (i := 4) rfl) rfl
theorem it_X5 : Cond.instantiable RX5 13 ∈ hf_all := hf_t1 (List.mem_of_getElem? (i := 93) rfl) rfl
theorem ii_X6 : Cond.initialized RX6 ∈ hf_all := hf_t1 (List.mem_of_getElem? (i := 7) rfl) rfl
theorem it_X6 : Cond.instantiable RX6 4 ∈ hf_all := hf_t1 (List.mem_of_getElem? (i := 210) rfl) rfl
theorem ii_X7 : Cond.initialized RX7 ∈ hf_all := hf_t1 (List.mem_of_getElem? (i := 9) rfl) rfl
theorem it_X7 : Cond.instantiable RX7 3 ∈ hf_all := hf_t2 (List.mem_of_getElem? (i := 40) rfl) rfl
theorem ii_X8 : Cond.initialized RX8 ∈ hf_all := hf_t1 (List.mem_of_getElem? (i := 2) rfl) rfl
theorem it_X8 : Cond.instantiable RX8 8 ∈ hf_all := hf_t1 (List.mem_of_getElem? (i := 36) rfl) rfl
theorem ii_X9 : Cond.initialized RX9 ∈ hf_all := hf_t1 (List.mem_of_getElem? (i := 5) rfl) rfl
theorem it_X9 : Cond.instantiable RX9 6 ∈ hf_all := hf_t1 (List.mem_of_getElem? (i := 99) rfl) rfl
theorem ii_X10 : Cond.initialized RX10 ∈ hf_all := hf_t1 (List.mem_of_getElem? (i := 11) rfl) rfl
theorem it_X10 : Cond.instantiable RX10 6 ∈ hf_all := hf_t2 (List.mem_of_getElem? (i := 141) rfl) rfl
theorem ii_X11 : Cond.initialized RX11 ∈ hf_all := hf_t1 (List.mem_of_getElem? (i := 1) rfl) rfl
theorem it_X11 : Cond.instantiable RX11 15 ∈ hf_all := hf_t1 (List.mem_of_getElem? (i := 28) rfl) rfl
theorem ii_X12 : Cond.initialized RX12 ∈ hf_all := hf_t1 (List.mem_of_getElem? (i := 14) rfl) rfl
theorem it_X12 : Cond.instantiable RX12 69 ∈ hf_all := hf_t6 (List.mem_of_getElem? (i := 22) rfl) rfl
theorem ii_J6 : Cond.initialized RJ6 ∈ hf_all := hf_t1 (List.mem_of_getElem? (i := 26) rfl) rfl
theorem ii_J9 : Cond.initialized RJ9 ∈ hf_all := hf_t1 (List.mem_of_getElem? (i := 20) rfl) rfl
theorem ii_J0 : Cond.initialized RJ0 ∈ hf_all := hf_t1 (List.mem_of_getElem? (i := 21) rfl) rfl
theorem ii_J1 : Cond.initialized RJ1 ∈ hf_all := hf_t1 (List.mem_of_getElem? (i := 22) rfl) rfl
theorem ii_J2 : Cond.initialized RJ2 ∈ hf_all := hf_t1 (List.mem_of_getElem? (i := 24) rfl) rfl
theorem ii_J10 : Cond.initialized RJ10 ∈ hf_all := hf_t1 (List.mem_of_getElem? (i := 25) rfl) rfl
theorem ii_J7 : Cond.initialized RJ7 ∈ hf_all := hf_t1 (List.mem_of_getElem? (i := 3) rfl) rfl
theorem ii_J3 : Cond.initialized RJ3 ∈ hf_all := hf_t1 (List.mem_of_getElem? (i := 23) rfl) rfl
theorem oi_in : Cond.instanceMethod Lib.objectInit ∈ hf_all := hf_t1 (List.mem_of_getElem? (i := 33) rfl) rfl
theorem oi_co : Cond.code Lib.objectInit ⟨#[0xb1]⟩ 1 none ∈ hf_all := hf_t1 (List.mem_of_getElem? (i := 34) rfl) rfl
theorem kc_X0_init : Cond.code yX0_init cX0_init 1 none ∈ hf_all := hf_t2 (List.mem_of_getElem? (i := 78) rfl) rfl
theorem ki_X0_init : Cond.instanceMethod yX0_init ∈ hf_all := hf_t2 (List.mem_of_getElem? (i := 77) rfl) rfl
theorem kc_X0_prepare : Cond.code yX0_prepare cX0_prepare 5 none ∈ hf_all := hf_t4 (List.mem_of_getElem? (i := 151) rfl) rfl
theorem ki_X0_prepare : Cond.instanceMethod yX0_prepare ∈ hf_all := hf_t4 (List.mem_of_getElem? (i := 149) rfl) rfl
theorem kv_X0_prepare : Cond.selects yX0_prepare.cls yX0_prepare yX0_prepare ∈ hf_all := hf_t4 (List.mem_of_getElem? (i := 150) rfl) rfl
theorem kc_X0_valueOf : Cond.code yX0_valueOf cX0_valueOf 5 (some .long) ∈ hf_all := hf_t4 (List.mem_of_getElem? (i := 159) rfl) rfl
theorem ki_X0_valueOf : Cond.instanceMethod yX0_valueOf ∈ hf_all := hf_t4 (List.mem_of_getElem? (i := 157) rfl) rfl
theorem kv_X0_valueOf : Cond.selects yX0_valueOf.cls yX0_valueOf yX0_valueOf ∈ hf_all := hf_t4 (List.mem_of_getElem? (i := 158) rfl) rfl
theorem kc_X0_edgeOf : Cond.code yX0_edgeOf cX0_edgeOf 9 (some .int) ∈ hf_all := hf_t4 (List.mem_of_getElem? (i := 206) rfl) rfl
theorem ki_X0_edgeOf : Cond.instanceMethod yX0_edgeOf ∈ hf_all := hf_t4 (List.mem_of_getElem? (i := 204) rfl) rfl
theorem kv_X0_edgeOf : Cond.selects yX0_edgeOf.cls yX0_edgeOf yX0_edgeOf ∈ hf_all := hf_t4 (List.mem_of_getElem? (i := 205) rfl) rfl
theorem kc_X0_staysBetween : Cond.code yX0_staysBetween cX0_staysBetween 8 (some .boolean) ∈ hf_all := hf_t4 (List.mem_of_getElem? (i := 219) rfl) rfl
theorem ki_X0_staysBetween : Cond.instanceMethod yX0_staysBetween ∈ hf_all := hf_t4 (List.mem_of_getElem? (i := 218) rfl) rfl
theorem kv_X0_staysBetween : Cond.selects yX0_staysBetween.cls yX0_staysBetween yX0_staysBetween ∈ hf_all := hf_t0 (List.mem_of_getElem? (i := 35) rfl) rfl
theorem kc_X0_seek : Cond.code yX0_seek cX0_seek 6 none ∈ hf_all := hf_t4 (List.mem_of_getElem? (i := 211) rfl) rfl
theorem ki_X0_seek : Cond.instanceMethod yX0_seek ∈ hf_all := hf_t4 (List.mem_of_getElem? (i := 210) rfl) rfl
theorem kv_X0_seek : Cond.selects yX0_seek.cls yX0_seek yX0_seek ∈ hf_all := hf_t0 (List.mem_of_getElem? (i := 33) rfl) rfl
theorem kc_X0_forgetFirst : Cond.code yX0_forgetFirst cX0_forgetFirst 1 none ∈ hf_all := hf_t4 (List.mem_of_getElem? (i := 163) rfl) rfl
theorem ki_X0_forgetFirst : Cond.instanceMethod yX0_forgetFirst ∈ hf_all := hf_t4 (List.mem_of_getElem? (i := 162) rfl) rfl
theorem kv_X0_forgetFirst : Cond.selects yX0_forgetFirst.cls yX0_forgetFirst yX0_forgetFirst ∈ hf_all := hf_t0 (List.mem_of_getElem? (i := 28) rfl) rfl
theorem kc_X0_piecesIn : Cond.code yX0_piecesIn cX0_piecesIn 2 (some .int) ∈ hf_all := hf_t4 (List.mem_of_getElem? (i := 173) rfl) rfl
theorem ks_X0_piecesIn : Cond.static yX0_piecesIn ∈ hf_all := hf_t4 (List.mem_of_getElem? (i := 172) rfl) rfl
theorem kc_X0_isPartOf : Cond.code yX0_isPartOf cX0_isPartOf 2 (some .boolean) ∈ hf_all := hf_t4 (List.mem_of_getElem? (i := 170) rfl) rfl
theorem ks_X0_isPartOf : Cond.static yX0_isPartOf ∈ hf_all := hf_t4 (List.mem_of_getElem? (i := 169) rfl) rfl
theorem kc_X0_fillUpTo : Cond.code yX0_fillUpTo cX0_fillUpTo 3 none ∈ hf_all := hf_t4 (List.mem_of_getElem? (i := 167) rfl) rfl
theorem ki_X0_fillUpTo : Cond.instanceMethod yX0_fillUpTo ∈ hf_all := hf_t4 (List.mem_of_getElem? (i := 166) rfl) rfl
theorem kv_X0_fillUpTo : Cond.selects yX0_fillUpTo.cls yX0_fillUpTo yX0_fillUpTo ∈ hf_all := hf_t0 (List.mem_of_getElem? (i := 29) rfl) rfl
theorem kc_X0_fillAgain : Cond.code yX0_fillAgain cX0_fillAgain 4 none ∈ hf_all := hf_t4 (List.mem_of_getElem? (i := 215) rfl) rfl
theorem ki_X0_fillAgain : Cond.instanceMethod yX0_fillAgain ∈ hf_all := hf_t4 (List.mem_of_getElem? (i := 214) rfl) rfl
theorem kv_X0_fillAgain : Cond.selects yX0_fillAgain.cls yX0_fillAgain yX0_fillAgain ∈ hf_all := hf_t0 (List.mem_of_getElem? (i := 34) rfl) rfl
theorem kc_X0_fillRow : Cond.code yX0_fillRow cX0_fillRow 6 none ∈ hf_all := hf_t4 (List.mem_of_getElem? (i := 180) rfl) rfl
theorem ki_X0_fillRow : Cond.instanceMethod yX0_fillRow ∈ hf_all := hf_t4 (List.mem_of_getElem? (i := 179) rfl) rfl
theorem kv_X0_fillRow : Cond.selects yX0_fillRow.cls yX0_fillRow yX0_fillRow ∈ hf_all := hf_t0 (List.mem_of_getElem? (i := 30) rfl) rfl
theorem kc_X0_pick : Cond.code yX0_pick cX0_pick 7 (some .int) ∈ hf_all := hf_t4 (List.mem_of_getElem? (i := 187) rfl) rfl
theorem ki_X0_pick : Cond.instanceMethod yX0_pick ∈ hf_all := hf_t4 (List.mem_of_getElem? (i := 186) rfl) rfl
theorem kv_X0_pick : Cond.selects yX0_pick.cls yX0_pick yX0_pick ∈ hf_all := hf_t0 (List.mem_of_getElem? (i := 31) rfl) rfl
theorem kc_X0_pickOf : Cond.code yX0_pickOf cX0_pickOf 17 none ∈ hf_all := hf_t4 (List.mem_of_getElem? (i := 191) rfl) rfl
theorem ki_X0_pickOf : Cond.instanceMethod yX0_pickOf ∈ hf_all := hf_t4 (List.mem_of_getElem? (i := 190) rfl) rfl
theorem kv_X0_pickOf : Cond.selects yX0_pickOf.cls yX0_pickOf yX0_pickOf ∈ hf_all := hf_t0 (List.mem_of_getElem? (i := 32) rfl) rfl
theorem kc_X1_init : Cond.code yX1_init cX1_init 2 none ∈ hf_all := hf_t1 (List.mem_of_getElem? (i := 219) rfl) rfl
theorem ki_X1_init : Cond.instanceMethod yX1_init ∈ hf_all := hf_t1 (List.mem_of_getElem? (i := 218) rfl) rfl
theorem kc_X1_start : Cond.code yX1_start cX1_start 4 none ∈ hf_all := hf_t4 (List.mem_of_getElem? (i := 34) rfl) rfl
theorem ki_X1_start : Cond.instanceMethod yX1_start ∈ hf_all := hf_t4 (List.mem_of_getElem? (i := 32) rfl) rfl
theorem kv_X1_start : Cond.selects yX1_start.cls yX1_start yX1_start ∈ hf_all := hf_t4 (List.mem_of_getElem? (i := 33) rfl) rfl
theorem kc_X1_canFall : Cond.code yX1_canFall cX1_canFall 4 (some .boolean) ∈ hf_all := hf_t4 (List.mem_of_getElem? (i := 103) rfl) rfl
theorem ki_X1_canFall : Cond.instanceMethod yX1_canFall ∈ hf_all := hf_t4 (List.mem_of_getElem? (i := 101) rfl) rfl
theorem kv_X1_canFall : Cond.selects yX1_canFall.cls yX1_canFall yX1_canFall ∈ hf_all := hf_t4 (List.mem_of_getElem? (i := 102) rfl) rfl
theorem kc_X1_letFall : Cond.code yX1_letFall cX1_letFall 6 (some .boolean) ∈ hf_all := hf_t4 (List.mem_of_getElem? (i := 112) rfl) rfl
theorem ki_X1_letFall : Cond.instanceMethod yX1_letFall ∈ hf_all := hf_t4 (List.mem_of_getElem? (i := 110) rfl) rfl
theorem kv_X1_letFall : Cond.selects yX1_letFall.cls yX1_letFall yX1_letFall ∈ hf_all := hf_t4 (List.mem_of_getElem? (i := 111) rfl) rfl
theorem kc_X1_takeBack : Cond.code yX1_takeBack cX1_takeBack 1 none ∈ hf_all := hf_t5 (List.mem_of_getElem? (i := 157) rfl) rfl
theorem ki_X1_takeBack : Cond.instanceMethod yX1_takeBack ∈ hf_all := hf_t5 (List.mem_of_getElem? (i := 155) rfl) rfl
theorem kv_X1_takeBack : Cond.selects yX1_takeBack.cls yX1_takeBack yX1_takeBack ∈ hf_all := hf_t5 (List.mem_of_getElem? (i := 156) rfl) rfl
theorem kc_X1_recall : Cond.code yX1_recall cX1_recall 3 (some .int) ∈ hf_all := hf_t4 (List.mem_of_getElem? (i := 132) rfl) rfl
theorem ki_X1_recall : Cond.instanceMethod yX1_recall ∈ hf_all := hf_t4 (List.mem_of_getElem? (i := 130) rfl) rfl
theorem kv_X1_recall : Cond.selects yX1_recall.cls yX1_recall yX1_recall ∈ hf_all := hf_t4 (List.mem_of_getElem? (i := 131) rfl) rfl
theorem kc_X1_leftCode : Cond.code yX1_leftCode cX1_leftCode 1 (some .int) ∈ hf_all := hf_t5 (List.mem_of_getElem? (i := 165) rfl) rfl
theorem ki_X1_leftCode : Cond.instanceMethod yX1_leftCode ∈ hf_all := hf_t5 (List.mem_of_getElem? (i := 163) rfl) rfl
theorem kv_X1_leftCode : Cond.selects yX1_leftCode.cls yX1_leftCode yX1_leftCode ∈ hf_all := hf_t5 (List.mem_of_getElem? (i := 164) rfl) rfl
theorem kc_X1_lastStep : Cond.code yX1_lastStep cX1_lastStep 1 (some .int) ∈ hf_all := hf_t4 (List.mem_of_getElem? (i := 69) rfl) rfl
theorem ki_X1_lastStep : Cond.instanceMethod yX1_lastStep ∈ hf_all := hf_t4 (List.mem_of_getElem? (i := 67) rfl) rfl
theorem kv_X1_lastStep : Cond.selects yX1_lastStep.cls yX1_lastStep yX1_lastStep ∈ hf_all := hf_t4 (List.mem_of_getElem? (i := 68) rfl) rfl
theorem kc_X1_lastBroke : Cond.code yX1_lastBroke cX1_lastBroke 1 (some .int) ∈ hf_all := hf_t4 (List.mem_of_getElem? (i := 73) rfl) rfl
theorem ki_X1_lastBroke : Cond.instanceMethod yX1_lastBroke ∈ hf_all := hf_t4 (List.mem_of_getElem? (i := 71) rfl) rfl
theorem kv_X1_lastBroke : Cond.selects yX1_lastBroke.cls yX1_lastBroke yX1_lastBroke ∈ hf_all := hf_t4 (List.mem_of_getElem? (i := 72) rfl) rfl
theorem kc_X2_init : Cond.code yX2_init cX2_init 1 none ∈ hf_all := hf_t2 (List.mem_of_getElem? (i := 169) rfl) rfl
theorem ki_X2_init : Cond.instanceMethod yX2_init ∈ hf_all := hf_t2 (List.mem_of_getElem? (i := 168) rfl) rfl
theorem kc_X2_fewestFalls : Cond.code yX2_fewestFalls cX2_fewestFalls 5 (some .int) ∈ hf_all := hf_t5 (List.mem_of_getElem? (i := 26) rfl) rfl
theorem ki_X2_fewestFalls : Cond.instanceMethod yX2_fewestFalls ∈ hf_all := hf_t5 (List.mem_of_getElem? (i := 24) rfl) rfl
theorem kv_X2_fewestFalls : Cond.selects yX2_fewestFalls.cls yX2_fewestFalls yX2_fewestFalls ∈ hf_all := hf_t5 (List.mem_of_getElem? (i := 25) rfl) rfl
theorem kc_X2_fewestFrom : Cond.code yX2_fewestFrom cX2_fewestFrom 8 (some .int) ∈ hf_all := hf_t5 (List.mem_of_getElem? (i := 44) rfl) rfl
theorem ki_X2_fewestFrom : Cond.instanceMethod yX2_fewestFrom ∈ hf_all := hf_t5 (List.mem_of_getElem? (i := 43) rfl) rfl
theorem kv_X2_fewestFrom : Cond.selects yX2_fewestFrom.cls yX2_fewestFrom yX2_fewestFrom ∈ hf_all := hf_t0 (List.mem_of_getElem? (i := 41) rfl) rfl
theorem kc_X3_init : Cond.code yX3_init cX3_init 1 none ∈ hf_all := hf_t2 (List.mem_of_getElem? (i := 183) rfl) rfl
theorem ki_X3_init : Cond.instanceMethod yX3_init ∈ hf_all := hf_t2 (List.mem_of_getElem? (i := 182) rfl) rfl
theorem kc_X3_clear : Cond.code yX3_clear cX3_clear 1 none ∈ hf_all := hf_t3 (List.mem_of_getElem? (i := 38) rfl) rfl
theorem ki_X3_clear : Cond.instanceMethod yX3_clear ∈ hf_all := hf_t3 (List.mem_of_getElem? (i := 36) rfl) rfl
theorem kv_X3_clear : Cond.selects yX3_clear.cls yX3_clear yX3_clear ∈ hf_all := hf_t3 (List.mem_of_getElem? (i := 37) rfl) rfl
theorem kc_X3_write : Cond.code yX3_write cX3_write 5 (some .int) ∈ hf_all := hf_t5 (List.mem_of_getElem? (i := 61) rfl) rfl
theorem ki_X3_write : Cond.instanceMethod yX3_write ∈ hf_all := hf_t5 (List.mem_of_getElem? (i := 59) rfl) rfl
theorem kv_X3_write : Cond.selects yX3_write.cls yX3_write yX3_write ∈ hf_all := hf_t5 (List.mem_of_getElem? (i := 60) rfl) rfl
theorem kc_X3_writeStrike : Cond.code yX3_writeStrike cX3_writeStrike 2 (some .int) ∈ hf_all := hf_t5 (List.mem_of_getElem? (i := 77) rfl) rfl
theorem ki_X3_writeStrike : Cond.instanceMethod yX3_writeStrike ∈ hf_all := hf_t5 (List.mem_of_getElem? (i := 75) rfl) rfl
theorem kv_X3_writeStrike : Cond.selects yX3_writeStrike.cls yX3_writeStrike yX3_writeStrike ∈ hf_all := hf_t5 (List.mem_of_getElem? (i := 76) rfl) rfl
theorem kc_X3_close : Cond.code yX3_close cX3_close 2 (some .int) ∈ hf_all := hf_t5 (List.mem_of_getElem? (i := 65) rfl) rfl
theorem ki_X3_close : Cond.instanceMethod yX3_close ∈ hf_all := hf_t5 (List.mem_of_getElem? (i := 64) rfl) rfl
theorem kv_X3_close : Cond.selects yX3_close.cls yX3_close yX3_close ∈ hf_all := hf_t0 (List.mem_of_getElem? (i := 42) rfl) rfl
theorem kc_X3_settle : Cond.code yX3_settle cX3_settle 2 none ∈ hf_all := hf_t5 (List.mem_of_getElem? (i := 69) rfl) rfl
theorem ki_X3_settle : Cond.instanceMethod yX3_settle ∈ hf_all := hf_t5 (List.mem_of_getElem? (i := 68) rfl) rfl
theorem kv_X3_settle : Cond.selects yX3_settle.cls yX3_settle yX3_settle ∈ hf_all := hf_t0 (List.mem_of_getElem? (i := 43) rfl) rfl
theorem kc_X3_isWrong : Cond.code yX3_isWrong cX3_isWrong 4 (some .boolean) ∈ hf_all := hf_t5 (List.mem_of_getElem? (i := 89) rfl) rfl
theorem ki_X3_isWrong : Cond.instanceMethod yX3_isWrong ∈ hf_all := hf_t5 (List.mem_of_getElem? (i := 88) rfl) rfl
theorem kv_X3_isWrong : Cond.selects yX3_isWrong.cls yX3_isWrong yX3_isWrong ∈ hf_all := hf_t0 (List.mem_of_getElem? (i := 44) rfl) rfl
theorem kc_X3_wrongAt : Cond.code yX3_wrongAt cX3_wrongAt 5 (some .int) ∈ hf_all := hf_t5 (List.mem_of_getElem? (i := 85) rfl) rfl
theorem ki_X3_wrongAt : Cond.instanceMethod yX3_wrongAt ∈ hf_all := hf_t5 (List.mem_of_getElem? (i := 83) rfl) rfl
theorem kv_X3_wrongAt : Cond.selects yX3_wrongAt.cls yX3_wrongAt yX3_wrongAt ∈ hf_all := hf_t5 (List.mem_of_getElem? (i := 84) rfl) rfl
theorem kc_X3_wrongBy : Cond.code yX3_wrongBy cX3_wrongBy 6 (some .int) ∈ hf_all := hf_t5 (List.mem_of_getElem? (i := 111) rfl) rfl
theorem ki_X3_wrongBy : Cond.instanceMethod yX3_wrongBy ∈ hf_all := hf_t5 (List.mem_of_getElem? (i := 109) rfl) rfl
theorem kv_X3_wrongBy : Cond.selects yX3_wrongBy.cls yX3_wrongBy yX3_wrongBy ∈ hf_all := hf_t5 (List.mem_of_getElem? (i := 110) rfl) rfl
theorem kc_X3_leastDoubted : Cond.code yX3_leastDoubted cX3_leastDoubted 6 (some .int) ∈ hf_all := hf_t5 (List.mem_of_getElem? (i := 102) rfl) rfl
theorem ki_X3_leastDoubted : Cond.instanceMethod yX3_leastDoubted ∈ hf_all := hf_t5 (List.mem_of_getElem? (i := 100) rfl) rfl
theorem kv_X3_leastDoubted : Cond.selects yX3_leastDoubted.cls yX3_leastDoubted yX3_leastDoubted ∈ hf_all := hf_t5 (List.mem_of_getElem? (i := 101) rfl) rfl
theorem kc_X3_partingStep : Cond.code yX3_partingStep cX3_partingStep 8 (some .int) ∈ hf_all := hf_t5 (List.mem_of_getElem? (i := 119) rfl) rfl
theorem ki_X3_partingStep : Cond.instanceMethod yX3_partingStep ∈ hf_all := hf_t5 (List.mem_of_getElem? (i := 117) rfl) rfl
theorem kv_X3_partingStep : Cond.selects yX3_partingStep.cls yX3_partingStep yX3_partingStep ∈ hf_all := hf_t5 (List.mem_of_getElem? (i := 118) rfl) rfl
theorem kc_X3_differenceBy : Cond.code yX3_differenceBy cX3_differenceBy 6 (some .int) ∈ hf_all := hf_t5 (List.mem_of_getElem? (i := 123) rfl) rfl
theorem ki_X3_differenceBy : Cond.instanceMethod yX3_differenceBy ∈ hf_all := hf_t5 (List.mem_of_getElem? (i := 122) rfl) rfl
theorem kv_X3_differenceBy : Cond.selects yX3_differenceBy.cls yX3_differenceBy yX3_differenceBy ∈ hf_all := hf_t0 (List.mem_of_getElem? (i := 45) rfl) rfl
theorem kc_X4_init : Cond.code yX4_init cX4_init 1 none ∈ hf_all := hf_t1 (List.mem_of_getElem? (i := 130) rfl) rfl
theorem ki_X4_init : Cond.instanceMethod yX4_init ∈ hf_all := hf_t1 (List.mem_of_getElem? (i := 129) rfl) rfl
theorem kc_X4_clear : Cond.code yX4_clear cX4_clear 1 none ∈ hf_all := hf_t3 (List.mem_of_getElem? (i := 96) rfl) rfl
theorem ki_X4_clear : Cond.instanceMethod yX4_clear ∈ hf_all := hf_t3 (List.mem_of_getElem? (i := 94) rfl) rfl
theorem kv_X4_clear : Cond.selects yX4_clear.cls yX4_clear yX4_clear ∈ hf_all := hf_t3 (List.mem_of_getElem? (i := 95) rfl) rfl
theorem kc_X4_conditionFrom : Cond.code yX4_conditionFrom cX4_conditionFrom 2 (some .int) ∈ hf_all := hf_t4 (List.mem_of_getElem? (i := 50) rfl) rfl
theorem ki_X4_conditionFrom : Cond.instanceMethod yX4_conditionFrom ∈ hf_all := hf_t4 (List.mem_of_getElem? (i := 48) rfl) rfl
theorem kv_X4_conditionFrom : Cond.selects yX4_conditionFrom.cls yX4_conditionFrom yX4_conditionFrom ∈ hf_all := hf_t4 (List.mem_of_getElem? (i := 49) rfl) rfl
theorem kc_X4_hasCondition : Cond.code yX4_hasCondition cX4_hasCondition 2 (some .boolean) ∈ hf_all := hf_t4 (List.mem_of_getElem? (i := 46) rfl) rfl
theorem ki_X4_hasCondition : Cond.instanceMethod yX4_hasCondition ∈ hf_all := hf_t4 (List.mem_of_getElem? (i := 44) rfl) rfl
theorem kv_X4_hasCondition : Cond.selects yX4_hasCondition.cls yX4_hasCondition yX4_hasCondition ∈ hf_all := hf_t4 (List.mem_of_getElem? (i := 45) rfl) rfl
theorem kc_X5_init : Cond.code yX5_init cX5_init 1 none ∈ hf_all := hf_t1 (List.mem_of_getElem? (i := 96) rfl) rfl
theorem ki_X5_init : Cond.instanceMethod yX5_init ∈ hf_all := hf_t1 (List.mem_of_getElem? (i := 95) rfl) rfl
theorem kc_X5_read : Cond.code yX5_read cX5_read 5 none ∈ hf_all := hf_t3 (List.mem_of_getElem? (i := 85) rfl) rfl
theorem ki_X5_read : Cond.instanceMethod yX5_read ∈ hf_all := hf_t3 (List.mem_of_getElem? (i := 83) rfl) rfl
theorem kv_X5_read : Cond.selects yX5_read.cls yX5_read yX5_read ∈ hf_all := hf_t3 (List.mem_of_getElem? (i := 84) rfl) rfl
theorem kc_X5_take : Cond.code yX5_take cX5_take 2 (some .int) ∈ hf_all := hf_t3 (List.mem_of_getElem? (i := 198) rfl) rfl
theorem ki_X5_take : Cond.instanceMethod yX5_take ∈ hf_all := hf_t3 (List.mem_of_getElem? (i := 197) rfl) rfl
theorem kv_X5_take : Cond.selects yX5_take.cls yX5_take yX5_take ∈ hf_all := hf_t0 (List.mem_of_getElem? (i := 7) rfl) rfl
theorem kc_X5_takeAtLine : Cond.code yX5_takeAtLine cX5_takeAtLine 2 (some .int) ∈ hf_all := hf_t3 (List.mem_of_getElem? (i := 202) rfl) rfl
theorem ki_X5_takeAtLine : Cond.instanceMethod yX5_takeAtLine ∈ hf_all := hf_t3 (List.mem_of_getElem? (i := 201) rfl) rfl
theorem kv_X5_takeAtLine : Cond.selects yX5_takeAtLine.cls yX5_takeAtLine yX5_takeAtLine ∈ hf_all := hf_t0 (List.mem_of_getElem? (i := 8) rfl) rfl
theorem kc_X5_startDeed : Cond.code yX5_startDeed cX5_startDeed 2 none ∈ hf_all := hf_t3 (List.mem_of_getElem? (i := 210) rfl) rfl
theorem ki_X5_startDeed : Cond.instanceMethod yX5_startDeed ∈ hf_all := hf_t3 (List.mem_of_getElem? (i := 209) rfl) rfl
theorem kv_X5_startDeed : Cond.selects yX5_startDeed.cls yX5_startDeed yX5_startDeed ∈ hf_all := hf_t0 (List.mem_of_getElem? (i := 10) rfl) rfl
theorem kc_X5_takeKind : Cond.code yX5_takeKind cX5_takeKind 2 (some .int) ∈ hf_all := hf_t3 (List.mem_of_getElem? (i := 214) rfl) rfl
theorem ki_X5_takeKind : Cond.instanceMethod yX5_takeKind ∈ hf_all := hf_t3 (List.mem_of_getElem? (i := 213) rfl) rfl
theorem kv_X5_takeKind : Cond.selects yX5_takeKind.cls yX5_takeKind yX5_takeKind ∈ hf_all := hf_t0 (List.mem_of_getElem? (i := 11) rfl) rfl
theorem kc_X5_startExpression : Cond.code yX5_startExpression cX5_startExpression 1 none ∈ hf_all := hf_t3 (List.mem_of_getElem? (i := 206) rfl) rfl
theorem ki_X5_startExpression : Cond.instanceMethod yX5_startExpression ∈ hf_all := hf_t3 (List.mem_of_getElem? (i := 205) rfl) rfl
theorem kv_X5_startExpression : Cond.selects yX5_startExpression.cls yX5_startExpression yX5_startExpression ∈ hf_all := hf_t0 (List.mem_of_getElem? (i := 9) rfl) rfl
theorem kc_X5_takeOperand : Cond.code yX5_takeOperand cX5_takeOperand 2 (some .int) ∈ hf_all := hf_t3 (List.mem_of_getElem? (i := 218) rfl) rfl
theorem ki_X5_takeOperand : Cond.instanceMethod yX5_takeOperand ∈ hf_all := hf_t3 (List.mem_of_getElem? (i := 217) rfl) rfl
theorem kv_X5_takeOperand : Cond.selects yX5_takeOperand.cls yX5_takeOperand yX5_takeOperand ∈ hf_all := hf_t0 (List.mem_of_getElem? (i := 12) rfl) rfl
theorem kc_X5_takeOpen : Cond.code yX5_takeOpen cX5_takeOpen 1 (some .int) ∈ hf_all := hf_t3 (List.mem_of_getElem? (i := 222) rfl) rfl
theorem ki_X5_takeOpen : Cond.instanceMethod yX5_takeOpen ∈ hf_all := hf_t3 (List.mem_of_getElem? (i := 221) rfl) rfl
theorem kv_X5_takeOpen : Cond.selects yX5_takeOpen.cls yX5_takeOpen yX5_takeOpen ∈ hf_all := hf_t0 (List.mem_of_getElem? (i := 13) rfl) rfl
theorem kc_X5_takeBehindOperand : Cond.code yX5_takeBehindOperand cX5_takeBehindOperand 2 (some .int) ∈ hf_all := hf_t4 (List.mem_of_getElem? (i := 12) rfl) rfl
theorem ki_X5_takeBehindOperand : Cond.instanceMethod yX5_takeBehindOperand ∈ hf_all := hf_t4 (List.mem_of_getElem? (i := 11) rfl) rfl
theorem kv_X5_takeBehindOperand : Cond.selects yX5_takeBehindOperand.cls yX5_takeBehindOperand yX5_takeBehindOperand ∈ hf_all := hf_t0 (List.mem_of_getElem? (i := 18) rfl) rfl
theorem kc_X5_takeClose : Cond.code yX5_takeClose cX5_takeClose 1 (some .int) ∈ hf_all := hf_t4 (List.mem_of_getElem? (i := 16) rfl) rfl
theorem ki_X5_takeClose : Cond.instanceMethod yX5_takeClose ∈ hf_all := hf_t4 (List.mem_of_getElem? (i := 15) rfl) rfl
theorem kv_X5_takeClose : Cond.selects yX5_takeClose.cls yX5_takeClose yX5_takeClose ∈ hf_all := hf_t0 (List.mem_of_getElem? (i := 19) rfl) rfl
theorem kc_X5_takeOperator : Cond.code yX5_takeOperator cX5_takeOperator 2 (some .int) ∈ hf_all := hf_t3 (List.mem_of_getElem? (i := 230) rfl) rfl
theorem ki_X5_takeOperator : Cond.instanceMethod yX5_takeOperator ∈ hf_all := hf_t3 (List.mem_of_getElem? (i := 229) rfl) rfl
theorem kv_X5_takeOperator : Cond.selects yX5_takeOperator.cls yX5_takeOperator yX5_takeOperator ∈ hf_all := hf_t0 (List.mem_of_getElem? (i := 15) rfl) rfl
theorem kc_X5_hold : Cond.code yX5_hold cX5_hold 2 none ∈ hf_all := hf_t3 (List.mem_of_getElem? (i := 226) rfl) rfl
theorem ki_X5_hold : Cond.instanceMethod yX5_hold ∈ hf_all := hf_t3 (List.mem_of_getElem? (i := 225) rfl) rfl
theorem kv_X5_hold : Cond.selects yX5_hold.cls yX5_hold yX5_hold ∈ hf_all := hf_t0 (List.mem_of_getElem? (i := 14) rfl) rfl
theorem kc_X5_release : Cond.code yX5_release cX5_release 2 none ∈ hf_all := hf_t4 (List.mem_of_getElem? (i := 0) rfl) rfl
theorem ki_X5_release : Cond.instanceMethod yX5_release ∈ hf_all := hf_t3 (List.mem_of_getElem? (i := 239) rfl) rfl
theorem kv_X5_release : Cond.selects yX5_release.cls yX5_release yX5_release ∈ hf_all := hf_t0 (List.mem_of_getElem? (i := 16) rfl) rfl
theorem kc_X5_write : Cond.code yX5_write cX5_write 2 none ∈ hf_all := hf_t4 (List.mem_of_getElem? (i := 4) rfl) rfl
theorem ki_X5_write : Cond.instanceMethod yX5_write ∈ hf_all := hf_t4 (List.mem_of_getElem? (i := 3) rfl) rfl
theorem kv_X5_write : Cond.selects yX5_write.cls yX5_write yX5_write ∈ hf_all := hf_t0 (List.mem_of_getElem? (i := 17) rfl) rfl
theorem kc_X6_init : Cond.code yX6_init cX6_init 1 none ∈ hf_all := hf_t1 (List.mem_of_getElem? (i := 213) rfl) rfl
theorem ki_X6_init : Cond.instanceMethod yX6_init ∈ hf_all := hf_t1 (List.mem_of_getElem? (i := 212) rfl) rfl
theorem kc_X6_run : Cond.code yX6_run cX6_run 5 none ∈ hf_all := hf_t4 (List.mem_of_getElem? (i := 30) rfl) rfl
theorem ki_X6_run : Cond.instanceMethod yX6_run ∈ hf_all := hf_t4 (List.mem_of_getElem? (i := 28) rfl) rfl
theorem kv_X6_run : Cond.selects yX6_run.cls yX6_run yX6_run ∈ hf_all := hf_t4 (List.mem_of_getElem? (i := 29) rfl) rfl
theorem kc_X6_takeTurn : Cond.code yX6_takeTurn cX6_takeTurn 6 none ∈ hf_all := hf_t4 (List.mem_of_getElem? (i := 38) rfl) rfl
theorem ki_X6_takeTurn : Cond.instanceMethod yX6_takeTurn ∈ hf_all := hf_t4 (List.mem_of_getElem? (i := 37) rfl) rfl
theorem kv_X6_takeTurn : Cond.selects yX6_takeTurn.cls yX6_takeTurn yX6_takeTurn ∈ hf_all := hf_t0 (List.mem_of_getElem? (i := 20) rfl) rfl
theorem kc_X6_lineThatHolds : Cond.code yX6_lineThatHolds cX6_lineThatHolds 3 (some .int) ∈ hf_all := hf_t4 (List.mem_of_getElem? (i := 42) rfl) rfl
theorem ki_X6_lineThatHolds : Cond.instanceMethod yX6_lineThatHolds ∈ hf_all := hf_t4 (List.mem_of_getElem? (i := 41) rfl) rfl
theorem kv_X6_lineThatHolds : Cond.selects yX6_lineThatHolds.cls yX6_lineThatHolds yX6_lineThatHolds ∈ hf_all := hf_t0 (List.mem_of_getElem? (i := 21) rfl) rfl
theorem kc_X6_letFall : Cond.code yX6_letFall cX6_letFall 5 none ∈ hf_all := hf_t4 (List.mem_of_getElem? (i := 99) rfl) rfl
theorem ki_X6_letFall : Cond.instanceMethod yX6_letFall ∈ hf_all := hf_t4 (List.mem_of_getElem? (i := 98) rfl) rfl
theorem kv_X6_letFall : Cond.selects yX6_letFall.cls yX6_letFall yX6_letFall ∈ hf_all := hf_t0 (List.mem_of_getElem? (i := 27) rfl) rfl
theorem kc_X6_shareOf : Cond.code yX6_shareOf cX6_shareOf 3 (some .long) ∈ hf_all := hf_t4 (List.mem_of_getElem? (i := 140) rfl) rfl
theorem ki_X6_shareOf : Cond.instanceMethod yX6_shareOf ∈ hf_all := hf_t4 (List.mem_of_getElem? (i := 138) rfl) rfl
theorem kv_X6_shareOf : Cond.selects yX6_shareOf.cls yX6_shareOf yX6_shareOf ∈ hf_all := hf_t4 (List.mem_of_getElem? (i := 139) rfl) rfl
theorem kc_X7_init : Cond.code yX7_init cX7_init 1 none ∈ hf_all := hf_t2 (List.mem_of_getElem? (i := 43) rfl) rfl
theorem ki_X7_init : Cond.instanceMethod yX7_init ∈ hf_all := hf_t2 (List.mem_of_getElem? (i := 42) rfl) rfl
theorem kc_X7_work : Cond.code yX7_work cX7_work 7 (some .long) ∈ hf_all := hf_t4 (List.mem_of_getElem? (i := 55) rfl) rfl
theorem ki_X7_work : Cond.instanceMethod yX7_work ∈ hf_all := hf_t4 (List.mem_of_getElem? (i := 53) rfl) rfl
theorem kv_X7_work : Cond.selects yX7_work.cls yX7_work yX7_work ∈ hf_all := hf_t4 (List.mem_of_getElem? (i := 54) rfl) rfl
theorem kc_X7_push : Cond.code yX7_push cX7_push 3 none ∈ hf_all := hf_t4 (List.mem_of_getElem? (i := 59) rfl) rfl
theorem ki_X7_push : Cond.instanceMethod yX7_push ∈ hf_all := hf_t4 (List.mem_of_getElem? (i := 58) rfl) rfl
theorem kv_X7_push : Cond.selects yX7_push.cls yX7_push yX7_push ∈ hf_all := hf_t0 (List.mem_of_getElem? (i := 22) rfl) rfl
theorem kc_X7_pop : Cond.code yX7_pop cX7_pop 1 (some .long) ∈ hf_all := hf_t4 (List.mem_of_getElem? (i := 81) rfl) rfl
theorem ki_X7_pop : Cond.instanceMethod yX7_pop ∈ hf_all := hf_t4 (List.mem_of_getElem? (i := 80) rfl) rfl
theorem kv_X7_pop : Cond.selects yX7_pop.cls yX7_pop yX7_pop ∈ hf_all := hf_t0 (List.mem_of_getElem? (i := 24) rfl) rfl
theorem kc_X7_valueOfName : Cond.code yX7_valueOfName cX7_valueOfName 2 (some .long) ∈ hf_all := hf_t4 (List.mem_of_getElem? (i := 65) rfl) rfl
theorem ks_X7_valueOfName : Cond.static yX7_valueOfName ∈ hf_all := hf_t4 (List.mem_of_getElem? (i := 64) rfl) rfl
theorem kc_X7_operate : Cond.code yX7_operate cX7_operate 6 none ∈ hf_all := hf_t4 (List.mem_of_getElem? (i := 77) rfl) rfl
theorem ki_X7_operate : Cond.instanceMethod yX7_operate ∈ hf_all := hf_t4 (List.mem_of_getElem? (i := 76) rfl) rfl
theorem kv_X7_operate : Cond.selects yX7_operate.cls yX7_operate yX7_operate ∈ hf_all := hf_t0 (List.mem_of_getElem? (i := 23) rfl) rfl
theorem kc_X7_multiply : Cond.code yX7_multiply cX7_multiply 5 none ∈ hf_all := hf_t4 (List.mem_of_getElem? (i := 85) rfl) rfl
theorem ki_X7_multiply : Cond.instanceMethod yX7_multiply ∈ hf_all := hf_t4 (List.mem_of_getElem? (i := 84) rfl) rfl
theorem kv_X7_multiply : Cond.selects yX7_multiply.cls yX7_multiply yX7_multiply ∈ hf_all := hf_t0 (List.mem_of_getElem? (i := 25) rfl) rfl
theorem kc_X7_divide : Cond.code yX7_divide cX7_divide 5 none ∈ hf_all := hf_t4 (List.mem_of_getElem? (i := 92) rfl) rfl
theorem ki_X7_divide : Cond.instanceMethod yX7_divide ∈ hf_all := hf_t4 (List.mem_of_getElem? (i := 91) rfl) rfl
theorem kv_X7_divide : Cond.selects yX7_divide.cls yX7_divide yX7_divide ∈ hf_all := hf_t0 (List.mem_of_getElem? (i := 26) rfl) rfl
theorem kc_X7_holds : Cond.code yX7_holds cX7_holds 5 (some .boolean) ∈ hf_all := hf_t4 (List.mem_of_getElem? (i := 95) rfl) rfl
theorem ks_X7_holds : Cond.static yX7_holds ∈ hf_all := hf_t4 (List.mem_of_getElem? (i := 94) rfl) rfl
theorem kc_X8_init : Cond.code yX8_init cX8_init 1 none ∈ hf_all := hf_t1 (List.mem_of_getElem? (i := 39) rfl) rfl
theorem ki_X8_init : Cond.instanceMethod yX8_init ∈ hf_all := hf_t1 (List.mem_of_getElem? (i := 38) rfl) rfl
theorem kc_X8_renew : Cond.code yX8_renew cX8_renew 2 none ∈ hf_all := hf_t3 (List.mem_of_getElem? (i := 34) rfl) rfl
theorem ki_X8_renew : Cond.instanceMethod yX8_renew ∈ hf_all := hf_t3 (List.mem_of_getElem? (i := 32) rfl) rfl
theorem kv_X8_renew : Cond.selects yX8_renew.cls yX8_renew yX8_renew ∈ hf_all := hf_t3 (List.mem_of_getElem? (i := 33) rfl) rfl
theorem kc_X8_setKind : Cond.code yX8_setKind cX8_setKind 5 none ∈ hf_all := hf_t3 (List.mem_of_getElem? (i := 53) rfl) rfl
theorem ki_X8_setKind : Cond.instanceMethod yX8_setKind ∈ hf_all := hf_t3 (List.mem_of_getElem? (i := 51) rfl) rfl
theorem kv_X8_setKind : Cond.selects yX8_setKind.cls yX8_setKind yX8_setKind ∈ hf_all := hf_t3 (List.mem_of_getElem? (i := 52) rfl) rfl
theorem kc_X8_setCosts : Cond.code yX8_setCosts cX8_setCosts 3 none ∈ hf_all := hf_t3 (List.mem_of_getElem? (i := 61) rfl) rfl
theorem ki_X8_setCosts : Cond.instanceMethod yX8_setCosts ∈ hf_all := hf_t3 (List.mem_of_getElem? (i := 59) rfl) rfl
theorem kv_X8_setCosts : Cond.selects yX8_setCosts.cls yX8_setCosts yX8_setCosts ∈ hf_all := hf_t3 (List.mem_of_getElem? (i := 60) rfl) rfl
theorem kc_X8_setWeight : Cond.code yX8_setWeight cX8_setWeight 3 none ∈ hf_all := hf_t3 (List.mem_of_getElem? (i := 73) rfl) rfl
theorem ki_X8_setWeight : Cond.instanceMethod yX8_setWeight ∈ hf_all := hf_t3 (List.mem_of_getElem? (i := 71) rfl) rfl
theorem kv_X8_setWeight : Cond.selects yX8_setWeight.cls yX8_setWeight yX8_setWeight ∈ hf_all := hf_t3 (List.mem_of_getElem? (i := 72) rfl) rfl
theorem kc_X8_hasKind : Cond.code yX8_hasKind cX8_hasKind 2 (some .boolean) ∈ hf_all := hf_t3 (List.mem_of_getElem? (i := 46) rfl) rfl
theorem ki_X8_hasKind : Cond.instanceMethod yX8_hasKind ∈ hf_all := hf_t3 (List.mem_of_getElem? (i := 44) rfl) rfl
theorem kv_X8_hasKind : Cond.selects yX8_hasKind.cls yX8_hasKind yX8_hasKind ∈ hf_all := hf_t3 (List.mem_of_getElem? (i := 45) rfl) rfl
theorem kc_X8_hasStep : Cond.code yX8_hasStep cX8_hasStep 2 (some .boolean) ∈ hf_all := hf_t4 (List.mem_of_getElem? (i := 108) rfl) rfl
theorem ki_X8_hasStep : Cond.instanceMethod yX8_hasStep ∈ hf_all := hf_t4 (List.mem_of_getElem? (i := 106) rfl) rfl
theorem kv_X8_hasStep : Cond.selects yX8_hasStep.cls yX8_hasStep yX8_hasStep ∈ hf_all := hf_t4 (List.mem_of_getElem? (i := 107) rfl) rfl
theorem kc_X8_hasStrength : Cond.code yX8_hasStrength cX8_hasStrength 2 (some .boolean) ∈ hf_all := hf_t3 (List.mem_of_getElem? (i := 69) rfl) rfl
theorem ki_X8_hasStrength : Cond.instanceMethod yX8_hasStrength ∈ hf_all := hf_t3 (List.mem_of_getElem? (i := 67) rfl) rfl
theorem kv_X8_hasStrength : Cond.selects yX8_hasStrength.cls yX8_hasStrength yX8_hasStrength ∈ hf_all := hf_t3 (List.mem_of_getElem? (i := 68) rfl) rfl
theorem kc_X8_breaks : Cond.code yX8_breaks cX8_breaks 4 (some .boolean) ∈ hf_all := hf_t4 (List.mem_of_getElem? (i := 116) rfl) rfl
theorem ki_X8_breaks : Cond.instanceMethod yX8_breaks ∈ hf_all := hf_t4 (List.mem_of_getElem? (i := 114) rfl) rfl
theorem kv_X8_breaks : Cond.selects yX8_breaks.cls yX8_breaks yX8_breaks ∈ hf_all := hf_t4 (List.mem_of_getElem? (i := 115) rfl) rfl
theorem kc_X8_costOf : Cond.code yX8_costOf cX8_costOf 4 (some .int) ∈ hf_all := hf_t4 (List.mem_of_getElem? (i := 124) rfl) rfl
theorem ki_X8_costOf : Cond.instanceMethod yX8_costOf ∈ hf_all := hf_t4 (List.mem_of_getElem? (i := 122) rfl) rfl
theorem kv_X8_costOf : Cond.selects yX8_costOf.cls yX8_costOf yX8_costOf ∈ hf_all := hf_t4 (List.mem_of_getElem? (i := 123) rfl) rfl
theorem kc_X8_allPieces : Cond.code yX8_allPieces cX8_allPieces 1 (some .int) ∈ hf_all := hf_t4 (List.mem_of_getElem? (i := 155) rfl) rfl
theorem ki_X8_allPieces : Cond.instanceMethod yX8_allPieces ∈ hf_all := hf_t4 (List.mem_of_getElem? (i := 153) rfl) rfl
theorem kv_X8_allPieces : Cond.selects yX8_allPieces.cls yX8_allPieces yX8_allPieces ∈ hf_all := hf_t4 (List.mem_of_getElem? (i := 154) rfl) rfl
theorem kc_X8_allWeights : Cond.code yX8_allWeights cX8_allWeights 3 (some .int) ∈ hf_all := hf_t5 (List.mem_of_getElem? (i := 134) rfl) rfl
theorem ki_X8_allWeights : Cond.instanceMethod yX8_allWeights ∈ hf_all := hf_t5 (List.mem_of_getElem? (i := 132) rfl) rfl
theorem kv_X8_allWeights : Cond.selects yX8_allWeights.cls yX8_allWeights yX8_allWeights ∈ hf_all := hf_t5 (List.mem_of_getElem? (i := 133) rfl) rfl
theorem kc_X8_strengthBehind : Cond.code yX8_strengthBehind cX8_strengthBehind 4 (some .int) ∈ hf_all := hf_t5 (List.mem_of_getElem? (i := 142) rfl) rfl
theorem ki_X8_strengthBehind : Cond.instanceMethod yX8_strengthBehind ∈ hf_all := hf_t5 (List.mem_of_getElem? (i := 140) rfl) rfl
theorem kv_X8_strengthBehind : Cond.selects yX8_strengthBehind.cls yX8_strengthBehind yX8_strengthBehind ∈ hf_all := hf_t5 (List.mem_of_getElem? (i := 141) rfl) rfl
theorem kc_X9_init : Cond.code yX9_init cX9_init 1 none ∈ hf_all := hf_t1 (List.mem_of_getElem? (i := 102) rfl) rfl
theorem ki_X9_init : Cond.instanceMethod yX9_init ∈ hf_all := hf_t1 (List.mem_of_getElem? (i := 101) rfl) rfl
theorem kc_X9_open : Cond.code yX9_open cX9_open 3 none ∈ hf_all := hf_t3 (List.mem_of_getElem? (i := 89) rfl) rfl
theorem ki_X9_open : Cond.instanceMethod yX9_open ∈ hf_all := hf_t3 (List.mem_of_getElem? (i := 87) rfl) rfl
theorem kv_X9_open : Cond.selects yX9_open.cls yX9_open yX9_open ∈ hf_all := hf_t3 (List.mem_of_getElem? (i := 88) rfl) rfl
theorem kc_X9_advance : Cond.code yX9_advance cX9_advance 1 none ∈ hf_all := hf_t3 (List.mem_of_getElem? (i := 100) rfl) rfl
theorem ki_X9_advance : Cond.instanceMethod yX9_advance ∈ hf_all := hf_t3 (List.mem_of_getElem? (i := 98) rfl) rfl
theorem kv_X9_advance : Cond.selects yX9_advance.cls yX9_advance yX9_advance ∈ hf_all := hf_t3 (List.mem_of_getElem? (i := 99) rfl) rfl
theorem kc_X9_isDigitAt : Cond.code yX9_isDigitAt cX9_isDigitAt 2 (some .boolean) ∈ hf_all := hf_t3 (List.mem_of_getElem? (i := 104) rfl) rfl
theorem ki_X9_isDigitAt : Cond.instanceMethod yX9_isDigitAt ∈ hf_all := hf_t3 (List.mem_of_getElem? (i := 103) rfl) rfl
theorem kv_X9_isDigitAt : Cond.selects yX9_isDigitAt.cls yX9_isDigitAt yX9_isDigitAt ∈ hf_all := hf_t0 (List.mem_of_getElem? (i := 1) rfl) rfl
theorem kc_X9_isLetterAt : Cond.code yX9_isLetterAt cX9_isLetterAt 2 (some .boolean) ∈ hf_all := hf_t3 (List.mem_of_getElem? (i := 112) rfl) rfl
theorem ki_X9_isLetterAt : Cond.instanceMethod yX9_isLetterAt ∈ hf_all := hf_t3 (List.mem_of_getElem? (i := 111) rfl) rfl
theorem kv_X9_isLetterAt : Cond.selects yX9_isLetterAt.cls yX9_isLetterAt yX9_isLetterAt ∈ hf_all := hf_t0 (List.mem_of_getElem? (i := 3) rfl) rfl
theorem kc_X9_readNumber : Cond.code yX9_readNumber cX9_readNumber 1 none ∈ hf_all := hf_t3 (List.mem_of_getElem? (i := 108) rfl) rfl
theorem ki_X9_readNumber : Cond.instanceMethod yX9_readNumber ∈ hf_all := hf_t3 (List.mem_of_getElem? (i := 107) rfl) rfl
theorem kv_X9_readNumber : Cond.selects yX9_readNumber.cls yX9_readNumber yX9_readNumber ∈ hf_all := hf_t0 (List.mem_of_getElem? (i := 2) rfl) rfl
theorem kc_X9_readWord : Cond.code yX9_readWord cX9_readWord 2 none ∈ hf_all := hf_t3 (List.mem_of_getElem? (i := 116) rfl) rfl
theorem ki_X9_readWord : Cond.instanceMethod yX9_readWord ∈ hf_all := hf_t3 (List.mem_of_getElem? (i := 115) rfl) rfl
theorem kv_X9_readWord : Cond.selects yX9_readWord.cls yX9_readWord yX9_readWord ∈ hf_all := hf_t0 (List.mem_of_getElem? (i := 4) rfl) rfl
theorem kc_X9_isWord : Cond.code yX9_isWord cX9_isWord 3 (some .boolean) ∈ hf_all := hf_t3 (List.mem_of_getElem? (i := 139) rfl) rfl
theorem ki_X9_isWord : Cond.instanceMethod yX9_isWord ∈ hf_all := hf_t3 (List.mem_of_getElem? (i := 138) rfl) rfl
theorem kv_X9_isWord : Cond.selects yX9_isWord.cls yX9_isWord yX9_isWord ∈ hf_all := hf_t0 (List.mem_of_getElem? (i := 5) rfl) rfl
theorem kc_X9_readSign : Cond.code yX9_readSign cX9_readSign 3 none ∈ hf_all := hf_t3 (List.mem_of_getElem? (i := 191) rfl) rfl
theorem ki_X9_readSign : Cond.instanceMethod yX9_readSign ∈ hf_all := hf_t3 (List.mem_of_getElem? (i := 190) rfl) rfl
theorem kv_X9_readSign : Cond.selects yX9_readSign.cls yX9_readSign yX9_readSign ∈ hf_all := hf_t0 (List.mem_of_getElem? (i := 6) rfl) rfl
theorem kc_X9_isName : Cond.code yX9_isName cX9_isName 1 (some .boolean) ∈ hf_all := hf_t4 (List.mem_of_getElem? (i := 8) rfl) rfl
theorem ks_X9_isName : Cond.static yX9_isName ∈ hf_all := hf_t4 (List.mem_of_getElem? (i := 7) rfl) rfl
theorem kc_X9_isComparison : Cond.code yX9_isComparison cX9_isComparison 1 (some .boolean) ∈ hf_all := hf_t3 (List.mem_of_getElem? (i := 236) rfl) rfl
theorem ks_X9_isComparison : Cond.static yX9_isComparison ∈ hf_all := hf_t3 (List.mem_of_getElem? (i := 235) rfl) rfl
theorem kc_X9_bindingOf : Cond.code yX9_bindingOf cX9_bindingOf 1 (some .int) ∈ hf_all := hf_t3 (List.mem_of_getElem? (i := 233) rfl) rfl
theorem ks_X9_bindingOf : Cond.static yX9_bindingOf ∈ hf_all := hf_t3 (List.mem_of_getElem? (i := 232) rfl) rfl
theorem kc_X9_wordOf : Cond.code yX9_wordOf cX9_wordOf 1 (some (.object "java/lang/String")) ∈ hf_all := hf_t3 (List.mem_of_getElem? (i := 119) rfl) rfl
theorem ks_X9_wordOf : Cond.static yX9_wordOf ∈ hf_all := hf_t3 (List.mem_of_getElem? (i := 118) rfl) rfl
theorem kc_X9_signOf : Cond.code yX9_signOf cX9_signOf 1 (some .int) ∈ hf_all := hf_t3 (List.mem_of_getElem? (i := 194) rfl) rfl
theorem ks_X9_signOf : Cond.static yX9_signOf ∈ hf_all := hf_t3 (List.mem_of_getElem? (i := 193) rfl) rfl
theorem kc_X10_init : Cond.code yX10_init cX10_init 1 none ∈ hf_all := hf_t2 (List.mem_of_getElem? (i := 144) rfl) rfl
theorem ki_X10_init : Cond.instanceMethod yX10_init ∈ hf_all := hf_t2 (List.mem_of_getElem? (i := 143) rfl) rfl
theorem kc_X10_fewestFalls : Cond.code yX10_fewestFalls cX10_fewestFalls 6 (some .int) ∈ hf_all := hf_t4 (List.mem_of_getElem? (i := 227) rfl) rfl
theorem ki_X10_fewestFalls : Cond.instanceMethod yX10_fewestFalls ∈ hf_all := hf_t4 (List.mem_of_getElem? (i := 225) rfl) rfl
theorem kv_X10_fewestFalls : Cond.selects yX10_fewestFalls.cls yX10_fewestFalls yX10_fewestFalls ∈ hf_all := hf_t4 (List.mem_of_getElem? (i := 226) rfl) rfl
theorem kc_X10_makeRoom : Cond.code yX10_makeRoom cX10_makeRoom 1 none ∈ hf_all := hf_t4 (List.mem_of_getElem? (i := 231) rfl) rfl
theorem ki_X10_makeRoom : Cond.instanceMethod yX10_makeRoom ∈ hf_all := hf_t4 (List.mem_of_getElem? (i := 230) rfl) rfl
theorem kv_X10_makeRoom : Cond.selects yX10_makeRoom.cls yX10_makeRoom yX10_makeRoom ∈ hf_all := hf_t0 (List.mem_of_getElem? (i := 36) rfl) rfl
theorem kc_X10_fillWithoutPieces : Cond.code yX10_fillWithoutPieces cX10_fillWithoutPieces 2 none ∈ hf_all := hf_t4 (List.mem_of_getElem? (i := 235) rfl) rfl
theorem ki_X10_fillWithoutPieces : Cond.instanceMethod yX10_fillWithoutPieces ∈ hf_all := hf_t4 (List.mem_of_getElem? (i := 234) rfl) rfl
theorem kv_X10_fillWithoutPieces : Cond.selects yX10_fillWithoutPieces.cls yX10_fillWithoutPieces yX10_fillWithoutPieces ∈ hf_all := hf_t0 (List.mem_of_getElem? (i := 37) rfl) rfl
theorem kc_X10_fillHigh : Cond.code yX10_fillHigh cX10_fillHigh 4 none ∈ hf_all := hf_t5 (List.mem_of_getElem? (i := 2) rfl) rfl
theorem ki_X10_fillHigh : Cond.instanceMethod yX10_fillHigh ∈ hf_all := hf_t5 (List.mem_of_getElem? (i := 1) rfl) rfl
theorem kv_X10_fillHigh : Cond.selects yX10_fillHigh.cls yX10_fillHigh yX10_fillHigh ∈ hf_all := hf_t0 (List.mem_of_getElem? (i := 38) rfl) rfl
theorem kc_X10_fewestFrom : Cond.code yX10_fewestFrom cX10_fewestFrom 11 (some .int) ∈ hf_all := hf_t5 (List.mem_of_getElem? (i := 6) rfl) rfl
theorem ki_X10_fewestFrom : Cond.instanceMethod yX10_fewestFrom ∈ hf_all := hf_t5 (List.mem_of_getElem? (i := 5) rfl) rfl
theorem kv_X10_fewestFrom : Cond.selects yX10_fewestFrom.cls yX10_fewestFrom yX10_fewestFrom ∈ hf_all := hf_t0 (List.mem_of_getElem? (i := 39) rfl) rfl
theorem kc_X11_init : Cond.code yX11_init cX11_init 1 none ∈ hf_all := hf_t1 (List.mem_of_getElem? (i := 31) rfl) rfl
theorem ki_X11_init : Cond.instanceMethod yX11_init ∈ hf_all := hf_t1 (List.mem_of_getElem? (i := 30) rfl) rfl
theorem kc_X11_feed : Cond.code yX11_feed cX11_feed 6 (some .int) ∈ hf_all := hf_t3 (List.mem_of_getElem? (i := 22) rfl) rfl
theorem ki_X11_feed : Cond.instanceMethod yX11_feed ∈ hf_all := hf_t3 (List.mem_of_getElem? (i := 20) rfl) rfl
theorem kv_X11_feed : Cond.selects yX11_feed.cls yX11_feed yX11_feed ∈ hf_all := hf_t3 (List.mem_of_getElem? (i := 21) rfl) rfl
theorem kc_X11_stair : Cond.code yX11_stair cX11_stair 2 (some .boolean) ∈ hf_all := hf_t3 (List.mem_of_getElem? (i := 30) rfl) rfl
theorem ki_X11_stair : Cond.instanceMethod yX11_stair ∈ hf_all := hf_t3 (List.mem_of_getElem? (i := 28) rfl) rfl
theorem kv_X11_stair : Cond.selects yX11_stair.cls yX11_stair yX11_stair ∈ hf_all := hf_t3 (List.mem_of_getElem? (i := 29) rfl) rfl
theorem kc_X11_kind : Cond.code yX11_kind cX11_kind 5 (some .boolean) ∈ hf_all := hf_t3 (List.mem_of_getElem? (i := 42) rfl) rfl
theorem ki_X11_kind : Cond.instanceMethod yX11_kind ∈ hf_all := hf_t3 (List.mem_of_getElem? (i := 40) rfl) rfl
theorem kv_X11_kind : Cond.selects yX11_kind.cls yX11_kind yX11_kind ∈ hf_all := hf_t3 (List.mem_of_getElem? (i := 41) rfl) rfl
theorem kc_X11_cost : Cond.code yX11_cost cX11_cost 3 (some .boolean) ∈ hf_all := hf_t3 (List.mem_of_getElem? (i := 57) rfl) rfl
theorem ki_X11_cost : Cond.instanceMethod yX11_cost ∈ hf_all := hf_t3 (List.mem_of_getElem? (i := 55) rfl) rfl
theorem kv_X11_cost : Cond.selects yX11_cost.cls yX11_cost yX11_cost ∈ hf_all := hf_t3 (List.mem_of_getElem? (i := 56) rfl) rfl
theorem kc_X11_weight : Cond.code yX11_weight cX11_weight 3 (some .boolean) ∈ hf_all := hf_t3 (List.mem_of_getElem? (i := 65) rfl) rfl
theorem ki_X11_weight : Cond.instanceMethod yX11_weight ∈ hf_all := hf_t3 (List.mem_of_getElem? (i := 63) rfl) rfl
theorem kv_X11_weight : Cond.selects yX11_weight.cls yX11_weight yX11_weight ∈ hf_all := hf_t3 (List.mem_of_getElem? (i := 64) rfl) rfl
theorem kc_X11_look : Cond.code yX11_look cX11_look 3 (some .int) ∈ hf_all := hf_t5 (List.mem_of_getElem? (i := 178) rfl) rfl
theorem ki_X11_look : Cond.instanceMethod yX11_look ∈ hf_all := hf_t5 (List.mem_of_getElem? (i := 176) rfl) rfl
theorem kv_X11_look : Cond.selects yX11_look.cls yX11_look yX11_look ∈ hf_all := hf_t5 (List.mem_of_getElem? (i := 177) rfl) rfl
theorem kc_X11_likely : Cond.code yX11_likely cX11_likely 2 (some .int) ∈ hf_all := hf_t3 (List.mem_of_getElem? (i := 77) rfl) rfl
theorem ki_X11_likely : Cond.instanceMethod yX11_likely ∈ hf_all := hf_t3 (List.mem_of_getElem? (i := 75) rfl) rfl
theorem kv_X11_likely : Cond.selects yX11_likely.cls yX11_likely yX11_likely ∈ hf_all := hf_t3 (List.mem_of_getElem? (i := 76) rfl) rfl
theorem kc_X11_plan : Cond.code yX11_plan cX11_plan 3 (some .int) ∈ hf_all := hf_t3 (List.mem_of_getElem? (i := 81) rfl) rfl
theorem ki_X11_plan : Cond.instanceMethod yX11_plan ∈ hf_all := hf_t3 (List.mem_of_getElem? (i := 79) rfl) rfl
theorem kv_X11_plan : Cond.selects yX11_plan.cls yX11_plan yX11_plan ∈ hf_all := hf_t3 (List.mem_of_getElem? (i := 80) rfl) rfl
theorem kc_X11_fault : Cond.code yX11_fault cX11_fault 2 (some .int) ∈ hf_all := hf_t4 (List.mem_of_getElem? (i := 20) rfl) rfl
theorem ki_X11_fault : Cond.instanceMethod yX11_fault ∈ hf_all := hf_t4 (List.mem_of_getElem? (i := 18) rfl) rfl
theorem kv_X11_fault : Cond.selects yX11_fault.cls yX11_fault yX11_fault ∈ hf_all := hf_t4 (List.mem_of_getElem? (i := 19) rfl) rfl
theorem kc_X11_tried : Cond.code yX11_tried cX11_tried 3 (some .long) ∈ hf_all := hf_t4 (List.mem_of_getElem? (i := 24) rfl) rfl
theorem ki_X11_tried : Cond.instanceMethod yX11_tried ∈ hf_all := hf_t4 (List.mem_of_getElem? (i := 22) rfl) rfl
theorem kv_X11_tried : Cond.selects yX11_tried.cls yX11_tried yX11_tried ∈ hf_all := hf_t4 (List.mem_of_getElem? (i := 23) rfl) rfl
theorem kc_X11_fall : Cond.code yX11_fall cX11_fall 4 (some .int) ∈ hf_all := hf_t4 (List.mem_of_getElem? (i := 128) rfl) rfl
theorem ki_X11_fall : Cond.instanceMethod yX11_fall ∈ hf_all := hf_t4 (List.mem_of_getElem? (i := 126) rfl) rfl
theorem kv_X11_fall : Cond.selects yX11_fall.cls yX11_fall yX11_fall ∈ hf_all := hf_t4 (List.mem_of_getElem? (i := 127) rfl) rfl
theorem kc_X11_judge : Cond.code yX11_judge cX11_judge 7 (some .long) ∈ hf_all := hf_t4 (List.mem_of_getElem? (i := 136) rfl) rfl
theorem ki_X11_judge : Cond.instanceMethod yX11_judge ∈ hf_all := hf_t4 (List.mem_of_getElem? (i := 134) rfl) rfl
theorem kv_X11_judge : Cond.selects yX11_judge.cls yX11_judge yX11_judge ∈ hf_all := hf_t4 (List.mem_of_getElem? (i := 135) rfl) rfl
theorem kc_X11_best : Cond.code yX11_best cX11_best 2 (some .long) ∈ hf_all := hf_t4 (List.mem_of_getElem? (i := 147) rfl) rfl
theorem ki_X11_best : Cond.instanceMethod yX11_best ∈ hf_all := hf_t4 (List.mem_of_getElem? (i := 145) rfl) rfl
theorem kv_X11_best : Cond.selects yX11_best.cls yX11_best yX11_best ∈ hf_all := hf_t4 (List.mem_of_getElem? (i := 146) rfl) rfl
theorem kc_X11_next : Cond.code yX11_next cX11_next 8 (some .long) ∈ hf_all := hf_t4 (List.mem_of_getElem? (i := 198) rfl) rfl
theorem ki_X11_next : Cond.instanceMethod yX11_next ∈ hf_all := hf_t4 (List.mem_of_getElem? (i := 196) rfl) rfl
theorem kv_X11_next : Cond.selects yX11_next.cls yX11_next yX11_next ∈ hf_all := hf_t4 (List.mem_of_getElem? (i := 197) rfl) rfl
theorem kc_X11_edge : Cond.code yX11_edge cX11_edge 3 (some .int) ∈ hf_all := hf_t4 (List.mem_of_getElem? (i := 202) rfl) rfl
theorem ki_X11_edge : Cond.instanceMethod yX11_edge ∈ hf_all := hf_t4 (List.mem_of_getElem? (i := 200) rfl) rfl
theorem kv_X11_edge : Cond.selects yX11_edge.cls yX11_edge yX11_edge ∈ hf_all := hf_t4 (List.mem_of_getElem? (i := 201) rfl) rfl
theorem kc_X11_weak : Cond.code yX11_weak cX11_weak 3 (some .int) ∈ hf_all := hf_t4 (List.mem_of_getElem? (i := 223) rfl) rfl
theorem ki_X11_weak : Cond.instanceMethod yX11_weak ∈ hf_all := hf_t4 (List.mem_of_getElem? (i := 221) rfl) rfl
theorem kv_X11_weak : Cond.selects yX11_weak.cls yX11_weak yX11_weak ∈ hf_all := hf_t4 (List.mem_of_getElem? (i := 222) rfl) rfl
theorem kc_X11_rounds : Cond.code yX11_rounds cX11_rounds 4 (some .int) ∈ hf_all := hf_t5 (List.mem_of_getElem? (i := 12) rfl) rfl
theorem ki_X11_rounds : Cond.instanceMethod yX11_rounds ∈ hf_all := hf_t5 (List.mem_of_getElem? (i := 10) rfl) rfl
theorem kv_X11_rounds : Cond.selects yX11_rounds.cls yX11_rounds yX11_rounds ∈ hf_all := hf_t5 (List.mem_of_getElem? (i := 11) rfl) rfl
theorem kc_X11_lies : Cond.code yX11_lies cX11_lies 3 (some .int) ∈ hf_all := hf_t5 (List.mem_of_getElem? (i := 22) rfl) rfl
theorem ki_X11_lies : Cond.instanceMethod yX11_lies ∈ hf_all := hf_t5 (List.mem_of_getElem? (i := 20) rfl) rfl
theorem kv_X11_lies : Cond.selects yX11_lies.cls yX11_lies yX11_lies ∈ hf_all := hf_t5 (List.mem_of_getElem? (i := 21) rfl) rfl
theorem kc_X11_note : Cond.code yX11_note cX11_note 5 (some .int) ∈ hf_all := hf_t5 (List.mem_of_getElem? (i := 56) rfl) rfl
theorem ki_X11_note : Cond.instanceMethod yX11_note ∈ hf_all := hf_t5 (List.mem_of_getElem? (i := 54) rfl) rfl
theorem kv_X11_note : Cond.selects yX11_note.cls yX11_note yX11_note ∈ hf_all := hf_t5 (List.mem_of_getElem? (i := 55) rfl) rfl
theorem kc_X11_strike : Cond.code yX11_strike cX11_strike 2 (some .int) ∈ hf_all := hf_t5 (List.mem_of_getElem? (i := 73) rfl) rfl
theorem ki_X11_strike : Cond.instanceMethod yX11_strike ∈ hf_all := hf_t5 (List.mem_of_getElem? (i := 71) rfl) rfl
theorem kv_X11_strike : Cond.selects yX11_strike.cls yX11_strike yX11_strike ∈ hf_all := hf_t5 (List.mem_of_getElem? (i := 72) rfl) rfl
theorem kc_X11_fitting : Cond.code yX11_fitting cX11_fitting 4 (some .int) ∈ hf_all := hf_t5 (List.mem_of_getElem? (i := 81) rfl) rfl
theorem ki_X11_fitting : Cond.instanceMethod yX11_fitting ∈ hf_all := hf_t5 (List.mem_of_getElem? (i := 79) rfl) rfl
theorem kv_X11_fitting : Cond.selects yX11_fitting.cls yX11_fitting yX11_fitting ∈ hf_all := hf_t5 (List.mem_of_getElem? (i := 80) rfl) rfl
theorem kc_X11_doubt : Cond.code yX11_doubt cX11_doubt 2 (some .int) ∈ hf_all := hf_t5 (List.mem_of_getElem? (i := 94) rfl) rfl
theorem ki_X11_doubt : Cond.instanceMethod yX11_doubt ∈ hf_all := hf_t5 (List.mem_of_getElem? (i := 92) rfl) rfl
theorem kv_X11_doubt : Cond.selects yX11_doubt.cls yX11_doubt yX11_doubt ∈ hf_all := hf_t5 (List.mem_of_getElem? (i := 93) rfl) rfl
theorem kc_X11_least : Cond.code yX11_least cX11_least 3 (some .int) ∈ hf_all := hf_t5 (List.mem_of_getElem? (i := 98) rfl) rfl
theorem ki_X11_least : Cond.instanceMethod yX11_least ∈ hf_all := hf_t5 (List.mem_of_getElem? (i := 96) rfl) rfl
theorem kv_X11_least : Cond.selects yX11_least.cls yX11_least yX11_least ∈ hf_all := hf_t5 (List.mem_of_getElem? (i := 97) rfl) rfl
theorem kc_X11_doubted : Cond.code yX11_doubted cX11_doubted 2 (some .int) ∈ hf_all := hf_t5 (List.mem_of_getElem? (i := 107) rfl) rfl
theorem ki_X11_doubted : Cond.instanceMethod yX11_doubted ∈ hf_all := hf_t5 (List.mem_of_getElem? (i := 105) rfl) rfl
theorem kv_X11_doubted : Cond.selects yX11_doubted.cls yX11_doubted yX11_doubted ∈ hf_all := hf_t5 (List.mem_of_getElem? (i := 106) rfl) rfl
theorem kc_X11_parts : Cond.code yX11_parts cX11_parts 2 (some .int) ∈ hf_all := hf_t5 (List.mem_of_getElem? (i := 115) rfl) rfl
theorem ki_X11_parts : Cond.instanceMethod yX11_parts ∈ hf_all := hf_t5 (List.mem_of_getElem? (i := 113) rfl) rfl
theorem kv_X11_parts : Cond.selects yX11_parts.cls yX11_parts yX11_parts ∈ hf_all := hf_t5 (List.mem_of_getElem? (i := 114) rfl) rfl
theorem kc_X11_begin : Cond.code yX11_begin cX11_begin 5 (some .boolean) ∈ hf_all := hf_t5 (List.mem_of_getElem? (i := 130) rfl) rfl
theorem ki_X11_begin : Cond.instanceMethod yX11_begin ∈ hf_all := hf_t5 (List.mem_of_getElem? (i := 128) rfl) rfl
theorem kv_X11_begin : Cond.selects yX11_begin.cls yX11_begin yX11_begin ∈ hf_all := hf_t5 (List.mem_of_getElem? (i := 129) rfl) rfl
theorem kc_X11_drop : Cond.code yX11_drop cX11_drop 3 (some .int) ∈ hf_all := hf_t5 (List.mem_of_getElem? (i := 147) rfl) rfl
theorem ki_X11_drop : Cond.instanceMethod yX11_drop ∈ hf_all := hf_t5 (List.mem_of_getElem? (i := 145) rfl) rfl
theorem kv_X11_drop : Cond.selects yX11_drop.cls yX11_drop yX11_drop ∈ hf_all := hf_t5 (List.mem_of_getElem? (i := 146) rfl) rfl
theorem kc_X11_back : Cond.code yX11_back cX11_back 1 (some .int) ∈ hf_all := hf_t5 (List.mem_of_getElem? (i := 153) rfl) rfl
theorem ki_X11_back : Cond.instanceMethod yX11_back ∈ hf_all := hf_t5 (List.mem_of_getElem? (i := 151) rfl) rfl
theorem kv_X11_back : Cond.selects yX11_back.cls yX11_back yX11_back ∈ hf_all := hf_t5 (List.mem_of_getElem? (i := 152) rfl) rfl
theorem kc_X11_now : Cond.code yX11_now cX11_now 2 (some .int) ∈ hf_all := hf_t5 (List.mem_of_getElem? (i := 161) rfl) rfl
theorem ki_X11_now : Cond.instanceMethod yX11_now ∈ hf_all := hf_t5 (List.mem_of_getElem? (i := 159) rfl) rfl
theorem kv_X11_now : Cond.selects yX11_now.cls yX11_now yX11_now ∈ hf_all := hf_t5 (List.mem_of_getElem? (i := 160) rfl) rfl
theorem kc_X11_count : Cond.code yX11_count cX11_count 2 (some .int) ∈ hf_all := hf_t5 (List.mem_of_getElem? (i := 169) rfl) rfl
theorem ki_X11_count : Cond.instanceMethod yX11_count ∈ hf_all := hf_t5 (List.mem_of_getElem? (i := 167) rfl) rfl
theorem kv_X11_count : Cond.selects yX11_count.cls yX11_count yX11_count ∈ hf_all := hf_t5 (List.mem_of_getElem? (i := 168) rfl) rfl
theorem kc_X11_putBytes : Cond.code yX11_putBytes cX11_putBytes 3 none ∈ hf_all := hf_t3 (List.mem_of_getElem? (i := 26) rfl) rfl
theorem ki_X11_putBytes : Cond.instanceMethod yX11_putBytes ∈ hf_all := hf_t3 (List.mem_of_getElem? (i := 25) rfl) rfl
theorem kv_X11_putBytes : Cond.selects yX11_putBytes.cls yX11_putBytes yX11_putBytes ∈ hf_all := hf_t0 (List.mem_of_getElem? (i := 0) rfl) rfl
theorem kc_X11_addRound : Cond.code yX11_addRound cX11_addRound 6 none ∈ hf_all := hf_t5 (List.mem_of_getElem? (i := 17) rfl) rfl
theorem ki_X11_addRound : Cond.instanceMethod yX11_addRound ∈ hf_all := hf_t5 (List.mem_of_getElem? (i := 16) rfl) rfl
theorem kv_X11_addRound : Cond.selects yX11_addRound.cls yX11_addRound yX11_addRound ∈ hf_all := hf_t0 (List.mem_of_getElem? (i := 40) rfl) rfl
theorem kc_X11_isWithin : Cond.code yX11_isWithin cX11_isWithin 2 (some .boolean) ∈ hf_all := hf_t3 (List.mem_of_getElem? (i := 49) rfl) rfl
theorem ks_X11_isWithin : Cond.static yX11_isWithin ∈ hf_all := hf_t3 (List.mem_of_getElem? (i := 48) rfl) rfl
theorem kc_X11_unitOf : Cond.code yX11_unitOf cX11_unitOf 1 (some .int) ∈ hf_all := hf_t4 (List.mem_of_getElem? (i := 176) rfl) rfl
theorem ks_X11_unitOf : Cond.static yX11_unitOf ∈ hf_all := hf_t4 (List.mem_of_getElem? (i := 175) rfl) rfl
theorem kc_X11_spanAt : Cond.code yX11_spanAt cX11_spanAt 2 (some .int) ∈ hf_all := hf_t4 (List.mem_of_getElem? (i := 183) rfl) rfl
theorem ks_X11_spanAt : Cond.static yX11_spanAt ∈ hf_all := hf_t4 (List.mem_of_getElem? (i := 182) rfl) rfl
theorem kc_X12_init : Cond.code yX12_init cX12_init 2 none ∈ hf_all := hf_t6 (List.mem_of_getElem? (i := 25) rfl) rfl
theorem ki_X12_init : Cond.instanceMethod yX12_init ∈ hf_all := hf_t6 (List.mem_of_getElem? (i := 24) rfl) rfl
theorem kc_X12_thrown : Cond.code yX12_thrown cX12_thrown 1 (some .int) ∈ hf_all := hf_t7 (List.mem_of_getElem? (i := 1) rfl) rfl
theorem ki_X12_thrown : Cond.instanceMethod yX12_thrown ∈ hf_all := hf_t6 (List.mem_of_getElem? (i := 239) rfl) rfl
theorem kv_X12_thrown : Cond.selects yX12_thrown.cls yX12_thrown yX12_thrown ∈ hf_all := hf_t7 (List.mem_of_getElem? (i := 0) rfl) rfl
theorem kc_X12_feed : Cond.code yX12_feed cX12_feed 8 (some .int) ∈ hf_all := hf_t7 (List.mem_of_getElem? (i := 5) rfl) rfl
theorem ki_X12_feed : Cond.instanceMethod yX12_feed ∈ hf_all := hf_t7 (List.mem_of_getElem? (i := 3) rfl) rfl
theorem kv_X12_feed : Cond.selects yX12_feed.cls yX12_feed yX12_feed ∈ hf_all := hf_t7 (List.mem_of_getElem? (i := 4) rfl) rfl
theorem kc_X12_isIn : Cond.code yX12_isIn cX12_isIn 3 (some .boolean) ∈ hf_all := hf_t7 (List.mem_of_getElem? (i := 12) rfl) rfl
theorem ks_X12_isIn : Cond.static yX12_isIn ∈ hf_all := hf_t7 (List.mem_of_getElem? (i := 11) rfl) rfl
theorem kc_X12_stair : Cond.code yX12_stair cX12_stair 3 (some .boolean) ∈ hf_all := hf_t7 (List.mem_of_getElem? (i := 9) rfl) rfl
theorem ki_X12_stair : Cond.instanceMethod yX12_stair ∈ hf_all := hf_t7 (List.mem_of_getElem? (i := 7) rfl) rfl
theorem kv_X12_stair : Cond.selects yX12_stair.cls yX12_stair yX12_stair ∈ hf_all := hf_t7 (List.mem_of_getElem? (i := 8) rfl) rfl
theorem kc_X12_isKind : Cond.code yX12_isKind cX12_isKind 1 (some .boolean) ∈ hf_all := hf_t7 (List.mem_of_getElem? (i := 19) rfl) rfl
theorem ks_X12_isKind : Cond.static yX12_isKind ∈ hf_all := hf_t7 (List.mem_of_getElem? (i := 18) rfl) rfl
theorem kc_X12_isStep : Cond.code yX12_isStep cX12_isStep 2 (some .boolean) ∈ hf_all := hf_t8 (List.mem_of_getElem? (i := 31) rfl) rfl
theorem ki_X12_isStep : Cond.instanceMethod yX12_isStep ∈ hf_all := hf_t8 (List.mem_of_getElem? (i := 30) rfl) rfl
theorem kv_X12_isStep : Cond.selects yX12_isStep.cls yX12_isStep yX12_isStep ∈ hf_all := hf_t0 (List.mem_of_getElem? (i := 88) rfl) rfl
theorem kc_X12_isStrength : Cond.code yX12_isStrength cX12_isStrength 2 (some .boolean) ∈ hf_all := hf_t7 (List.mem_of_getElem? (i := 31) rfl) rfl
theorem ki_X12_isStrength : Cond.instanceMethod yX12_isStrength ∈ hf_all := hf_t7 (List.mem_of_getElem? (i := 30) rfl) rfl
theorem kv_X12_isStrength : Cond.selects yX12_isStrength.cls yX12_isStrength yX12_isStrength ∈ hf_all := hf_t0 (List.mem_of_getElem? (i := 47) rfl) rfl
theorem kc_X12_kind : Cond.code yX12_kind cX12_kind 5 (some .boolean) ∈ hf_all := hf_t7 (List.mem_of_getElem? (i := 16) rfl) rfl
theorem ki_X12_kind : Cond.instanceMethod yX12_kind ∈ hf_all := hf_t7 (List.mem_of_getElem? (i := 14) rfl) rfl
theorem kv_X12_kind : Cond.selects yX12_kind.cls yX12_kind yX12_kind ∈ hf_all := hf_t7 (List.mem_of_getElem? (i := 15) rfl) rfl
theorem kc_X12_cost : Cond.code yX12_cost cX12_cost 3 (some .boolean) ∈ hf_all := hf_t7 (List.mem_of_getElem? (i := 23) rfl) rfl
theorem ki_X12_cost : Cond.instanceMethod yX12_cost ∈ hf_all := hf_t7 (List.mem_of_getElem? (i := 21) rfl) rfl
theorem kv_X12_cost : Cond.selects yX12_cost.cls yX12_cost yX12_cost ∈ hf_all := hf_t7 (List.mem_of_getElem? (i := 22) rfl) rfl
theorem kc_X12_weight : Cond.code yX12_weight cX12_weight 3 (some .boolean) ∈ hf_all := hf_t7 (List.mem_of_getElem? (i := 27) rfl) rfl
theorem ki_X12_weight : Cond.instanceMethod yX12_weight ∈ hf_all := hf_t7 (List.mem_of_getElem? (i := 25) rfl) rfl
theorem kv_X12_weight : Cond.selects yX12_weight.cls yX12_weight yX12_weight ∈ hf_all := hf_t7 (List.mem_of_getElem? (i := 26) rfl) rfl
theorem kc_X12_fails : Cond.code yX12_fails cX12_fails 2 (some .int) ∈ hf_all := hf_t7 (List.mem_of_getElem? (i := 39) rfl) rfl
theorem ki_X12_fails : Cond.instanceMethod yX12_fails ∈ hf_all := hf_t7 (List.mem_of_getElem? (i := 38) rfl) rfl
theorem kv_X12_fails : Cond.selects yX12_fails.cls yX12_fails yX12_fails ∈ hf_all := hf_t0 (List.mem_of_getElem? (i := 48) rfl) rfl
theorem kc_X12_look : Cond.code yX12_look cX12_look 3 (some .int) ∈ hf_all := hf_t7 (List.mem_of_getElem? (i := 35) rfl) rfl
theorem ki_X12_look : Cond.instanceMethod yX12_look ∈ hf_all := hf_t7 (List.mem_of_getElem? (i := 33) rfl) rfl
theorem kv_X12_look : Cond.selects yX12_look.cls yX12_look yX12_look ∈ hf_all := hf_t7 (List.mem_of_getElem? (i := 34) rfl) rfl
theorem kc_X12_likely : Cond.code yX12_likely cX12_likely 2 (some .int) ∈ hf_all := hf_t7 (List.mem_of_getElem? (i := 43) rfl) rfl
theorem ki_X12_likely : Cond.instanceMethod yX12_likely ∈ hf_all := hf_t7 (List.mem_of_getElem? (i := 41) rfl) rfl
theorem kv_X12_likely : Cond.selects yX12_likely.cls yX12_likely yX12_likely ∈ hf_all := hf_t7 (List.mem_of_getElem? (i := 42) rfl) rfl
theorem kc_X12_weightsOf : Cond.code yX12_weightsOf cX12_weightsOf 5 (some .int) ∈ hf_all := hf_t8 (List.mem_of_getElem? (i := 79) rfl) rfl
theorem ki_X12_weightsOf : Cond.instanceMethod yX12_weightsOf ∈ hf_all := hf_t8 (List.mem_of_getElem? (i := 78) rfl) rfl
theorem kv_X12_weightsOf : Cond.selects yX12_weightsOf.cls yX12_weightsOf yX12_weightsOf ∈ hf_all := hf_t0 (List.mem_of_getElem? (i := 93) rfl) rfl
theorem kc_X12_wrong : Cond.code yX12_wrong cX12_wrong 2 (some .boolean) ∈ hf_all := hf_t7 (List.mem_of_getElem? (i := 79) rfl) rfl
theorem ki_X12_wrong : Cond.instanceMethod yX12_wrong ∈ hf_all := hf_t7 (List.mem_of_getElem? (i := 78) rfl) rfl
theorem kv_X12_wrong : Cond.selects yX12_wrong.cls yX12_wrong yX12_wrong ∈ hf_all := hf_t0 (List.mem_of_getElem? (i := 56) rfl) rfl
theorem kc_X12_wordAt : Cond.code yX12_wordAt cX12_wordAt 8 (some .int) ∈ hf_all := hf_t7 (List.mem_of_getElem? (i := 59) rfl) rfl
theorem ki_X12_wordAt : Cond.instanceMethod yX12_wordAt ∈ hf_all := hf_t7 (List.mem_of_getElem? (i := 58) rfl) rfl
theorem kv_X12_wordAt : Cond.selects yX12_wordAt.cls yX12_wordAt yX12_wordAt ∈ hf_all := hf_t0 (List.mem_of_getElem? (i := 51) rfl) rfl
theorem kc_X12_isSmall : Cond.code yX12_isSmall cX12_isSmall 2 (some .boolean) ∈ hf_all := hf_t7 (List.mem_of_getElem? (i := 55) rfl) rfl
theorem ki_X12_isSmall : Cond.instanceMethod yX12_isSmall ∈ hf_all := hf_t7 (List.mem_of_getElem? (i := 54) rfl) rfl
theorem kv_X12_isSmall : Cond.selects yX12_isSmall.cls yX12_isSmall yX12_isSmall ∈ hf_all := hf_t0 (List.mem_of_getElem? (i := 50) rfl) rfl
theorem kc_X12_isDigit : Cond.code yX12_isDigit cX12_isDigit 2 (some .boolean) ∈ hf_all := hf_t7 (List.mem_of_getElem? (i := 63) rfl) rfl
theorem ki_X12_isDigit : Cond.instanceMethod yX12_isDigit ∈ hf_all := hf_t7 (List.mem_of_getElem? (i := 62) rfl) rfl
theorem kv_X12_isDigit : Cond.selects yX12_isDigit.cls yX12_isDigit yX12_isDigit ∈ hf_all := hf_t0 (List.mem_of_getElem? (i := 52) rfl) rfl
theorem kc_X12_take : Cond.code yX12_take cX12_take 1 none ∈ hf_all := hf_t7 (List.mem_of_getElem? (i := 51) rfl) rfl
theorem ki_X12_take : Cond.instanceMethod yX12_take ∈ hf_all := hf_t7 (List.mem_of_getElem? (i := 50) rfl) rfl
theorem kv_X12_take : Cond.selects yX12_take.cls yX12_take yX12_take ∈ hf_all := hf_t0 (List.mem_of_getElem? (i := 49) rfl) rfl
theorem kc_X12_takeSign : Cond.code yX12_takeSign cX12_takeSign 4 none ∈ hf_all := hf_t7 (List.mem_of_getElem? (i := 67) rfl) rfl
theorem ki_X12_takeSign : Cond.instanceMethod yX12_takeSign ∈ hf_all := hf_t7 (List.mem_of_getElem? (i := 66) rfl) rfl
theorem kv_X12_takeSign : Cond.selects yX12_takeSign.cls yX12_takeSign yX12_takeSign ∈ hf_all := hf_t0 (List.mem_of_getElem? (i := 53) rfl) rfl
theorem kc_X12_isKey : Cond.code yX12_isKey cX12_isKey 2 (some .boolean) ∈ hf_all := hf_t7 (List.mem_of_getElem? (i := 75) rfl) rfl
theorem ki_X12_isKey : Cond.instanceMethod yX12_isKey ∈ hf_all := hf_t7 (List.mem_of_getElem? (i := 74) rfl) rfl
theorem kv_X12_isKey : Cond.selects yX12_isKey.cls yX12_isKey yX12_isKey ∈ hf_all := hf_t0 (List.mem_of_getElem? (i := 55) rfl) rfl
theorem kc_X12_isSign : Cond.code yX12_isSign cX12_isSign 2 (some .boolean) ∈ hf_all := hf_t7 (List.mem_of_getElem? (i := 91) rfl) rfl
theorem ki_X12_isSign : Cond.instanceMethod yX12_isSign ∈ hf_all := hf_t7 (List.mem_of_getElem? (i := 90) rfl) rfl
theorem kv_X12_isSign : Cond.selects yX12_isSign.cls yX12_isSign yX12_isSign ∈ hf_all := hf_t0 (List.mem_of_getElem? (i := 59) rfl) rfl
theorem kc_X12_numberRead : Cond.code yX12_numberRead cX12_numberRead 3 (some .boolean) ∈ hf_all := hf_t7 (List.mem_of_getElem? (i := 107) rfl) rfl
theorem ki_X12_numberRead : Cond.instanceMethod yX12_numberRead ∈ hf_all := hf_t7 (List.mem_of_getElem? (i := 106) rfl) rfl
theorem kv_X12_numberRead : Cond.selects yX12_numberRead.cls yX12_numberRead yX12_numberRead ∈ hf_all := hf_t0 (List.mem_of_getElem? (i := 63) rfl) rfl
theorem kc_X12_rank : Cond.code yX12_rank cX12_rank 1 (some .int) ∈ hf_all := hf_t7 (List.mem_of_getElem? (i := 122) rfl) rfl
theorem ks_X12_rank : Cond.static yX12_rank ∈ hf_all := hf_t7 (List.mem_of_getElem? (i := 121) rfl) rfl
theorem kc_X12_grown : Cond.code yX12_grown cX12_grown 4 none ∈ hf_all := hf_t7 (List.mem_of_getElem? (i := 111) rfl) rfl
theorem ki_X12_grown : Cond.instanceMethod yX12_grown ∈ hf_all := hf_t7 (List.mem_of_getElem? (i := 110) rfl) rfl
theorem kv_X12_grown : Cond.selects yX12_grown.cls yX12_grown yX12_grown ∈ hf_all := hf_t0 (List.mem_of_getElem? (i := 64) rfl) rfl
theorem kc_X12_dropHeld : Cond.code yX12_dropHeld cX12_dropHeld 1 (some .int) ∈ hf_all := hf_t7 (List.mem_of_getElem? (i := 126) rfl) rfl
theorem ki_X12_dropHeld : Cond.instanceMethod yX12_dropHeld ∈ hf_all := hf_t7 (List.mem_of_getElem? (i := 125) rfl) rfl
theorem kv_X12_dropHeld : Cond.selects yX12_dropHeld.cls yX12_dropHeld yX12_dropHeld ∈ hf_all := hf_t0 (List.mem_of_getElem? (i := 67) rfl) rfl
theorem kc_X12_bind : Cond.code yX12_bind cX12_bind 5 none ∈ hf_all := hf_t7 (List.mem_of_getElem? (i := 119) rfl) rfl
theorem ki_X12_bind : Cond.instanceMethod yX12_bind ∈ hf_all := hf_t7 (List.mem_of_getElem? (i := 118) rfl) rfl
theorem kv_X12_bind : Cond.selects yX12_bind.cls yX12_bind yX12_bind ∈ hf_all := hf_t0 (List.mem_of_getElem? (i := 66) rfl) rfl
theorem kc_X12_isCounted : Cond.code yX12_isCounted cX12_isCounted 1 (some .boolean) ∈ hf_all := hf_t7 (List.mem_of_getElem? (i := 103) rfl) rfl
theorem ki_X12_isCounted : Cond.instanceMethod yX12_isCounted ∈ hf_all := hf_t7 (List.mem_of_getElem? (i := 102) rfl) rfl
theorem kv_X12_isCounted : Cond.selects yX12_isCounted.cls yX12_isCounted yX12_isCounted ∈ hf_all := hf_t0 (List.mem_of_getElem? (i := 62) rfl) rfl
theorem kc_X12_waitsFor : Cond.code yX12_waitsFor cX12_waitsFor 2 none ∈ hf_all := hf_t7 (List.mem_of_getElem? (i := 99) rfl) rfl
theorem ki_X12_waitsFor : Cond.instanceMethod yX12_waitsFor ∈ hf_all := hf_t7 (List.mem_of_getElem? (i := 98) rfl) rfl
theorem kv_X12_waitsFor : Cond.selects yX12_waitsFor.cls yX12_waitsFor yX12_waitsFor ∈ hf_all := hf_t0 (List.mem_of_getElem? (i := 61) rfl) rfl
theorem kc_X12_leafRead : Cond.code yX12_leafRead cX12_leafRead 2 (some .boolean) ∈ hf_all := hf_t7 (List.mem_of_getElem? (i := 95) rfl) rfl
theorem ki_X12_leafRead : Cond.instanceMethod yX12_leafRead ∈ hf_all := hf_t7 (List.mem_of_getElem? (i := 94) rfl) rfl
theorem kv_X12_leafRead : Cond.selects yX12_leafRead.cls yX12_leafRead yX12_leafRead ∈ hf_all := hf_t0 (List.mem_of_getElem? (i := 60) rfl) rfl
theorem kc_X12_signMet : Cond.code yX12_signMet cX12_signMet 1 (some .int) ∈ hf_all := hf_t7 (List.mem_of_getElem? (i := 87) rfl) rfl
theorem ki_X12_signMet : Cond.instanceMethod yX12_signMet ∈ hf_all := hf_t7 (List.mem_of_getElem? (i := 86) rfl) rfl
theorem kv_X12_signMet : Cond.selects yX12_signMet.cls yX12_signMet yX12_signMet ∈ hf_all := hf_t0 (List.mem_of_getElem? (i := 58) rfl) rfl
theorem kc_X12_signs : Cond.code yX12_signs cX12_signs 2 (some .boolean) ∈ hf_all := hf_t7 (List.mem_of_getElem? (i := 115) rfl) rfl
theorem ki_X12_signs : Cond.instanceMethod yX12_signs ∈ hf_all := hf_t7 (List.mem_of_getElem? (i := 114) rfl) rfl
theorem kv_X12_signs : Cond.selects yX12_signs.cls yX12_signs yX12_signs ∈ hf_all := hf_t0 (List.mem_of_getElem? (i := 65) rfl) rfl
theorem kc_X12_sumRead : Cond.code yX12_sumRead cX12_sumRead 1 (some .boolean) ∈ hf_all := hf_t7 (List.mem_of_getElem? (i := 83) rfl) rfl
theorem ki_X12_sumRead : Cond.instanceMethod yX12_sumRead ∈ hf_all := hf_t7 (List.mem_of_getElem? (i := 82) rfl) rfl
theorem kv_X12_sumRead : Cond.selects yX12_sumRead.cls yX12_sumRead yX12_sumRead ∈ hf_all := hf_t0 (List.mem_of_getElem? (i := 57) rfl) rfl
theorem kc_X12_lineRead : Cond.code yX12_lineRead cX12_lineRead 3 (some .boolean) ∈ hf_all := hf_t7 (List.mem_of_getElem? (i := 71) rfl) rfl
theorem ki_X12_lineRead : Cond.instanceMethod yX12_lineRead ∈ hf_all := hf_t7 (List.mem_of_getElem? (i := 70) rfl) rfl
theorem kv_X12_lineRead : Cond.selects yX12_lineRead.cls yX12_lineRead yX12_lineRead ∈ hf_all := hf_t0 (List.mem_of_getElem? (i := 54) rfl) rfl
theorem kc_X12_plan : Cond.code yX12_plan cX12_plan 3 (some .int) ∈ hf_all := hf_t7 (List.mem_of_getElem? (i := 47) rfl) rfl
theorem ki_X12_plan : Cond.instanceMethod yX12_plan ∈ hf_all := hf_t7 (List.mem_of_getElem? (i := 45) rfl) rfl
theorem kv_X12_plan : Cond.selects yX12_plan.cls yX12_plan yX12_plan ∈ hf_all := hf_t7 (List.mem_of_getElem? (i := 46) rfl) rfl
theorem kc_X12_fault : Cond.code yX12_fault cX12_fault 2 (some .int) ∈ hf_all := hf_t7 (List.mem_of_getElem? (i := 130) rfl) rfl
theorem ki_X12_fault : Cond.instanceMethod yX12_fault ∈ hf_all := hf_t7 (List.mem_of_getElem? (i := 128) rfl) rfl
theorem kv_X12_fault : Cond.selects yX12_fault.cls yX12_fault yX12_fault ∈ hf_all := hf_t7 (List.mem_of_getElem? (i := 129) rfl) rfl
theorem kc_X12_bounded : Cond.code yX12_bounded cX12_bounded 3 (some .long) ∈ hf_all := hf_t7 (List.mem_of_getElem? (i := 156) rfl) rfl
theorem ki_X12_bounded : Cond.instanceMethod yX12_bounded ∈ hf_all := hf_t7 (List.mem_of_getElem? (i := 155) rfl) rfl
theorem kv_X12_bounded : Cond.selects yX12_bounded.cls yX12_bounded yX12_bounded ∈ hf_all := hf_t0 (List.mem_of_getElem? (i := 72) rfl) rfl
theorem kc_X12_compares : Cond.code yX12_compares cX12_compares 5 (some .boolean) ∈ hf_all := hf_t7 (List.mem_of_getElem? (i := 165) rfl) rfl
theorem ks_X12_compares : Cond.static yX12_compares ∈ hf_all := hf_t7 (List.mem_of_getElem? (i := 164) rfl) rfl
theorem kc_X12_times : Cond.code yX12_times cX12_times 6 (some .long) ∈ hf_all := hf_t7 (List.mem_of_getElem? (i := 162) rfl) rfl
theorem ki_X12_times : Cond.instanceMethod yX12_times ∈ hf_all := hf_t7 (List.mem_of_getElem? (i := 161) rfl) rfl
theorem kv_X12_times : Cond.selects yX12_times.cls yX12_times yX12_times ∈ hf_all := hf_t0 (List.mem_of_getElem? (i := 73) rfl) rfl
theorem kc_X12_worthOf : Cond.code yX12_worthOf cX12_worthOf 6 (some .long) ∈ hf_all := hf_t7 (List.mem_of_getElem? (i := 152) rfl) rfl
theorem ki_X12_worthOf : Cond.instanceMethod yX12_worthOf ∈ hf_all := hf_t7 (List.mem_of_getElem? (i := 151) rfl) rfl
theorem kv_X12_worthOf : Cond.selects yX12_worthOf.cls yX12_worthOf yX12_worthOf ∈ hf_all := hf_t0 (List.mem_of_getElem? (i := 71) rfl) rfl
theorem kc_X12_sumOf : Cond.code yX12_sumOf cX12_sumOf 4 (some .long) ∈ hf_all := hf_t7 (List.mem_of_getElem? (i := 148) rfl) rfl
theorem ki_X12_sumOf : Cond.instanceMethod yX12_sumOf ∈ hf_all := hf_t7 (List.mem_of_getElem? (i := 147) rfl) rfl
theorem kv_X12_sumOf : Cond.selects yX12_sumOf.cls yX12_sumOf yX12_sumOf ∈ hf_all := hf_t0 (List.mem_of_getElem? (i := 70) rfl) rfl
theorem kc_X12_lineNow : Cond.code yX12_lineNow cX12_lineNow 4 (some .int) ∈ hf_all := hf_t7 (List.mem_of_getElem? (i := 144) rfl) rfl
theorem ki_X12_lineNow : Cond.instanceMethod yX12_lineNow ∈ hf_all := hf_t7 (List.mem_of_getElem? (i := 143) rfl) rfl
theorem kv_X12_lineNow : Cond.selects yX12_lineNow.cls yX12_lineNow yX12_lineNow ∈ hf_all := hf_t0 (List.mem_of_getElem? (i := 69) rfl) rfl
theorem kc_X12_breaks : Cond.code yX12_breaks cX12_breaks 5 (some .boolean) ∈ hf_all := hf_t7 (List.mem_of_getElem? (i := 173) rfl) rfl
theorem ki_X12_breaks : Cond.instanceMethod yX12_breaks ∈ hf_all := hf_t7 (List.mem_of_getElem? (i := 172) rfl) rfl
theorem kv_X12_breaks : Cond.selects yX12_breaks.cls yX12_breaks yX12_breaks ∈ hf_all := hf_t0 (List.mem_of_getElem? (i := 75) rfl) rfl
theorem kc_X12_runs : Cond.code yX12_runs cX12_runs 6 none ∈ hf_all := hf_t7 (List.mem_of_getElem? (i := 140) rfl) rfl
theorem ki_X12_runs : Cond.instanceMethod yX12_runs ∈ hf_all := hf_t7 (List.mem_of_getElem? (i := 139) rfl) rfl
theorem kv_X12_runs : Cond.selects yX12_runs.cls yX12_runs yX12_runs ∈ hf_all := hf_t0 (List.mem_of_getElem? (i := 68) rfl) rfl
theorem kc_X12_lets : Cond.code yX12_lets cX12_lets 7 none ∈ hf_all := hf_t7 (List.mem_of_getElem? (i := 169) rfl) rfl
theorem ki_X12_lets : Cond.instanceMethod yX12_lets ∈ hf_all := hf_t7 (List.mem_of_getElem? (i := 168) rfl) rfl
theorem kv_X12_lets : Cond.selects yX12_lets.cls yX12_lets yX12_lets ∈ hf_all := hf_t0 (List.mem_of_getElem? (i := 74) rfl) rfl
theorem kc_X12_tried : Cond.code yX12_tried cX12_tried 3 (some .long) ∈ hf_all := hf_t7 (List.mem_of_getElem? (i := 134) rfl) rfl
theorem ki_X12_tried : Cond.instanceMethod yX12_tried ∈ hf_all := hf_t7 (List.mem_of_getElem? (i := 132) rfl) rfl
theorem kv_X12_tried : Cond.selects yX12_tried.cls yX12_tried yX12_tried ∈ hf_all := hf_t7 (List.mem_of_getElem? (i := 133) rfl) rfl
theorem kc_X12_fall : Cond.code yX12_fall cX12_fall 4 (some .int) ∈ hf_all := hf_t7 (List.mem_of_getElem? (i := 177) rfl) rfl
theorem ki_X12_fall : Cond.instanceMethod yX12_fall ∈ hf_all := hf_t7 (List.mem_of_getElem? (i := 175) rfl) rfl
theorem kv_X12_fall : Cond.selects yX12_fall.cls yX12_fall yX12_fall ∈ hf_all := hf_t7 (List.mem_of_getElem? (i := 176) rfl) rfl
theorem kc_X12_judge : Cond.code yX12_judge cX12_judge 5 (some .long) ∈ hf_all := hf_t7 (List.mem_of_getElem? (i := 181) rfl) rfl
theorem ki_X12_judge : Cond.instanceMethod yX12_judge ∈ hf_all := hf_t7 (List.mem_of_getElem? (i := 179) rfl) rfl
theorem kv_X12_judge : Cond.selects yX12_judge.cls yX12_judge yX12_judge ∈ hf_all := hf_t7 (List.mem_of_getElem? (i := 180) rfl) rfl
theorem kc_X12_leftOf : Cond.code yX12_leftOf cX12_leftOf 2 (some .int) ∈ hf_all := hf_t7 (List.mem_of_getElem? (i := 199) rfl) rfl
theorem ks_X12_leftOf : Cond.static yX12_leftOf ∈ hf_all := hf_t7 (List.mem_of_getElem? (i := 198) rfl) rfl
theorem kc_X12_oneOf : Cond.code yX12_oneOf cX12_oneOf 1 (some .int) ∈ hf_all := hf_t7 (List.mem_of_getElem? (i := 214) rfl) rfl
theorem ks_X12_oneOf : Cond.static yX12_oneOf ∈ hf_all := hf_t7 (List.mem_of_getElem? (i := 213) rfl) rfl
theorem kc_X12_bestAt : Cond.code yX12_bestAt cX12_bestAt 4 (some .long) ∈ hf_all := hf_t7 (List.mem_of_getElem? (i := 211) rfl) rfl
theorem ki_X12_bestAt : Cond.instanceMethod yX12_bestAt ∈ hf_all := hf_t7 (List.mem_of_getElem? (i := 210) rfl) rfl
theorem kv_X12_bestAt : Cond.selects yX12_bestAt.cls yX12_bestAt yX12_bestAt ∈ hf_all := hf_t0 (List.mem_of_getElem? (i := 80) rfl) rfl
theorem kc_X12_costOf : Cond.code yX12_costOf cX12_costOf 2 (some .int) ∈ hf_all := hf_t7 (List.mem_of_getElem? (i := 218) rfl) rfl
theorem ki_X12_costOf : Cond.instanceMethod yX12_costOf ∈ hf_all := hf_t7 (List.mem_of_getElem? (i := 217) rfl) rfl
theorem kv_X12_costOf : Cond.selects yX12_costOf.cls yX12_costOf yX12_costOf ∈ hf_all := hf_t0 (List.mem_of_getElem? (i := 81) rfl) rfl
theorem kc_X12_ofFall : Cond.code yX12_ofFall cX12_ofFall 16 (some .long) ∈ hf_all := hf_t7 (List.mem_of_getElem? (i := 207) rfl) rfl
theorem ki_X12_ofFall : Cond.instanceMethod yX12_ofFall ∈ hf_all := hf_t7 (List.mem_of_getElem? (i := 206) rfl) rfl
theorem kv_X12_ofFall : Cond.selects yX12_ofFall.cls yX12_ofFall yX12_ofFall ∈ hf_all := hf_t0 (List.mem_of_getElem? (i := 79) rfl) rfl
theorem kc_X12_bestOf : Cond.code yX12_bestOf cX12_bestOf 13 (some .long) ∈ hf_all := hf_t7 (List.mem_of_getElem? (i := 203) rfl) rfl
theorem ki_X12_bestOf : Cond.instanceMethod yX12_bestOf ∈ hf_all := hf_t7 (List.mem_of_getElem? (i := 202) rfl) rfl
theorem kv_X12_bestOf : Cond.selects yX12_bestOf.cls yX12_bestOf yX12_bestOf ∈ hf_all := hf_t0 (List.mem_of_getElem? (i := 78) rfl) rfl
theorem kc_X12_isWithin : Cond.code yX12_isWithin cX12_isWithin 2 (some .boolean) ∈ hf_all := hf_t7 (List.mem_of_getElem? (i := 196) rfl) rfl
theorem ks_X12_isWithin : Cond.static yX12_isWithin ∈ hf_all := hf_t7 (List.mem_of_getElem? (i := 195) rfl) rfl
theorem kc_X12_layBest : Cond.code yX12_layBest cX12_layBest 8 (some .long) ∈ hf_all := hf_t7 (List.mem_of_getElem? (i := 193) rfl) rfl
theorem ki_X12_layBest : Cond.instanceMethod yX12_layBest ∈ hf_all := hf_t7 (List.mem_of_getElem? (i := 192) rfl) rfl
theorem kv_X12_layBest : Cond.selects yX12_layBest.cls yX12_layBest yX12_layBest ∈ hf_all := hf_t0 (List.mem_of_getElem? (i := 77) rfl) rfl
theorem kc_X12_allPieces : Cond.code yX12_allPieces cX12_allPieces 1 (some .int) ∈ hf_all := hf_t7 (List.mem_of_getElem? (i := 189) rfl) rfl
theorem ki_X12_allPieces : Cond.instanceMethod yX12_allPieces ∈ hf_all := hf_t7 (List.mem_of_getElem? (i := 188) rfl) rfl
theorem kv_X12_allPieces : Cond.selects yX12_allPieces.cls yX12_allPieces yX12_allPieces ∈ hf_all := hf_t0 (List.mem_of_getElem? (i := 76) rfl) rfl
theorem kc_X12_best : Cond.code yX12_best cX12_best 4 (some .long) ∈ hf_all := hf_t7 (List.mem_of_getElem? (i := 185) rfl) rfl
theorem ki_X12_best : Cond.instanceMethod yX12_best ∈ hf_all := hf_t7 (List.mem_of_getElem? (i := 183) rfl) rfl
theorem kv_X12_best : Cond.selects yX12_best.cls yX12_best yX12_best ∈ hf_all := hf_t7 (List.mem_of_getElem? (i := 184) rfl) rfl
theorem kc_X12_next : Cond.code yX12_next cX12_next 8 (some .long) ∈ hf_all := hf_t7 (List.mem_of_getElem? (i := 222) rfl) rfl
theorem ki_X12_next : Cond.instanceMethod yX12_next ∈ hf_all := hf_t7 (List.mem_of_getElem? (i := 220) rfl) rfl
theorem kv_X12_next : Cond.selects yX12_next.cls yX12_next yX12_next ∈ hf_all := hf_t7 (List.mem_of_getElem? (i := 221) rfl) rfl
theorem kc_X12_edge : Cond.code yX12_edge cX12_edge 10 (some .int) ∈ hf_all := hf_t7 (List.mem_of_getElem? (i := 226) rfl) rfl
theorem ki_X12_edge : Cond.instanceMethod yX12_edge ∈ hf_all := hf_t7 (List.mem_of_getElem? (i := 224) rfl) rfl
theorem kv_X12_edge : Cond.selects yX12_edge.cls yX12_edge yX12_edge ∈ hf_all := hf_t7 (List.mem_of_getElem? (i := 225) rfl) rfl
theorem kc_X12_weakAt : Cond.code yX12_weakAt cX12_weakAt 5 (some .int) ∈ hf_all := hf_t7 (List.mem_of_getElem? (i := 238) rfl) rfl
theorem ki_X12_weakAt : Cond.instanceMethod yX12_weakAt ∈ hf_all := hf_t7 (List.mem_of_getElem? (i := 237) rfl) rfl
theorem kv_X12_weakAt : Cond.selects yX12_weakAt.cls yX12_weakAt yX12_weakAt ∈ hf_all := hf_t0 (List.mem_of_getElem? (i := 83) rfl) rfl
theorem kc_X12_weakBest : Cond.code yX12_weakBest cX12_weakBest 12 (some .int) ∈ hf_all := hf_t7 (List.mem_of_getElem? (i := 234) rfl) rfl
theorem ki_X12_weakBest : Cond.instanceMethod yX12_weakBest ∈ hf_all := hf_t7 (List.mem_of_getElem? (i := 233) rfl) rfl
theorem kv_X12_weakBest : Cond.selects yX12_weakBest.cls yX12_weakBest yX12_weakBest ∈ hf_all := hf_t0 (List.mem_of_getElem? (i := 82) rfl) rfl
theorem kc_X12_weak : Cond.code yX12_weak cX12_weak 7 (some .int) ∈ hf_all := hf_t7 (List.mem_of_getElem? (i := 230) rfl) rfl
theorem ki_X12_weak : Cond.instanceMethod yX12_weak ∈ hf_all := hf_t7 (List.mem_of_getElem? (i := 228) rfl) rfl
theorem kv_X12_weak : Cond.selects yX12_weak.cls yX12_weak yX12_weak ∈ hf_all := hf_t7 (List.mem_of_getElem? (i := 229) rfl) rfl
theorem kc_X12_rounds : Cond.code yX12_rounds cX12_rounds 8 (some .int) ∈ hf_all := hf_t8 (List.mem_of_getElem? (i := 3) rfl) rfl
theorem ki_X12_rounds : Cond.instanceMethod yX12_rounds ∈ hf_all := hf_t8 (List.mem_of_getElem? (i := 1) rfl) rfl
theorem kv_X12_rounds : Cond.selects yX12_rounds.cls yX12_rounds yX12_rounds ∈ hf_all := hf_t8 (List.mem_of_getElem? (i := 2) rfl) rfl
theorem kc_X12_digitOf : Cond.code yX12_digitOf cX12_digitOf 6 (some .int) ∈ hf_all := hf_t8 (List.mem_of_getElem? (i := 19) rfl) rfl
theorem ki_X12_digitOf : Cond.instanceMethod yX12_digitOf ∈ hf_all := hf_t8 (List.mem_of_getElem? (i := 18) rfl) rfl
theorem kv_X12_digitOf : Cond.selects yX12_digitOf.cls yX12_digitOf yX12_digitOf ∈ hf_all := hf_t0 (List.mem_of_getElem? (i := 86) rfl) rfl
theorem kc_X12_moreLies : Cond.code yX12_moreLies cX12_moreLies 8 (some .int) ∈ hf_all := hf_t8 (List.mem_of_getElem? (i := 23) rfl) rfl
theorem ki_X12_moreLies : Cond.instanceMethod yX12_moreLies ∈ hf_all := hf_t8 (List.mem_of_getElem? (i := 22) rfl) rfl
theorem kv_X12_moreLies : Cond.selects yX12_moreLies.cls yX12_moreLies yX12_moreLies ∈ hf_all := hf_t0 (List.mem_of_getElem? (i := 87) rfl) rfl
theorem kc_X12_canBe : Cond.code yX12_canBe cX12_canBe 6 (some .int) ∈ hf_all := hf_t8 (List.mem_of_getElem? (i := 15) rfl) rfl
theorem ki_X12_canBe : Cond.instanceMethod yX12_canBe ∈ hf_all := hf_t8 (List.mem_of_getElem? (i := 14) rfl) rfl
theorem kv_X12_canBe : Cond.selects yX12_canBe.cls yX12_canBe yX12_canBe ∈ hf_all := hf_t0 (List.mem_of_getElem? (i := 85) rfl) rfl
theorem kc_X12_sureFrom : Cond.code yX12_sureFrom cX12_sureFrom 9 (some .int) ∈ hf_all := hf_t8 (List.mem_of_getElem? (i := 11) rfl) rfl
theorem ki_X12_sureFrom : Cond.instanceMethod yX12_sureFrom ∈ hf_all := hf_t8 (List.mem_of_getElem? (i := 10) rfl) rfl
theorem kv_X12_sureFrom : Cond.selects yX12_sureFrom.cls yX12_sureFrom yX12_sureFrom ∈ hf_all := hf_t0 (List.mem_of_getElem? (i := 84) rfl) rfl
theorem kc_X12_lies : Cond.code yX12_lies cX12_lies 6 (some .int) ∈ hf_all := hf_t8 (List.mem_of_getElem? (i := 7) rfl) rfl
theorem ki_X12_lies : Cond.instanceMethod yX12_lies ∈ hf_all := hf_t8 (List.mem_of_getElem? (i := 5) rfl) rfl
theorem kv_X12_lies : Cond.selects yX12_lies.cls yX12_lies yX12_lies ∈ hf_all := hf_t8 (List.mem_of_getElem? (i := 6) rfl) rfl
theorem kc_X12_note : Cond.code yX12_note cX12_note 5 (some .int) ∈ hf_all := hf_t8 (List.mem_of_getElem? (i := 27) rfl) rfl
theorem ki_X12_note : Cond.instanceMethod yX12_note ∈ hf_all := hf_t8 (List.mem_of_getElem? (i := 25) rfl) rfl
theorem kv_X12_note : Cond.selects yX12_note.cls yX12_note yX12_note ∈ hf_all := hf_t8 (List.mem_of_getElem? (i := 26) rfl) rfl
theorem kc_X12_strike : Cond.code yX12_strike cX12_strike 2 (some .int) ∈ hf_all := hf_t8 (List.mem_of_getElem? (i := 35) rfl) rfl
theorem ki_X12_strike : Cond.instanceMethod yX12_strike ∈ hf_all := hf_t8 (List.mem_of_getElem? (i := 33) rfl) rfl
theorem kv_X12_strike : Cond.selects yX12_strike.cls yX12_strike yX12_strike ∈ hf_all := hf_t8 (List.mem_of_getElem? (i := 34) rfl) rfl
theorem kc_X12_layCounts : Cond.code yX12_layCounts cX12_layCounts 2 none ∈ hf_all := hf_t8 (List.mem_of_getElem? (i := 43) rfl) rfl
theorem ki_X12_layCounts : Cond.instanceMethod yX12_layCounts ∈ hf_all := hf_t8 (List.mem_of_getElem? (i := 42) rfl) rfl
theorem kv_X12_layCounts : Cond.selects yX12_layCounts.cls yX12_layCounts yX12_layCounts ∈ hf_all := hf_t0 (List.mem_of_getElem? (i := 89) rfl) rfl
theorem kc_X12_isAgainst : Cond.code yX12_isAgainst cX12_isAgainst 3 (some .boolean) ∈ hf_all := hf_t8 (List.mem_of_getElem? (i := 51) rfl) rfl
theorem ki_X12_isAgainst : Cond.instanceMethod yX12_isAgainst ∈ hf_all := hf_t8 (List.mem_of_getElem? (i := 50) rfl) rfl
theorem kv_X12_isAgainst : Cond.selects yX12_isAgainst.cls yX12_isAgainst yX12_isAgainst ∈ hf_all := hf_t0 (List.mem_of_getElem? (i := 91) rfl) rfl
theorem kc_X12_doubtOf : Cond.code yX12_doubtOf cX12_doubtOf 4 (some .int) ∈ hf_all := hf_t8 (List.mem_of_getElem? (i := 47) rfl) rfl
theorem ki_X12_doubtOf : Cond.instanceMethod yX12_doubtOf ∈ hf_all := hf_t8 (List.mem_of_getElem? (i := 46) rfl) rfl
theorem kv_X12_doubtOf : Cond.selects yX12_doubtOf.cls yX12_doubtOf yX12_doubtOf ∈ hf_all := hf_t0 (List.mem_of_getElem? (i := 90) rfl) rfl
theorem kc_X12_fitting : Cond.code yX12_fitting cX12_fitting 4 (some .int) ∈ hf_all := hf_t8 (List.mem_of_getElem? (i := 39) rfl) rfl
theorem ki_X12_fitting : Cond.instanceMethod yX12_fitting ∈ hf_all := hf_t8 (List.mem_of_getElem? (i := 37) rfl) rfl
theorem kv_X12_fitting : Cond.selects yX12_fitting.cls yX12_fitting yX12_fitting ∈ hf_all := hf_t8 (List.mem_of_getElem? (i := 38) rfl) rfl
theorem kc_X12_doubt : Cond.code yX12_doubt cX12_doubt 2 (some .int) ∈ hf_all := hf_t8 (List.mem_of_getElem? (i := 55) rfl) rfl
theorem ki_X12_doubt : Cond.instanceMethod yX12_doubt ∈ hf_all := hf_t8 (List.mem_of_getElem? (i := 53) rfl) rfl
theorem kv_X12_doubt : Cond.selects yX12_doubt.cls yX12_doubt yX12_doubt ∈ hf_all := hf_t8 (List.mem_of_getElem? (i := 54) rfl) rfl
theorem kc_X12_leastDoubted : Cond.code yX12_leastDoubted cX12_leastDoubted 3 (some .int) ∈ hf_all := hf_t8 (List.mem_of_getElem? (i := 63) rfl) rfl
theorem ki_X12_leastDoubted : Cond.instanceMethod yX12_leastDoubted ∈ hf_all := hf_t8 (List.mem_of_getElem? (i := 62) rfl) rfl
theorem kv_X12_leastDoubted : Cond.selects yX12_leastDoubted.cls yX12_leastDoubted yX12_leastDoubted ∈ hf_all := hf_t0 (List.mem_of_getElem? (i := 92) rfl) rfl
theorem kc_X12_least : Cond.code yX12_least cX12_least 3 (some .int) ∈ hf_all := hf_t8 (List.mem_of_getElem? (i := 59) rfl) rfl
theorem ki_X12_least : Cond.instanceMethod yX12_least ∈ hf_all := hf_t8 (List.mem_of_getElem? (i := 57) rfl) rfl
theorem kv_X12_least : Cond.selects yX12_least.cls yX12_least yX12_least ∈ hf_all := hf_t8 (List.mem_of_getElem? (i := 58) rfl) rfl
theorem kc_X12_doubted : Cond.code yX12_doubted cX12_doubted 5 (some .int) ∈ hf_all := hf_t8 (List.mem_of_getElem? (i := 67) rfl) rfl
theorem ki_X12_doubted : Cond.instanceMethod yX12_doubted ∈ hf_all := hf_t8 (List.mem_of_getElem? (i := 65) rfl) rfl
theorem kv_X12_doubted : Cond.selects yX12_doubted.cls yX12_doubted yX12_doubted ∈ hf_all := hf_t8 (List.mem_of_getElem? (i := 66) rfl) rfl
theorem kc_X12_parts : Cond.code yX12_parts cX12_parts 8 (some .int) ∈ hf_all := hf_t8 (List.mem_of_getElem? (i := 71) rfl) rfl
theorem ki_X12_parts : Cond.instanceMethod yX12_parts ∈ hf_all := hf_t8 (List.mem_of_getElem? (i := 69) rfl) rfl
theorem kv_X12_parts : Cond.selects yX12_parts.cls yX12_parts yX12_parts ∈ hf_all := hf_t8 (List.mem_of_getElem? (i := 70) rfl) rfl
theorem kc_X12_begin : Cond.code yX12_begin cX12_begin 6 (some .boolean) ∈ hf_all := hf_t8 (List.mem_of_getElem? (i := 75) rfl) rfl
theorem ki_X12_begin : Cond.instanceMethod yX12_begin ∈ hf_all := hf_t8 (List.mem_of_getElem? (i := 73) rfl) rfl
theorem kv_X12_begin : Cond.selects yX12_begin.cls yX12_begin yX12_begin ∈ hf_all := hf_t8 (List.mem_of_getElem? (i := 74) rfl) rfl
theorem kc_X12_leftNow : Cond.code yX12_leftNow cX12_leftNow 4 (some .int) ∈ hf_all := hf_t8 (List.mem_of_getElem? (i := 91) rfl) rfl
theorem ki_X12_leftNow : Cond.instanceMethod yX12_leftNow ∈ hf_all := hf_t8 (List.mem_of_getElem? (i := 90) rfl) rfl
theorem kv_X12_leftNow : Cond.selects yX12_leftNow.cls yX12_leftNow yX12_leftNow ∈ hf_all := hf_t0 (List.mem_of_getElem? (i := 94) rfl) rfl
theorem kc_X12_drop : Cond.code yX12_drop cX12_drop 4 (some .int) ∈ hf_all := hf_t8 (List.mem_of_getElem? (i := 87) rfl) rfl
theorem ki_X12_drop : Cond.instanceMethod yX12_drop ∈ hf_all := hf_t8 (List.mem_of_getElem? (i := 85) rfl) rfl
theorem kv_X12_drop : Cond.selects yX12_drop.cls yX12_drop yX12_drop ∈ hf_all := hf_t8 (List.mem_of_getElem? (i := 86) rfl) rfl
theorem kc_X12_back : Cond.code yX12_back cX12_back 1 (some .int) ∈ hf_all := hf_t8 (List.mem_of_getElem? (i := 95) rfl) rfl
theorem ki_X12_back : Cond.instanceMethod yX12_back ∈ hf_all := hf_t8 (List.mem_of_getElem? (i := 93) rfl) rfl
theorem kv_X12_back : Cond.selects yX12_back.cls yX12_back yX12_back ∈ hf_all := hf_t8 (List.mem_of_getElem? (i := 94) rfl) rfl
theorem kc_X12_bound : Cond.code yX12_bound cX12_bound 6 (some .int) ∈ hf_all := hf_t8 (List.mem_of_getElem? (i := 103) rfl) rfl
theorem ki_X12_bound : Cond.instanceMethod yX12_bound ∈ hf_all := hf_t8 (List.mem_of_getElem? (i := 102) rfl) rfl
theorem kv_X12_bound : Cond.selects yX12_bound.cls yX12_bound yX12_bound ∈ hf_all := hf_t0 (List.mem_of_getElem? (i := 95) rfl) rfl
theorem kc_X12_now : Cond.code yX12_now cX12_now 4 (some .int) ∈ hf_all := hf_t8 (List.mem_of_getElem? (i := 99) rfl) rfl
theorem ki_X12_now : Cond.instanceMethod yX12_now ∈ hf_all := hf_t8 (List.mem_of_getElem? (i := 97) rfl) rfl
theorem kv_X12_now : Cond.selects yX12_now.cls yX12_now yX12_now ∈ hf_all := hf_t8 (List.mem_of_getElem? (i := 98) rfl) rfl
theorem kc_X12_count : Cond.code yX12_count cX12_count 2 (some .int) ∈ hf_all := hf_t8 (List.mem_of_getElem? (i := 107) rfl) rfl
theorem ki_X12_count : Cond.instanceMethod yX12_count ∈ hf_all := hf_t8 (List.mem_of_getElem? (i := 105) rfl) rfl
theorem kv_X12_count : Cond.selects yX12_count.cls yX12_count yX12_count ∈ hf_all := hf_t8 (List.mem_of_getElem? (i := 106) rfl) rfl
theorem kc_J6_bitCount_0f7a4 : Cond.code yJ6_bitCount_0f7a4 cJ6_bitCount_0f7a4 1 (some .int) ∈ hf_all := hf_t5 (List.mem_of_getElem? (i := 47) rfl) rfl
theorem ks_J6_bitCount_0f7a4 : Cond.static yJ6_bitCount_0f7a4 ∈ hf_all := hf_t5 (List.mem_of_getElem? (i := 46) rfl) rfl
theorem kc_J9_abs_0f7a4 : Cond.code yJ9_abs_0f7a4 cJ9_abs_0f7a4 1 (some .int) ∈ hf_all := hf_t5 (List.mem_of_getElem? (i := 126) rfl) rfl
theorem ks_J9_abs_0f7a4 : Cond.static yJ9_abs_0f7a4 ∈ hf_all := hf_t5 (List.mem_of_getElem? (i := 125) rfl) rfl
theorem kc_J9_abs_067f4 : Cond.code yJ9_abs_067f4 cJ9_abs_067f4 2 (some .long) ∈ hf_all := hf_t4 (List.mem_of_getElem? (i := 88) rfl) rfl
theorem ks_J9_abs_067f4 : Cond.static yJ9_abs_067f4 ∈ hf_all := hf_t4 (List.mem_of_getElem? (i := 87) rfl) rfl
theorem kc_J9_max_7cf53 : Cond.code yJ9_max_7cf53 cJ9_max_7cf53 2 (some .int) ∈ hf_all := hf_t4 (List.mem_of_getElem? (i := 120) rfl) rfl
theorem ks_J9_max_7cf53 : Cond.static yJ9_max_7cf53 ∈ hf_all := hf_t4 (List.mem_of_getElem? (i := 119) rfl) rfl
theorem kc_J9_max_f86c9 : Cond.code yJ9_max_f86c9 cJ9_max_f86c9 4 (some .long) ∈ hf_all := hf_t4 (List.mem_of_getElem? (i := 143) rfl) rfl
theorem ks_J9_max_f86c9 : Cond.static yJ9_max_f86c9 ∈ hf_all := hf_t4 (List.mem_of_getElem? (i := 142) rfl) rfl
theorem kc_J9_min_7cf53 : Cond.code yJ9_min_7cf53 cJ9_min_7cf53 2 (some .int) ∈ hf_all := hf_t3 (List.mem_of_getElem? (i := 92) rfl) rfl
theorem ks_J9_min_7cf53 : Cond.static yJ9_min_7cf53 ∈ hf_all := hf_t3 (List.mem_of_getElem? (i := 91) rfl) rfl
theorem kc_J0_length_8abf5 : Cond.code yJ0_length_8abf5 cJ0_length_8abf5 1 (some .int) ∈ hf_all := hf_t3 (List.mem_of_getElem? (i := 143) rfl) rfl
theorem ki_J0_length_8abf5 : Cond.instanceMethod yJ0_length_8abf5 ∈ hf_all := hf_t3 (List.mem_of_getElem? (i := 141) rfl) rfl
theorem kv_J0_length_8abf5 : Cond.selects yJ0_length_8abf5.cls yJ0_length_8abf5 yJ0_length_8abf5 ∈ hf_all := hf_t3 (List.mem_of_getElem? (i := 142) rfl) rfl
theorem kc_J0_charAt_5068e : Cond.code yJ0_charAt_5068e cJ0_charAt_5068e 2 (some .char) ∈ hf_all := hf_t3 (List.mem_of_getElem? (i := 153) rfl) rfl
theorem ki_J0_charAt_5068e : Cond.instanceMethod yJ0_charAt_5068e ∈ hf_all := hf_t3 (List.mem_of_getElem? (i := 151) rfl) rfl
theorem kv_J0_charAt_5068e : Cond.selects yJ0_charAt_5068e.cls yJ0_charAt_5068e yJ0_charAt_5068e ∈ hf_all := hf_t3 (List.mem_of_getElem? (i := 152) rfl) rfl
theorem kc_J0_coder_7d493 : Cond.code yJ0_coder_7d493 cJ0_coder_7d493 1 (some .byte) ∈ hf_all := hf_t3 (List.mem_of_getElem? (i := 147) rfl) rfl
theorem ki_J0_coder_7d493 : Cond.instanceMethod yJ0_coder_7d493 ∈ hf_all := hf_t3 (List.mem_of_getElem? (i := 145) rfl) rfl
theorem kv_J0_coder_7d493 : Cond.selects yJ0_coder_7d493.cls yJ0_coder_7d493 yJ0_coder_7d493 ∈ hf_all := hf_t3 (List.mem_of_getElem? (i := 146) rfl) rfl
theorem kc_J0_isLatin1_aae02 : Cond.code yJ0_isLatin1_aae02 cJ0_isLatin1_aae02 1 (some .boolean) ∈ hf_all := hf_t3 (List.mem_of_getElem? (i := 157) rfl) rfl
theorem ki_J0_isLatin1_aae02 : Cond.instanceMethod yJ0_isLatin1_aae02 ∈ hf_all := hf_t3 (List.mem_of_getElem? (i := 155) rfl) rfl
theorem kv_J0_isLatin1_aae02 : Cond.selects yJ0_isLatin1_aae02.cls yJ0_isLatin1_aae02 yJ0_isLatin1_aae02 ∈ hf_all := hf_t3 (List.mem_of_getElem? (i := 156) rfl) rfl
theorem kc_J0_checkIndex_df160 : Cond.code yJ0_checkIndex_df160 cJ0_checkIndex_df160 2 none ∈ hf_all := hf_t3 (List.mem_of_getElem? (i := 163) rfl) rfl
theorem ks_J0_checkIndex_df160 : Cond.static yJ0_checkIndex_df160 ∈ hf_all := hf_t3 (List.mem_of_getElem? (i := 162) rfl) rfl
theorem kc_J1_charAt_3b067 : Cond.code yJ1_charAt_3b067 cJ1_charAt_3b067 2 (some .char) ∈ hf_all := hf_t3 (List.mem_of_getElem? (i := 160) rfl) rfl
theorem ks_J1_charAt_3b067 : Cond.static yJ1_charAt_3b067 ∈ hf_all := hf_t3 (List.mem_of_getElem? (i := 159) rfl) rfl
theorem kc_J2_getChar_3b067 : Cond.code yJ2_getChar_3b067 cJ2_getChar_3b067 2 (some .char) ∈ hf_all := hf_t3 (List.mem_of_getElem? (i := 181) rfl) rfl
theorem ks_J2_getChar_3b067 : Cond.static yJ2_getChar_3b067 ∈ hf_all := hf_t3 (List.mem_of_getElem? (i := 180) rfl) rfl
theorem kc_J2_length_9d52b : Cond.code yJ2_length_9d52b cJ2_length_9d52b 1 (some .int) ∈ hf_all := hf_t3 (List.mem_of_getElem? (i := 177) rfl) rfl
theorem ks_J2_length_9d52b : Cond.static yJ2_length_9d52b ∈ hf_all := hf_t3 (List.mem_of_getElem? (i := 176) rfl) rfl
theorem kc_J2_charAt_3b067 : Cond.code yJ2_charAt_3b067 cJ2_charAt_3b067 2 (some .char) ∈ hf_all := hf_t3 (List.mem_of_getElem? (i := 171) rfl) rfl
theorem ks_J2_charAt_3b067 : Cond.static yJ2_charAt_3b067 ∈ hf_all := hf_t3 (List.mem_of_getElem? (i := 170) rfl) rfl
theorem kc_J2_checkIndex_2214a : Cond.code yJ2_checkIndex_2214a cJ2_checkIndex_2214a 2 none ∈ hf_all := hf_t3 (List.mem_of_getElem? (i := 174) rfl) rfl
theorem ks_J2_checkIndex_2214a : Cond.static yJ2_checkIndex_2214a ∈ hf_all := hf_t3 (List.mem_of_getElem? (i := 173) rfl) rfl
theorem kc_J7_fill_53178 : Cond.code yJ7_fill_53178 cJ7_fill_53178 4 none ∈ hf_all := hf_t1 (List.mem_of_getElem? (i := 43) rfl) rfl
theorem ks_J7_fill_53178 : Cond.static yJ7_fill_53178 ∈ hf_all := hf_t1 (List.mem_of_getElem? (i := 42) rfl) rfl
theorem kc_J7_copyOf_9075b : Cond.code yJ7_copyOf_9075b cJ7_copyOf_9075b 3 (some (.array .byte)) ∈ hf_all := hf_t5 (List.mem_of_getElem? (i := 29) rfl) rfl
theorem ks_J7_copyOf_9075b : Cond.static yJ7_copyOf_9075b ∈ hf_all := hf_t5 (List.mem_of_getElem? (i := 28) rfl) rfl
theorem kc_J3_checkIndex_8e157 : Cond.code yJ3_checkIndex_8e157 cJ3_checkIndex_8e157 3 (some .int) ∈ hf_all := hf_t3 (List.mem_of_getElem? (i := 168) rfl) rfl
theorem ks_J3_checkIndex_8e157 : Cond.static yJ3_checkIndex_8e157 ∈ hf_all := hf_t3 (List.mem_of_getElem? (i := 167) rfl) rfl
theorem fs_J0_9 : Cond.fieldLink RJ0 9 "java/lang/String" "value" "[B" ∈ hf_all := hf_t8 (List.mem_of_getElem? (i := 126) rfl) rfl
theorem fs_J0_15 : Cond.fieldLink RJ0 15 "java/lang/String" "coder" "B" ∈ hf_all := hf_t8 (List.mem_of_getElem? (i := 127) rfl) rfl
theorem fs_J0_38 : Cond.fieldLink RJ0 38 "java/lang/String" "COMPACT_STRINGS" "Z" ∈ hf_all := hf_t3 (List.mem_of_getElem? (i := 148) rfl) rfl
theorem fs_J0_1053 : Cond.fieldLink RJ0 1053 "jdk/internal/util/Preconditions" "SIOOBE_FORMATTER" "Ljava/util/function/BiFunction;" ∈ hf_all := hf_t3 (List.mem_of_getElem? (i := 164) rfl) rfl
theorem ac_link : Cond.methodLink RJ7 150 arraycopyName ∈ hf_all := hf_t5 (List.mem_of_getElem? (i := 38) rfl) rfl
theorem ac_stat : Cond.static arraycopyName ∈ hf_all := hf_t5 (List.mem_of_getElem? (i := 39) rfl) rfl
theorem ac_nat : Cond.native arraycopyName ∈ hf_all := hf_t5 (List.mem_of_getElem? (i := 40) rfl) rfl
theorem ac_ini : Cond.initialized "java/lang/System" ∈ hf_all := hf_t1 (List.mem_of_getElem? (i := 25) rfl) rfl
