theorem ini_X0 : Cond.initialized RX0 ∈ WS := tb1 (List.mem_of_getElem? (i := 4) (by decide +kernel)) rfl
theorem lay_X0 : ∀ k, k < 1 → tables_1[([121] : List Nat).getD k 0]? = some (u_lay RX0 TX0 k) ∧ goodWord (u_lay RX0 TX0 k) = true := by decide +kernel
theorem cf_X0 : CF 0 RX0 TX0 1 := ⟨rfl, rfl, by decide, fun w hw => by
      obtain ⟨k, hk, rfl⟩ := List.mem_map.mp hw
      have h := lay_X0 k (List.mem_range.mp hk)
      exact ws_t (List.mem_of_getElem? h.1) h.2, tyX0_ok, nmX0⟩
theorem ini_X1 : Cond.initialized RX1 ∈ WS := tb1 (List.mem_of_getElem? (i := 10) (by decide +kernel)) rfl
theorem lay_X1 : ∀ k, k < 2 → tables_1[([307, 309] : List Nat).getD k 0]? = some (u_lay RX1 TX1 k) ∧ goodWord (u_lay RX1 TX1 k) = true := by decide +kernel
theorem cf_X1 : CF 1 RX1 TX1 2 := ⟨rfl, rfl, by decide, fun w hw => by
      obtain ⟨k, hk, rfl⟩ := List.mem_map.mp hw
      have h := lay_X1 k (List.mem_range.mp hk)
      exact ws_t (List.mem_of_getElem? h.1) h.2, tyX1_ok, nmX1⟩
theorem ini_X2 : Cond.initialized RX2 ∈ WS := tb1 (List.mem_of_getElem? (i := 7) (by decide +kernel)) rfl
theorem lay_X2 : ∀ k, k < 7 → tables_1[([237, 239, 241, 243, 245, 247, 249] : List Nat).getD k 0]? = some (u_lay RX2 TX2 k) ∧ goodWord (u_lay RX2 TX2 k) = true := by decide +kernel
theorem cf_X2 : CF 2 RX2 TX2 7 := ⟨rfl, rfl, by decide, fun w hw => by
      obtain ⟨k, hk, rfl⟩ := List.mem_map.mp hw
      have h := lay_X2 k (List.mem_range.mp hk)
      exact ws_t (List.mem_of_getElem? h.1) h.2, tyX2_ok, nmX2⟩
theorem ini_X3 : Cond.initialized RX3 ∈ WS := tb1 (List.mem_of_getElem? (i := 12) (by decide +kernel)) rfl
theorem lay_X3 : ∀ k, k < 3 → tables_1[([388, 390, 392] : List Nat).getD k 0]? = some (u_lay RX3 TX3 k) ∧ goodWord (u_lay RX3 TX3 k) = true := by decide +kernel
theorem cf_X3 : CF 3 RX3 TX3 3 := ⟨rfl, rfl, by decide, fun w hw => by
      obtain ⟨k, hk, rfl⟩ := List.mem_map.mp hw
      have h := lay_X3 k (List.mem_range.mp hk)
      exact ws_t (List.mem_of_getElem? h.1) h.2, tyX3_ok, nmX3⟩
theorem ini_X4 : Cond.initialized RX4 ∈ WS := tb1 (List.mem_of_getElem? (i := 9) (by decide +kernel)) rfl
theorem lay_X4 : ∀ k, k < 11 → tables_1[([275, 277, 279, 281, 283, 285, 287, 289, 291, 293, 295] : List Nat).getD k 0]? = some (u_lay RX4 TX4 k) ∧ goodWord (u_lay RX4 TX4 k) = true := by decide +kernel
theorem cf_X4 : CF 4 RX4 TX4 11 := ⟨rfl, rfl, by decide, fun w hw => by
      obtain ⟨k, hk, rfl⟩ := List.mem_map.mp hw
      have h := lay_X4 k (List.mem_range.mp hk)
      exact ws_t (List.mem_of_getElem? h.1) h.2, tyX4_ok, nmX4⟩
theorem ini_X5 : Cond.initialized RX5 ∈ WS := tb1 (List.mem_of_getElem? (i := 5) (by decide +kernel)) rfl
theorem lay_X5 : ∀ k, k < 3 → tables_1[([137, 139, 141] : List Nat).getD k 0]? = some (u_lay RX5 TX5 k) ∧ goodWord (u_lay RX5 TX5 k) = true := by decide +kernel
theorem cf_X5 : CF 5 RX5 TX5 3 := ⟨rfl, rfl, by decide, fun w hw => by
      obtain ⟨k, hk, rfl⟩ := List.mem_map.mp hw
      have h := lay_X5 k (List.mem_range.mp hk)
      exact ws_t (List.mem_of_getElem? h.1) h.2, tyX5_ok, nmX5⟩
theorem ini_X6 : Cond.initialized RX6 ∈ WS := tb1 (List.mem_of_getElem? (i := 2) (by decide +kernel)) rfl
theorem lay_X6 : ∀ k, k < 11 → tables_1[([51, 53, 55, 57, 59, 61, 63, 65, 67, 69, 71] : List Nat).getD k 0]? = some (u_lay RX6 TX6 k) ∧ goodWord (u_lay RX6 TX6 k) = true := by decide +kernel
theorem cf_X6 : CF 6 RX6 TX6 11 := ⟨rfl, rfl, by decide, fun w hw => by
      obtain ⟨k, hk, rfl⟩ := List.mem_map.mp hw
      have h := lay_X6 k (List.mem_range.mp hk)
      exact ws_t (List.mem_of_getElem? h.1) h.2, tyX6_ok, nmX6⟩
theorem ini_X7 : Cond.initialized RX7 ∈ WS := tb1 (List.mem_of_getElem? (i := 8) (by decide +kernel)) rfl
theorem lay_X7 : ∀ k, k < 4 → tables_1[([221, 223, 225, 227] : List Nat).getD k 0]? = some (u_lay RX7 TX7 k) ∧ goodWord (u_lay RX7 TX7 k) = true := by decide +kernel
theorem cf_X7 : CF 7 RX7 TX7 4 := ⟨rfl, rfl, by decide, fun w hw => by
      obtain ⟨k, hk, rfl⟩ := List.mem_map.mp hw
      have h := lay_X7 k (List.mem_range.mp hk)
      exact ws_t (List.mem_of_getElem? h.1) h.2, tyX7_ok, nmX7⟩
theorem ini_X8 : Cond.initialized RX8 ∈ WS := tb1 (List.mem_of_getElem? (i := 6) (by decide +kernel)) rfl
theorem lay_X8 : ∀ k, k < 15 → tables_1[([167, 169, 171, 173, 175, 177, 179, 181, 183, 185, 187, 189, 191, 193, 195] : List Nat).getD k 0]? = some (u_lay RX8 TX8 k) ∧ goodWord (u_lay RX8 TX8 k) = true := by decide +kernel
theorem cf_X8 : CF 8 RX8 TX8 15 := ⟨rfl, rfl, by decide, fun w hw => by
      obtain ⟨k, hk, rfl⟩ := List.mem_map.mp hw
      have h := lay_X8 k (List.mem_range.mp hk)
      exact ws_t (List.mem_of_getElem? h.1) h.2, tyX8_ok, nmX8⟩
theorem ini_X9 : Cond.initialized RX9 ∈ WS := tb1 (List.mem_of_getElem? (i := 11) (by decide +kernel)) rfl
theorem lay_X9 : ∀ k, k < 9 → tables_1[([355, 357, 359, 361, 363, 365, 367, 369, 371] : List Nat).getD k 0]? = some (u_lay RX9 TX9 k) ∧ goodWord (u_lay RX9 TX9 k) = true := by decide +kernel
theorem cf_X9 : CF 9 RX9 TX9 9 := ⟨rfl, rfl, by decide, fun w hw => by
      obtain ⟨k, hk, rfl⟩ := List.mem_map.mp hw
      have h := lay_X9 k (List.mem_range.mp hk)
      exact ws_t (List.mem_of_getElem? h.1) h.2, tyX9_ok, nmX9⟩
theorem ini_X10 : Cond.initialized RX10 ∈ WS := tb1 (List.mem_of_getElem? (i := 3) (by decide +kernel)) rfl
theorem lay_X10 : ∀ k, k < 6 → tables_1[([101, 103, 105, 107, 109, 111] : List Nat).getD k 0]? = some (u_lay RX10 TX10 k) ∧ goodWord (u_lay RX10 TX10 k) = true := by decide +kernel
theorem cf_X10 : CF 10 RX10 TX10 6 := ⟨rfl, rfl, by decide, fun w hw => by
      obtain ⟨k, hk, rfl⟩ := List.mem_map.mp hw
      have h := lay_X10 k (List.mem_range.mp hk)
      exact ws_t (List.mem_of_getElem? h.1) h.2, tyX10_ok, nmX10⟩
theorem ini_X11 : Cond.initialized RX11 ∈ WS := tb1 (List.mem_of_getElem? (i := 1) (by decide +kernel)) rfl
theorem lay_X11 : ∀ k, k < 19 → tables_1[([414, 416, 418, 420, 422, 424, 426, 428, 430, 432, 434, 436, 438, 440, 442, 444, 446, 448, 450] : List Nat).getD k 0]? = some (u_lay RX11 TX11 k) ∧ goodWord (u_lay RX11 TX11 k) = true := by decide +kernel
theorem cf_X11 : CF 11 RX11 TX11 19 := ⟨rfl, rfl, by decide, fun w hw => by
      obtain ⟨k, hk, rfl⟩ := List.mem_map.mp hw
      have h := lay_X11 k (List.mem_range.mp hk)
      exact ws_t (List.mem_of_getElem? h.1) h.2, tyX11_ok, nmX11⟩
theorem ini_X12 : Cond.initialized RX12 ∈ WS := tb1 (List.mem_of_getElem? (i := 13) (by decide +kernel)) rfl
theorem lay_X12 : ∀ k, k < 51 → tables_1[([1308, 1310, 1312, 1314, 1316, 1318, 1320, 1322, 1324, 1326, 1328, 1330, 1332, 1334, 1336, 1338, 1340, 1342, 1344, 1346, 1348, 1350, 1352, 1354, 1356, 1358, 1360, 1362, 1364, 1366, 1368, 1370, 1372, 1374, 1376, 1378, 1380, 1382, 1384, 1386, 1388, 1390, 1392, 1394, 1396, 1398, 1400, 1402, 1404, 1406, 1408] : List Nat).getD k 0]? = some (u_lay RX12 TX12 k) ∧ goodWord (u_lay RX12 TX12 k) = true := by decide +kernel
theorem cf_X12 : CF 12 RX12 TX12 51 := ⟨rfl, rfl, by decide, fun w hw => by
      obtain ⟨k, hk, rfl⟩ := List.mem_map.mp hw
      have h := lay_X12 k (List.mem_range.mp hk)
      exact ws_t (List.mem_of_getElem? h.1) h.2, tyX12_ok, nmX12⟩
theorem mi_X11_init : MI yX11_init cX11_init 2 none 0 := ⟨ini_X11, tb1 (List.mem_of_getElem? (i := 28) (by decide +kernel)) rfl, ⟨by decide +kernel, by decide +kernel, by decide +kernel⟩, by decide +kernel⟩
theorem mn_X11_init : Cond.instanceMethod yX11_init ∈ WS := tb1 (List.mem_of_getElem? (i := 27) (by decide +kernel)) rfl
theorem mi_X11_feed : MI yX11_feed cX11_feed 6 (some .int) 5 := ⟨ini_X11, tb2 (List.mem_of_getElem? (i := 216) (by decide +kernel)) rfl, ⟨by decide +kernel, by decide +kernel, by decide +kernel⟩, by decide +kernel⟩
theorem mv_X11_feed : MV yX11_feed 11 := ⟨tb2 (List.mem_of_getElem? (i := 214) (by decide +kernel)) rfl, tb2 (List.mem_of_getElem? (i := 215) (by decide +kernel)) rfl, by decide, TX11, 19, rfl⟩
theorem mi_X11_text : MI yX11_text cX11_text 4 (some .int) 1 := ⟨ini_X11, tb2 (List.mem_of_getElem? (i := 224) (by decide +kernel)) rfl, ⟨by decide +kernel, by decide +kernel, by decide +kernel⟩, by decide +kernel⟩
theorem mv_X11_text : MV yX11_text 11 := ⟨tb2 (List.mem_of_getElem? (i := 222) (by decide +kernel)) rfl, tb2 (List.mem_of_getElem? (i := 223) (by decide +kernel)) rfl, by decide, TX11, 19, rfl⟩
theorem mi_X11_fault : MI yX11_fault cX11_fault 1 (some .int) 0 := ⟨ini_X11, tb3 (List.mem_of_getElem? (i := 182) (by decide +kernel)) rfl, ⟨by decide +kernel, by decide +kernel, by decide +kernel⟩, by decide +kernel⟩
theorem mv_X11_fault : MV yX11_fault 11 := ⟨tb3 (List.mem_of_getElem? (i := 180) (by decide +kernel)) rfl, tb3 (List.mem_of_getElem? (i := 181) (by decide +kernel)) rfl, by decide, TX11, 19, rfl⟩
theorem mi_X11_where : MI yX11_where cX11_where 1 (some .int) 0 := ⟨ini_X11, tb3 (List.mem_of_getElem? (i := 186) (by decide +kernel)) rfl, ⟨by decide +kernel, by decide +kernel, by decide +kernel⟩, by decide +kernel⟩
theorem mv_X11_where : MV yX11_where 11 := ⟨tb3 (List.mem_of_getElem? (i := 184) (by decide +kernel)) rfl, tb3 (List.mem_of_getElem? (i := 185) (by decide +kernel)) rfl, by decide, TX11, 19, rfl⟩
theorem mi_X11_about : MI yX11_about cX11_about 2 (some .int) 1 := ⟨ini_X11, tb3 (List.mem_of_getElem? (i := 190) (by decide +kernel)) rfl, ⟨by decide +kernel, by decide +kernel, by decide +kernel⟩, by decide +kernel⟩
theorem mv_X11_about : MV yX11_about 11 := ⟨tb3 (List.mem_of_getElem? (i := 188) (by decide +kernel)) rfl, tb3 (List.mem_of_getElem? (i := 189) (by decide +kernel)) rfl, by decide, TX11, 19, rfl⟩
theorem mi_X11_service : MI yX11_service cX11_service 3 (some .int) 2 := ⟨ini_X11, tb4 (List.mem_of_getElem? (i := 11) (by decide +kernel)) rfl, ⟨by decide +kernel, by decide +kernel, by decide +kernel⟩, by decide +kernel⟩
theorem mv_X11_service : MV yX11_service 11 := ⟨tb4 (List.mem_of_getElem? (i := 9) (by decide +kernel)) rfl, tb4 (List.mem_of_getElem? (i := 10) (by decide +kernel)) rfl, by decide, TX11, 19, rfl⟩
theorem mi_X11_rule : MI yX11_rule cX11_rule 2 (some .int) 1 := ⟨ini_X11, tb4 (List.mem_of_getElem? (i := 24) (by decide +kernel)) rfl, ⟨by decide +kernel, by decide +kernel, by decide +kernel⟩, by decide +kernel⟩
theorem mv_X11_rule : MV yX11_rule 11 := ⟨tb4 (List.mem_of_getElem? (i := 22) (by decide +kernel)) rfl, tb4 (List.mem_of_getElem? (i := 23) (by decide +kernel)) rfl, by decide, TX11, 19, rfl⟩
theorem mi_X11_carried : MI yX11_carried cX11_carried 2 (some .int) 1 := ⟨ini_X11, tb4 (List.mem_of_getElem? (i := 28) (by decide +kernel)) rfl, ⟨by decide +kernel, by decide +kernel, by decide +kernel⟩, by decide +kernel⟩
theorem mv_X11_carried : MV yX11_carried 11 := ⟨tb4 (List.mem_of_getElem? (i := 26) (by decide +kernel)) rfl, tb4 (List.mem_of_getElem? (i := 27) (by decide +kernel)) rfl, by decide, TX11, 19, rfl⟩
theorem mi_X11_bought : MI yX11_bought cX11_bought 3 (some .int) 2 := ⟨ini_X11, tb4 (List.mem_of_getElem? (i := 33) (by decide +kernel)) rfl, ⟨by decide +kernel, by decide +kernel, by decide +kernel⟩, by decide +kernel⟩
theorem mv_X11_bought : MV yX11_bought 11 := ⟨tb4 (List.mem_of_getElem? (i := 31) (by decide +kernel)) rfl, tb4 (List.mem_of_getElem? (i := 32) (by decide +kernel)) rfl, by decide, TX11, 19, rfl⟩
theorem mi_X11_profit : MI yX11_profit cX11_profit 3 (some .int) 2 := ⟨ini_X11, tb4 (List.mem_of_getElem? (i := 44) (by decide +kernel)) rfl, ⟨by decide +kernel, by decide +kernel, by decide +kernel⟩, by decide +kernel⟩
theorem mv_X11_profit : MV yX11_profit 11 := ⟨tb4 (List.mem_of_getElem? (i := 42) (by decide +kernel)) rfl, tb4 (List.mem_of_getElem? (i := 43) (by decide +kernel)) rfl, by decide, TX11, 19, rfl⟩
theorem mi_X11_good : MI yX11_good cX11_good 3 (some .int) 2 := ⟨ini_X11, tb4 (List.mem_of_getElem? (i := 48) (by decide +kernel)) rfl, ⟨by decide +kernel, by decide +kernel, by decide +kernel⟩, by decide +kernel⟩
theorem mv_X11_good : MV yX11_good 11 := ⟨tb4 (List.mem_of_getElem? (i := 46) (by decide +kernel)) rfl, tb4 (List.mem_of_getElem? (i := 47) (by decide +kernel)) rfl, by decide, TX11, 19, rfl⟩
theorem mi_X11_most : MI yX11_most cX11_most 4 (some .int) 1 := ⟨ini_X11, tb4 (List.mem_of_getElem? (i := 52) (by decide +kernel)) rfl, ⟨by decide +kernel, by decide +kernel, by decide +kernel⟩, by decide +kernel⟩
theorem mv_X11_most : MV yX11_most 11 := ⟨tb4 (List.mem_of_getElem? (i := 50) (by decide +kernel)) rfl, tb4 (List.mem_of_getElem? (i := 51) (by decide +kernel)) rfl, by decide, TX11, 19, rfl⟩
theorem mi_X11_free : MI yX11_free cX11_free 2 (some .int) 1 := ⟨ini_X11, tb4 (List.mem_of_getElem? (i := 61) (by decide +kernel)) rfl, ⟨by decide +kernel, by decide +kernel, by decide +kernel⟩, by decide +kernel⟩
theorem mv_X11_free : MV yX11_free 11 := ⟨tb4 (List.mem_of_getElem? (i := 59) (by decide +kernel)) rfl, tb4 (List.mem_of_getElem? (i := 60) (by decide +kernel)) rfl, by decide, TX11, 19, rfl⟩
theorem mi_X11_best : MI yX11_best cX11_best 1 (some .int) 0 := ⟨ini_X11, tb4 (List.mem_of_getElem? (i := 69) (by decide +kernel)) rfl, ⟨by decide +kernel, by decide +kernel, by decide +kernel⟩, by decide +kernel⟩
theorem mv_X11_best : MV yX11_best 11 := ⟨tb4 (List.mem_of_getElem? (i := 67) (by decide +kernel)) rfl, tb4 (List.mem_of_getElem? (i := 68) (by decide +kernel)) rfl, by decide, TX11, 19, rfl⟩
theorem mi_X11_bestOf : MI yX11_bestOf cX11_bestOf 2 (some .int) 1 := ⟨ini_X11, tb4 (List.mem_of_getElem? (i := 140) (by decide +kernel)) rfl, ⟨by decide +kernel, by decide +kernel, by decide +kernel⟩, by decide +kernel⟩
theorem mv_X11_bestOf : MV yX11_bestOf 11 := ⟨tb4 (List.mem_of_getElem? (i := 138) (by decide +kernel)) rfl, tb4 (List.mem_of_getElem? (i := 139) (by decide +kernel)) rfl, by decide, TX11, 19, rfl⟩
theorem mi_X11_fair : MI yX11_fair cX11_fair 1 (some .int) 0 := ⟨ini_X11, tb4 (List.mem_of_getElem? (i := 148) (by decide +kernel)) rfl, ⟨by decide +kernel, by decide +kernel, by decide +kernel⟩, by decide +kernel⟩
theorem mv_X11_fair : MV yX11_fair 11 := ⟨tb4 (List.mem_of_getElem? (i := 146) (by decide +kernel)) rfl, tb4 (List.mem_of_getElem? (i := 147) (by decide +kernel)) rfl, by decide, TX11, 19, rfl⟩
theorem mi_X11_fairOf : MI yX11_fairOf cX11_fairOf 2 (some .int) 1 := ⟨ini_X11, tb4 (List.mem_of_getElem? (i := 156) (by decide +kernel)) rfl, ⟨by decide +kernel, by decide +kernel, by decide +kernel⟩, by decide +kernel⟩
theorem mv_X11_fairOf : MV yX11_fairOf 11 := ⟨tb4 (List.mem_of_getElem? (i := 154) (by decide +kernel)) rfl, tb4 (List.mem_of_getElem? (i := 155) (by decide +kernel)) rfl, by decide, TX11, 19, rfl⟩
theorem mi_X11_rows : MI yX11_rows cX11_rows 1 (some .int) 0 := ⟨ini_X11, tb4 (List.mem_of_getElem? (i := 160) (by decide +kernel)) rfl, ⟨by decide +kernel, by decide +kernel, by decide +kernel⟩, by decide +kernel⟩
theorem mv_X11_rows : MV yX11_rows 11 := ⟨tb4 (List.mem_of_getElem? (i := 158) (by decide +kernel)) rfl, tb4 (List.mem_of_getElem? (i := 159) (by decide +kernel)) rfl, by decide, TX11, 19, rfl⟩
theorem mi_X11_freely : MI yX11_freely cX11_freely 6 (some .int) 1 := ⟨ini_X11, tb4 (List.mem_of_getElem? (i := 176) (by decide +kernel)) rfl, ⟨by decide +kernel, by decide +kernel, by decide +kernel⟩, by decide +kernel⟩
theorem mv_X11_freely : MV yX11_freely 11 := ⟨tb4 (List.mem_of_getElem? (i := 174) (by decide +kernel)) rfl, tb4 (List.mem_of_getElem? (i := 175) (by decide +kernel)) rfl, by decide, TX11, 19, rfl⟩
theorem mi_X11_game : MI yX11_game cX11_game 2 (some .int) 1 := ⟨ini_X11, tb4 (List.mem_of_getElem? (i := 180) (by decide +kernel)) rfl, ⟨by decide +kernel, by decide +kernel, by decide +kernel⟩, by decide +kernel⟩
theorem mv_X11_game : MV yX11_game 11 := ⟨tb4 (List.mem_of_getElem? (i := 178) (by decide +kernel)) rfl, tb4 (List.mem_of_getElem? (i := 179) (by decide +kernel)) rfl, by decide, TX11, 19, rfl⟩
theorem mi_X11_path : MI yX11_path cX11_path 3 (some .int) 2 := ⟨ini_X11, tb4 (List.mem_of_getElem? (i := 224) (by decide +kernel)) rfl, ⟨by decide +kernel, by decide +kernel, by decide +kernel⟩, by decide +kernel⟩
theorem mv_X11_path : MV yX11_path 11 := ⟨tb4 (List.mem_of_getElem? (i := 222) (by decide +kernel)) rfl, tb4 (List.mem_of_getElem? (i := 223) (by decide +kernel)) rfl, by decide, TX11, 19, rfl⟩
theorem mi_X11_buyer : MI yX11_buyer cX11_buyer 3 (some .int) 2 := ⟨ini_X11, tb4 (List.mem_of_getElem? (i := 238) (by decide +kernel)) rfl, ⟨by decide +kernel, by decide +kernel, by decide +kernel⟩, by decide +kernel⟩
theorem mv_X11_buyer : MV yX11_buyer 11 := ⟨tb4 (List.mem_of_getElem? (i := 236) (by decide +kernel)) rfl, tb4 (List.mem_of_getElem? (i := 237) (by decide +kernel)) rfl, by decide, TX11, 19, rfl⟩
theorem mi_X11_units : MI yX11_units cX11_units 3 (some .int) 2 := ⟨ini_X11, tb5 (List.mem_of_getElem? (i := 14) (by decide +kernel)) rfl, ⟨by decide +kernel, by decide +kernel, by decide +kernel⟩, by decide +kernel⟩
theorem mv_X11_units : MV yX11_units 11 := ⟨tb5 (List.mem_of_getElem? (i := 12) (by decide +kernel)) rfl, tb5 (List.mem_of_getElem? (i := 13) (by decide +kernel)) rfl, by decide, TX11, 19, rfl⟩
theorem mi_X11_hurt : MI yX11_hurt cX11_hurt 3 (some .int) 0 := ⟨ini_X11, tb5 (List.mem_of_getElem? (i := 18) (by decide +kernel)) rfl, ⟨by decide +kernel, by decide +kernel, by decide +kernel⟩, by decide +kernel⟩
theorem mv_X11_hurt : MV yX11_hurt 11 := ⟨tb5 (List.mem_of_getElem? (i := 16) (by decide +kernel)) rfl, tb5 (List.mem_of_getElem? (i := 17) (by decide +kernel)) rfl, by decide, TX11, 19, rfl⟩
theorem mi_X11_hardest : MI yX11_hardest cX11_hardest 5 (some .int) 0 := ⟨ini_X11, tb5 (List.mem_of_getElem? (i := 26) (by decide +kernel)) rfl, ⟨by decide +kernel, by decide +kernel, by decide +kernel⟩, by decide +kernel⟩
theorem mv_X11_hardest : MV yX11_hardest 11 := ⟨tb5 (List.mem_of_getElem? (i := 24) (by decide +kernel)) rfl, tb5 (List.mem_of_getElem? (i := 25) (by decide +kernel)) rfl, by decide, TX11, 19, rfl⟩
theorem mi_X11_gentle : MI yX11_gentle cX11_gentle 1 (some .int) 0 := ⟨ini_X11, tb5 (List.mem_of_getElem? (i := 30) (by decide +kernel)) rfl, ⟨by decide +kernel, by decide +kernel, by decide +kernel⟩, by decide +kernel⟩
theorem mv_X11_gentle : MV yX11_gentle 11 := ⟨tb5 (List.mem_of_getElem? (i := 28) (by decide +kernel)) rfl, tb5 (List.mem_of_getElem? (i := 29) (by decide +kernel)) rfl, by decide, TX11, 19, rfl⟩
theorem mi_X11_gentleOf : MI yX11_gentleOf cX11_gentleOf 2 (some .int) 1 := ⟨ini_X11, tb5 (List.mem_of_getElem? (i := 43) (by decide +kernel)) rfl, ⟨by decide +kernel, by decide +kernel, by decide +kernel⟩, by decide +kernel⟩
theorem mv_X11_gentleOf : MV yX11_gentleOf 11 := ⟨tb5 (List.mem_of_getElem? (i := 41) (by decide +kernel)) rfl, tb5 (List.mem_of_getElem? (i := 42) (by decide +kernel)) rfl, by decide, TX11, 19, rfl⟩
theorem mi_X11_steady : MI yX11_steady cX11_steady 3 (some .int) 1 := ⟨ini_X11, tb5 (List.mem_of_getElem? (i := 47) (by decide +kernel)) rfl, ⟨by decide +kernel, by decide +kernel, by decide +kernel⟩, by decide +kernel⟩
theorem mv_X11_steady : MV yX11_steady 11 := ⟨tb5 (List.mem_of_getElem? (i := 45) (by decide +kernel)) rfl, tb5 (List.mem_of_getElem? (i := 46) (by decide +kernel)) rfl, by decide, TX11, 19, rfl⟩
theorem mi_X11_steadyOf : MI yX11_steadyOf cX11_steadyOf 4 (some .int) 2 := ⟨ini_X11, tb5 (List.mem_of_getElem? (i := 59) (by decide +kernel)) rfl, ⟨by decide +kernel, by decide +kernel, by decide +kernel⟩, by decide +kernel⟩
theorem mv_X11_steadyOf : MV yX11_steadyOf 11 := ⟨tb5 (List.mem_of_getElem? (i := 57) (by decide +kernel)) rfl, tb5 (List.mem_of_getElem? (i := 58) (by decide +kernel)) rfl, by decide, TX11, 19, rfl⟩
theorem mi_X11_level : MI yX11_level cX11_level 4 (some .int) 2 := ⟨ini_X11, tb5 (List.mem_of_getElem? (i := 63) (by decide +kernel)) rfl, ⟨by decide +kernel, by decide +kernel, by decide +kernel⟩, by decide +kernel⟩
theorem mv_X11_level : MV yX11_level 11 := ⟨tb5 (List.mem_of_getElem? (i := 61) (by decide +kernel)) rfl, tb5 (List.mem_of_getElem? (i := 62) (by decide +kernel)) rfl, by decide, TX11, 19, rfl⟩
theorem mi_X11_trade : MI yX11_trade cX11_trade 2 (some .int) 1 := ⟨ini_X11, tb5 (List.mem_of_getElem? (i := 75) (by decide +kernel)) rfl, ⟨by decide +kernel, by decide +kernel, by decide +kernel⟩, by decide +kernel⟩
theorem mv_X11_trade : MV yX11_trade 11 := ⟨tb5 (List.mem_of_getElem? (i := 73) (by decide +kernel)) rfl, tb5 (List.mem_of_getElem? (i := 74) (by decide +kernel)) rfl, by decide, TX11, 19, rfl⟩
theorem mi_X11_reach : MI yX11_reach cX11_reach 3 (some .int) 1 := ⟨ini_X11, tb5 (List.mem_of_getElem? (i := 93) (by decide +kernel)) rfl, ⟨by decide +kernel, by decide +kernel, by decide +kernel⟩, by decide +kernel⟩
theorem mv_X11_reach : MV yX11_reach 11 := ⟨tb5 (List.mem_of_getElem? (i := 91) (by decide +kernel)) rfl, tb5 (List.mem_of_getElem? (i := 92) (by decide +kernel)) rfl, by decide, TX11, 19, rfl⟩
theorem mi_X11_next : MI yX11_next cX11_next 1 (some .int) 0 := ⟨ini_X11, tb5 (List.mem_of_getElem? (i := 97) (by decide +kernel)) rfl, ⟨by decide +kernel, by decide +kernel, by decide +kernel⟩, by decide +kernel⟩
theorem mv_X11_next : MV yX11_next 11 := ⟨tb5 (List.mem_of_getElem? (i := 95) (by decide +kernel)) rfl, tb5 (List.mem_of_getElem? (i := 96) (by decide +kernel)) rfl, by decide, TX11, 19, rfl⟩
theorem mi_X11_gains : MI yX11_gains cX11_gains 3 (some .int) 1 := ⟨ini_X11, tb5 (List.mem_of_getElem? (i := 105) (by decide +kernel)) rfl, ⟨by decide +kernel, by decide +kernel, by decide +kernel⟩, by decide +kernel⟩
theorem mv_X11_gains : MV yX11_gains 11 := ⟨tb5 (List.mem_of_getElem? (i := 103) (by decide +kernel)) rfl, tb5 (List.mem_of_getElem? (i := 104) (by decide +kernel)) rfl, by decide, TX11, 19, rfl⟩
theorem mi_X11_share : MI yX11_share cX11_share 3 (some .int) 2 := ⟨ini_X11, tb5 (List.mem_of_getElem? (i := 111) (by decide +kernel)) rfl, ⟨by decide +kernel, by decide +kernel, by decide +kernel⟩, by decide +kernel⟩
theorem mv_X11_share : MV yX11_share 11 := ⟨tb5 (List.mem_of_getElem? (i := 109) (by decide +kernel)) rfl, tb5 (List.mem_of_getElem? (i := 110) (by decide +kernel)) rfl, by decide, TX11, 19, rfl⟩
theorem mi_X11_write : MI yX11_write cX11_write 3 (some .int) 0 := ⟨ini_X11, tb5 (List.mem_of_getElem? (i := 115) (by decide +kernel)) rfl, ⟨by decide +kernel, by decide +kernel, by decide +kernel⟩, by decide +kernel⟩
theorem mv_X11_write : MV yX11_write 11 := ⟨tb5 (List.mem_of_getElem? (i := 113) (by decide +kernel)) rfl, tb5 (List.mem_of_getElem? (i := 114) (by decide +kernel)) rfl, by decide, TX11, 19, rfl⟩
theorem mi_X11_octet : MI yX11_octet cX11_octet 2 (some .int) 1 := ⟨ini_X11, tb5 (List.mem_of_getElem? (i := 214) (by decide +kernel)) rfl, ⟨by decide +kernel, by decide +kernel, by decide +kernel⟩, by decide +kernel⟩
theorem mv_X11_octet : MV yX11_octet 11 := ⟨tb5 (List.mem_of_getElem? (i := 212) (by decide +kernel)) rfl, tb5 (List.mem_of_getElem? (i := 213) (by decide +kernel)) rfl, by decide, TX11, 19, rfl⟩
theorem mi_X11_price : MI yX11_price cX11_price 4 (some .int) 2 := ⟨ini_X11, tb5 (List.mem_of_getElem? (i := 123) (by decide +kernel)) rfl, ⟨by decide +kernel, by decide +kernel, by decide +kernel⟩, by decide +kernel⟩
theorem mv_X11_price : MV yX11_price 11 := ⟨tb5 (List.mem_of_getElem? (i := 121) (by decide +kernel)) rfl, tb5 (List.mem_of_getElem? (i := 122) (by decide +kernel)) rfl, by decide, TX11, 19, rfl⟩
theorem mi_X11_lay : MI yX11_lay cX11_lay 3 (some .int) 1 := ⟨ini_X11, tb5 (List.mem_of_getElem? (i := 138) (by decide +kernel)) rfl, ⟨by decide +kernel, by decide +kernel, by decide +kernel⟩, by decide +kernel⟩
theorem mv_X11_lay : MV yX11_lay 11 := ⟨tb5 (List.mem_of_getElem? (i := 136) (by decide +kernel)) rfl, tb5 (List.mem_of_getElem? (i := 137) (by decide +kernel)) rfl, by decide, TX11, 19, rfl⟩
theorem mi_X11_quality : MI yX11_quality cX11_quality 4 (some .int) 2 := ⟨ini_X11, tb5 (List.mem_of_getElem? (i := 143) (by decide +kernel)) rfl, ⟨by decide +kernel, by decide +kernel, by decide +kernel⟩, by decide +kernel⟩
theorem mv_X11_quality : MV yX11_quality 11 := ⟨tb5 (List.mem_of_getElem? (i := 141) (by decide +kernel)) rfl, tb5 (List.mem_of_getElem? (i := 142) (by decide +kernel)) rfl, by decide, TX11, 19, rfl⟩
theorem mi_X11_become : MI yX11_become cX11_become 4 (some .int) 2 := ⟨ini_X11, tb5 (List.mem_of_getElem? (i := 147) (by decide +kernel)) rfl, ⟨by decide +kernel, by decide +kernel, by decide +kernel⟩, by decide +kernel⟩
theorem mv_X11_become : MV yX11_become 11 := ⟨tb5 (List.mem_of_getElem? (i := 145) (by decide +kernel)) rfl, tb5 (List.mem_of_getElem? (i := 146) (by decide +kernel)) rfl, by decide, TX11, 19, rfl⟩
theorem mi_X11_year : MI yX11_year cX11_year 2 (some .int) 1 := ⟨ini_X11, tb5 (List.mem_of_getElem? (i := 152) (by decide +kernel)) rfl, ⟨by decide +kernel, by decide +kernel, by decide +kernel⟩, by decide +kernel⟩
theorem mv_X11_year : MV yX11_year 11 := ⟨tb5 (List.mem_of_getElem? (i := 150) (by decide +kernel)) rfl, tb5 (List.mem_of_getElem? (i := 151) (by decide +kernel)) rfl, by decide, TX11, 19, rfl⟩
theorem mi_X11_undo : MI yX11_undo cX11_undo 1 (some .int) 0 := ⟨ini_X11, tb5 (List.mem_of_getElem? (i := 164) (by decide +kernel)) rfl, ⟨by decide +kernel, by decide +kernel, by decide +kernel⟩, by decide +kernel⟩
theorem mv_X11_undo : MV yX11_undo 11 := ⟨tb5 (List.mem_of_getElem? (i := 162) (by decide +kernel)) rfl, tb5 (List.mem_of_getElem? (i := 163) (by decide +kernel)) rfl, by decide, TX11, 19, rfl⟩
theorem mi_X11_keep : MI yX11_keep cX11_keep 2 (some .boolean) 1 := ⟨ini_X11, tb5 (List.mem_of_getElem? (i := 172) (by decide +kernel)) rfl, ⟨by decide +kernel, by decide +kernel, by decide +kernel⟩, by decide +kernel⟩
theorem mv_X11_keep : MV yX11_keep 11 := ⟨tb5 (List.mem_of_getElem? (i := 170) (by decide +kernel)) rfl, tb5 (List.mem_of_getElem? (i := 171) (by decide +kernel)) rfl, by decide, TX11, 19, rfl⟩
theorem mi_X11_back : MI yX11_back cX11_back 2 (some .boolean) 1 := ⟨ini_X11, tb5 (List.mem_of_getElem? (i := 186) (by decide +kernel)) rfl, ⟨by decide +kernel, by decide +kernel, by decide +kernel⟩, by decide +kernel⟩
theorem mv_X11_back : MV yX11_back 11 := ⟨tb5 (List.mem_of_getElem? (i := 184) (by decide +kernel)) rfl, tb5 (List.mem_of_getElem? (i := 185) (by decide +kernel)) rfl, by decide, TX11, 19, rfl⟩
theorem mi_X11_book : MI yX11_book cX11_book 3 (some .int) 2 := ⟨ini_X11, tb5 (List.mem_of_getElem? (i := 194) (by decide +kernel)) rfl, ⟨by decide +kernel, by decide +kernel, by decide +kernel⟩, by decide +kernel⟩
theorem mv_X11_book : MV yX11_book 11 := ⟨tb5 (List.mem_of_getElem? (i := 192) (by decide +kernel)) rfl, tb5 (List.mem_of_getElem? (i := 193) (by decide +kernel)) rfl, by decide, TX11, 19, rfl⟩
theorem mi_X11_letter : MI yX11_letter cX11_letter 3 (some .int) 2 := ⟨ini_X11, tb6 (List.mem_of_getElem? (i := 42) (by decide +kernel)) rfl, ⟨by decide +kernel, by decide +kernel, by decide +kernel⟩, by decide +kernel⟩
theorem mv_X11_letter : MV yX11_letter 11 := ⟨tb6 (List.mem_of_getElem? (i := 40) (by decide +kernel)) rfl, tb6 (List.mem_of_getElem? (i := 41) (by decide +kernel)) rfl, by decide, TX11, 19, rfl⟩
theorem mi_X11_bytes : MI yX11_bytes cX11_bytes 1 (some .int) 0 := ⟨ini_X11, tb5 (List.mem_of_getElem? (i := 202) (by decide +kernel)) rfl, ⟨by decide +kernel, by decide +kernel, by decide +kernel⟩, by decide +kernel⟩
theorem mv_X11_bytes : MV yX11_bytes 11 := ⟨tb5 (List.mem_of_getElem? (i := 200) (by decide +kernel)) rfl, tb5 (List.mem_of_getElem? (i := 201) (by decide +kernel)) rfl, by decide, TX11, 19, rfl⟩
theorem mi_X11_trouble : MI yX11_trouble cX11_trouble 1 (some .int) 0 := ⟨ini_X11, tb5 (List.mem_of_getElem? (i := 206) (by decide +kernel)) rfl, ⟨by decide +kernel, by decide +kernel, by decide +kernel⟩, by decide +kernel⟩
theorem mv_X11_trouble : MV yX11_trouble 11 := ⟨tb5 (List.mem_of_getElem? (i := 204) (by decide +kernel)) rfl, tb5 (List.mem_of_getElem? (i := 205) (by decide +kernel)) rfl, by decide, TX11, 19, rfl⟩
theorem mi_X11_answer : MI yX11_answer cX11_answer 2 (some .int) 1 := ⟨ini_X11, tb3 (List.mem_of_getElem? (i := 177) (by decide +kernel)) rfl, ⟨by decide +kernel, by decide +kernel, by decide +kernel⟩, by decide +kernel⟩
theorem mv_X11_answer : MV yX11_answer 11 := ⟨tb3 (List.mem_of_getElem? (i := 176) (by decide +kernel)) rfl, ws_s (q := (yX11_answer, 19)) (by decide +kernel) rfl, by decide, TX11, 19, rfl⟩
theorem mi_X11_refuse : MI yX11_refuse cX11_refuse 2 (some .int) 1 := ⟨ini_X11, tb2 (List.mem_of_getElem? (i := 228) (by decide +kernel)) rfl, ⟨by decide +kernel, by decide +kernel, by decide +kernel⟩, by decide +kernel⟩
theorem mv_X11_refuse : MV yX11_refuse 11 := ⟨tb2 (List.mem_of_getElem? (i := 227) (by decide +kernel)) rfl, ws_s (q := (yX11_refuse, 19)) (by decide +kernel) rfl, by decide, TX11, 19, rfl⟩
theorem mi_X11_noService : MI yX11_noService cX11_noService 2 (some .boolean) 1 := ⟨ini_X11, tb4 (List.mem_of_getElem? (i := 15) (by decide +kernel)) rfl, ⟨by decide +kernel, by decide +kernel, by decide +kernel⟩, by decide +kernel⟩
theorem mv_X11_noService : MV yX11_noService 11 := ⟨tb4 (List.mem_of_getElem? (i := 14) (by decide +kernel)) rfl, ws_s (q := (yX11_noService, 19)) (by decide +kernel) rfl, by decide, TX11, 19, rfl⟩
theorem mi_X11_noBuyer : MI yX11_noBuyer cX11_noBuyer 2 (some .boolean) 1 := ⟨ini_X11, tb5 (List.mem_of_getElem? (i := 2) (by decide +kernel)) rfl, ⟨by decide +kernel, by decide +kernel, by decide +kernel⟩, by decide +kernel⟩
theorem mv_X11_noBuyer : MV yX11_noBuyer 11 := ⟨tb5 (List.mem_of_getElem? (i := 1) (by decide +kernel)) rfl, ws_s (q := (yX11_noBuyer, 19)) (by decide +kernel) rfl, by decide, TX11, 19, rfl⟩
theorem mi_X11_noPrice : MI yX11_noPrice cX11_noPrice 1 (some .boolean) 1 := ⟨ini_X11, tb4 (List.mem_of_getElem? (i := 40) (by decide +kernel)) rfl, ⟨by decide +kernel, by decide +kernel, by decide +kernel⟩, by decide +kernel⟩
theorem ms_X11_noPrice : Cond.static yX11_noPrice ∈ WS := tb4 (List.mem_of_getElem? (i := 39) (by decide +kernel)) rfl
theorem mi_X11_putNumber : MI yX11_putNumber cX11_putNumber 3 none 1 := ⟨ini_X11, tb2 (List.mem_of_getElem? (i := 220) (by decide +kernel)) rfl, ⟨by decide +kernel, by decide +kernel, by decide +kernel⟩, by decide +kernel⟩
theorem mv_X11_putNumber : MV yX11_putNumber 11 := ⟨tb2 (List.mem_of_getElem? (i := 219) (by decide +kernel)) rfl, ws_s (q := (yX11_putNumber, 19)) (by decide +kernel) rfl, by decide, TX11, 19, rfl⟩
theorem mi_X11_putWritten : MI yX11_putWritten cX11_putWritten 2 none 1 := ⟨ini_X11, tb5 (List.mem_of_getElem? (i := 119) (by decide +kernel)) rfl, ⟨by decide +kernel, by decide +kernel, by decide +kernel⟩, by decide +kernel⟩
theorem mv_X11_putWritten : MV yX11_putWritten 11 := ⟨tb5 (List.mem_of_getElem? (i := 118) (by decide +kernel)) rfl, ws_s (q := (yX11_putWritten, 19)) (by decide +kernel) rfl, by decide, TX11, 19, rfl⟩
theorem mi_X11_beginText : MI yX11_beginText cX11_beginText 2 none 0 := ⟨ini_X11, tb3 (List.mem_of_getElem? (i := 134) (by decide +kernel)) rfl, ⟨by decide +kernel, by decide +kernel, by decide +kernel⟩, by decide +kernel⟩
theorem mv_X11_beginText : MV yX11_beginText 11 := ⟨tb3 (List.mem_of_getElem? (i := 133) (by decide +kernel)) rfl, ws_s (q := (yX11_beginText, 19)) (by decide +kernel) rfl, by decide, TX11, 19, rfl⟩
theorem mi_X11_forgetFresh : MI yX11_forgetFresh cX11_forgetFresh 1 none 0 := ⟨ini_X11, tb5 (List.mem_of_getElem? (i := 133) (by decide +kernel)) rfl, ⟨by decide +kernel, by decide +kernel, by decide +kernel⟩, by decide +kernel⟩
theorem mv_X11_forgetFresh : MV yX11_forgetFresh 11 := ⟨tb5 (List.mem_of_getElem? (i := 132) (by decide +kernel)) rfl, ws_s (q := (yX11_forgetFresh, 19)) (by decide +kernel) rfl, by decide, TX11, 19, rfl⟩
theorem mi_X11_forgetAll : MI yX11_forgetAll cX11_forgetAll 1 none 0 := ⟨ini_X11, tb3 (List.mem_of_getElem? (i := 161) (by decide +kernel)) rfl, ⟨by decide +kernel, by decide +kernel, by decide +kernel⟩, by decide +kernel⟩
theorem mv_X11_forgetAll : MV yX11_forgetAll 11 := ⟨tb3 (List.mem_of_getElem? (i := 160) (by decide +kernel)) rfl, ws_s (q := (yX11_forgetAll, 19)) (by decide +kernel) rfl, by decide, TX11, 19, rfl⟩
theorem mi_X11_fromTable : MI yX11_fromTable cX11_fromTable 4 (some .int) 3 := ⟨ini_X11, tb4 (List.mem_of_getElem? (i := 37) (by decide +kernel)) rfl, ⟨by decide +kernel, by decide +kernel, by decide +kernel⟩, by decide +kernel⟩
theorem mv_X11_fromTable : MV yX11_fromTable 11 := ⟨tb4 (List.mem_of_getElem? (i := 36) (by decide +kernel)) rfl, ws_s (q := (yX11_fromTable, 19)) (by decide +kernel) rfl, by decide, TX11, 19, rfl⟩
theorem mi_X11_worthOf : MI yX11_worthOf cX11_worthOf 2 (some .int) 1 := ⟨ini_X11, tb4 (List.mem_of_getElem? (i := 136) (by decide +kernel)) rfl, ⟨by decide +kernel, by decide +kernel, by decide +kernel⟩, by decide +kernel⟩
theorem mv_X11_worthOf : MV yX11_worthOf 11 := ⟨tb4 (List.mem_of_getElem? (i := 135) (by decide +kernel)) rfl, ws_s (q := (yX11_worthOf, 19)) (by decide +kernel) rfl, by decide, TX11, 19, rfl⟩
theorem mi_X11_priceIn : MI yX11_priceIn cX11_priceIn 3 (some .int) 2 := ⟨ini_X11, tb4 (List.mem_of_getElem? (i := 144) (by decide +kernel)) rfl, ⟨by decide +kernel, by decide +kernel, by decide +kernel⟩, by decide +kernel⟩
theorem mv_X11_priceIn : MV yX11_priceIn 11 := ⟨tb4 (List.mem_of_getElem? (i := 143) (by decide +kernel)) rfl, ws_s (q := (yX11_priceIn, 19)) (by decide +kernel) rfl, by decide, TX11, 19, rfl⟩
theorem mi_X11_burdenMore : MI yX11_burdenMore cX11_burdenMore 2 (some .int) 1 := ⟨ini_X11, tb5 (List.mem_of_getElem? (i := 22) (by decide +kernel)) rfl, ⟨by decide +kernel, by decide +kernel, by decide +kernel⟩, by decide +kernel⟩
theorem mv_X11_burdenMore : MV yX11_burdenMore 11 := ⟨tb5 (List.mem_of_getElem? (i := 21) (by decide +kernel)) rfl, ws_s (q := (yX11_burdenMore, 19)) (by decide +kernel) rfl, by decide, TX11, 19, rfl⟩
theorem mi_X11_lowestTerms : MI yX11_lowestTerms cX11_lowestTerms 5 (some .int) 3 := ⟨ini_X11, tb5 (List.mem_of_getElem? (i := 67) (by decide +kernel)) rfl, ⟨by decide +kernel, by decide +kernel, by decide +kernel⟩, by decide +kernel⟩
theorem mv_X11_lowestTerms : MV yX11_lowestTerms 11 := ⟨tb5 (List.mem_of_getElem? (i := 66) (by decide +kernel)) rfl, ws_s (q := (yX11_lowestTerms, 19)) (by decide +kernel) rfl, by decide, TX11, 19, rfl⟩
theorem mi_X11_commonDivisor : MI yX11_commonDivisor cX11_commonDivisor 6 (some .int) 2 := ⟨ini_X11, tb5 (List.mem_of_getElem? (i := 70) (by decide +kernel)) rfl, ⟨by decide +kernel, by decide +kernel, by decide +kernel⟩, by decide +kernel⟩
theorem ms_X11_commonDivisor : Cond.static yX11_commonDivisor ∈ WS := tb5 (List.mem_of_getElem? (i := 69) (by decide +kernel)) rfl
theorem mi_X12_init : MI yX12_init cX12_init 1 none 0 := ⟨ini_X12, tb6 (List.mem_of_getElem? (i := 55) (by decide +kernel)) rfl, ⟨by decide +kernel, by decide +kernel, by decide +kernel⟩, by decide +kernel⟩
theorem mn_X12_init : Cond.instanceMethod yX12_init ∈ WS := tb6 (List.mem_of_getElem? (i := 54) (by decide +kernel)) rfl
theorem mi_X12_thrown : MI yX12_thrown cX12_thrown 1 (some .int) 0 := ⟨ini_X12, tb6 (List.mem_of_getElem? (i := 215) (by decide +kernel)) rfl, ⟨by decide +kernel, by decide +kernel, by decide +kernel⟩, by decide +kernel⟩
theorem mv_X12_thrown : MV yX12_thrown 12 := ⟨tb6 (List.mem_of_getElem? (i := 213) (by decide +kernel)) rfl, tb6 (List.mem_of_getElem? (i := 214) (by decide +kernel)) rfl, by decide, TX12, 51, rfl⟩
theorem mi_X12_refused : MI yX12_refused cX12_refused 2 (some .int) 1 := ⟨ini_X12, tb6 (List.mem_of_getElem? (i := 238) (by decide +kernel)) rfl, ⟨by decide +kernel, by decide +kernel, by decide +kernel⟩, by decide +kernel⟩
theorem mv_X12_refused : MV yX12_refused 12 := ⟨tb6 (List.mem_of_getElem? (i := 237) (by decide +kernel)) rfl, ws_s (q := (yX12_refused, 51)) (by decide +kernel) rfl, by decide, TX12, 51, rfl⟩
theorem mi_X12_tells : MI yX12_tells cX12_tells 2 (some .int) 1 := ⟨ini_X12, tb7 (List.mem_of_getElem? (i := 81) (by decide +kernel)) rfl, ⟨by decide +kernel, by decide +kernel, by decide +kernel⟩, by decide +kernel⟩
theorem mv_X12_tells : MV yX12_tells 12 := ⟨tb7 (List.mem_of_getElem? (i := 80) (by decide +kernel)) rfl, ws_s (q := (yX12_tells, 51)) (by decide +kernel) rfl, by decide, TX12, 51, rfl⟩
theorem mi_X12_granted : MI yX12_granted cX12_granted 2 (some .boolean) 1 := ⟨ini_X12, tb8 (List.mem_of_getElem? (i := 156) (by decide +kernel)) rfl, ⟨by decide +kernel, by decide +kernel, by decide +kernel⟩, by decide +kernel⟩
theorem mv_X12_granted : MV yX12_granted 12 := ⟨tb8 (List.mem_of_getElem? (i := 155) (by decide +kernel)) rfl, ws_s (q := (yX12_granted, 51)) (by decide +kernel) rfl, by decide, TX12, 51, rfl⟩
theorem mi_X12_in : MI yX12_in cX12_in 3 (some .boolean) 3 := ⟨ini_X12, tb6 (List.mem_of_getElem? (i := 234) (by decide +kernel)) rfl, ⟨by decide +kernel, by decide +kernel, by decide +kernel⟩, by decide +kernel⟩
theorem ms_X12_in : Cond.static yX12_in ∈ WS := tb6 (List.mem_of_getElem? (i := 233) (by decide +kernel)) rfl
theorem mi_X12_feed : MI yX12_feed cX12_feed 8 (some .int) 5 := ⟨ini_X12, tb6 (List.mem_of_getElem? (i := 219) (by decide +kernel)) rfl, ⟨by decide +kernel, by decide +kernel, by decide +kernel⟩, by decide +kernel⟩
theorem mv_X12_feed : MV yX12_feed 12 := ⟨tb6 (List.mem_of_getElem? (i := 217) (by decide +kernel)) rfl, tb6 (List.mem_of_getElem? (i := 218) (by decide +kernel)) rfl, by decide, TX12, 51, rfl⟩
theorem mi_X12_flaw : MI yX12_flaw cX12_flaw 2 none 1 := ⟨ini_X12, tb7 (List.mem_of_getElem? (i := 34) (by decide +kernel)) rfl, ⟨by decide +kernel, by decide +kernel, by decide +kernel⟩, by decide +kernel⟩
theorem mv_X12_flaw : MV yX12_flaw 12 := ⟨tb7 (List.mem_of_getElem? (i := 33) (by decide +kernel)) rfl, ws_s (q := (yX12_flaw, 51)) (by decide +kernel) rfl, by decide, TX12, 51, rfl⟩
theorem mi_X12_isLetterAt : MI yX12_isLetterAt cX12_isLetterAt 2 (some .boolean) 1 := ⟨ini_X12, tb7 (List.mem_of_getElem? (i := 6) (by decide +kernel)) rfl, ⟨by decide +kernel, by decide +kernel, by decide +kernel⟩, by decide +kernel⟩
theorem mv_X12_isLetterAt : MV yX12_isLetterAt 12 := ⟨tb7 (List.mem_of_getElem? (i := 5) (by decide +kernel)) rfl, ws_s (q := (yX12_isLetterAt, 51)) (by decide +kernel) rfl, by decide, TX12, 51, rfl⟩
theorem mi_X12_isDigitAt : MI yX12_isDigitAt cX12_isDigitAt 2 (some .boolean) 1 := ⟨ini_X12, tb7 (List.mem_of_getElem? (i := 12) (by decide +kernel)) rfl, ⟨by decide +kernel, by decide +kernel, by decide +kernel⟩, by decide +kernel⟩
theorem mv_X12_isDigitAt : MV yX12_isDigitAt 12 := ⟨tb7 (List.mem_of_getElem? (i := 11) (by decide +kernel)) rfl, ws_s (q := (yX12_isDigitAt, 51)) (by decide +kernel) rfl, by decide, TX12, 51, rfl⟩
theorem mi_X12_goOn : MI yX12_goOn cX12_goOn 1 none 0 := ⟨ini_X12, tb7 (List.mem_of_getElem? (i := 2) (by decide +kernel)) rfl, ⟨by decide +kernel, by decide +kernel, by decide +kernel⟩, by decide +kernel⟩
theorem mv_X12_goOn : MV yX12_goOn 12 := ⟨tb7 (List.mem_of_getElem? (i := 1) (by decide +kernel)) rfl, ws_s (q := (yX12_goOn, 51)) (by decide +kernel) rfl, by decide, TX12, 51, rfl⟩
theorem mi_X12_wordOf : MI yX12_wordOf cX12_wordOf 4 (some .long) 1 := ⟨ini_X12, tb7 (List.mem_of_getElem? (i := 24) (by decide +kernel)) rfl, ⟨by decide +kernel, by decide +kernel, by decide +kernel⟩, by decide +kernel⟩
theorem ms_X12_wordOf : Cond.static yX12_wordOf ∈ WS := tb7 (List.mem_of_getElem? (i := 23) (by decide +kernel)) rfl
theorem mi_X12_isWord : MI yX12_isWord cX12_isWord 2 (some .boolean) 1 := ⟨ini_X12, tb7 (List.mem_of_getElem? (i := 21) (by decide +kernel)) rfl, ⟨by decide +kernel, by decide +kernel, by decide +kernel⟩, by decide +kernel⟩
theorem mv_X12_isWord : MV yX12_isWord 12 := ⟨tb7 (List.mem_of_getElem? (i := 20) (by decide +kernel)) rfl, ws_s (q := (yX12_isWord, 51)) (by decide +kernel) rfl, by decide, TX12, 51, rfl⟩
theorem mi_X12_isSign : MI yX12_isSign cX12_isSign 2 (some .boolean) 1 := ⟨ini_X12, tb7 (List.mem_of_getElem? (i := 73) (by decide +kernel)) rfl, ⟨by decide +kernel, by decide +kernel, by decide +kernel⟩, by decide +kernel⟩
theorem mv_X12_isSign : MV yX12_isSign 12 := ⟨tb7 (List.mem_of_getElem? (i := 72) (by decide +kernel)) rfl, ws_s (q := (yX12_isSign, 51)) (by decide +kernel) rfl, by decide, TX12, 51, rfl⟩
theorem mi_X12_needs : MI yX12_needs cX12_needs 2 none 1 := ⟨ini_X12, tb7 (List.mem_of_getElem? (i := 61) (by decide +kernel)) rfl, ⟨by decide +kernel, by decide +kernel, by decide +kernel⟩, by decide +kernel⟩
theorem mv_X12_needs : MV yX12_needs 12 := ⟨tb7 (List.mem_of_getElem? (i := 60) (by decide +kernel)) rfl, ws_s (q := (yX12_needs, 51)) (by decide +kernel) rfl, by decide, TX12, 51, rfl⟩
theorem mi_X12_isOwn : MI yX12_isOwn cX12_isOwn 2 (some .boolean) 0 := ⟨ini_X12, tb7 (List.mem_of_getElem? (i := 42) (by decide +kernel)) rfl, ⟨by decide +kernel, by decide +kernel, by decide +kernel⟩, by decide +kernel⟩
theorem mv_X12_isOwn : MV yX12_isOwn 12 := ⟨tb7 (List.mem_of_getElem? (i := 41) (by decide +kernel)) rfl, ws_s (q := (yX12_isOwn, 51)) (by decide +kernel) rfl, by decide, TX12, 51, rfl⟩
theorem mi_X12_readWhole : MI yX12_readWhole cX12_readWhole 4 (some .int) 2 := ⟨ini_X12, tb7 (List.mem_of_getElem? (i := 65) (by decide +kernel)) rfl, ⟨by decide +kernel, by decide +kernel, by decide +kernel⟩, by decide +kernel⟩
theorem mv_X12_readWhole : MV yX12_readWhole 12 := ⟨tb7 (List.mem_of_getElem? (i := 64) (by decide +kernel)) rfl, ws_s (q := (yX12_readWhole, 51)) (by decide +kernel) rfl, by decide, TX12, 51, rfl⟩
theorem mi_X12_readTold : MI yX12_readTold cX12_readTold 4 (some .int) 3 := ⟨ini_X12, tb7 (List.mem_of_getElem? (i := 57) (by decide +kernel)) rfl, ⟨by decide +kernel, by decide +kernel, by decide +kernel⟩, by decide +kernel⟩
theorem mv_X12_readTold : MV yX12_readTold 12 := ⟨tb7 (List.mem_of_getElem? (i := 56) (by decide +kernel)) rfl, ws_s (q := (yX12_readTold, 51)) (by decide +kernel) rfl, by decide, TX12, 51, rfl⟩
theorem mi_X12_fault : MI yX12_fault cX12_fault 1 (some .int) 0 := ⟨ini_X12, tb6 (List.mem_of_getElem? (i := 223) (by decide +kernel)) rfl, ⟨by decide +kernel, by decide +kernel, by decide +kernel⟩, by decide +kernel⟩
theorem mv_X12_fault : MV yX12_fault 12 := ⟨tb6 (List.mem_of_getElem? (i := 221) (by decide +kernel)) rfl, tb6 (List.mem_of_getElem? (i := 222) (by decide +kernel)) rfl, by decide, TX12, 51, rfl⟩
theorem mi_X12_where : MI yX12_where cX12_where 1 (some .int) 0 := ⟨ini_X12, tb6 (List.mem_of_getElem? (i := 227) (by decide +kernel)) rfl, ⟨by decide +kernel, by decide +kernel, by decide +kernel⟩, by decide +kernel⟩
theorem mv_X12_where : MV yX12_where 12 := ⟨tb6 (List.mem_of_getElem? (i := 225) (by decide +kernel)) rfl, tb6 (List.mem_of_getElem? (i := 226) (by decide +kernel)) rfl, by decide, TX12, 51, rfl⟩
theorem mi_X12_of : MI yX12_of cX12_of 3 (some .int) 2 := ⟨ini_X12, tb7 (List.mem_of_getElem? (i := 93) (by decide +kernel)) rfl, ⟨by decide +kernel, by decide +kernel, by decide +kernel⟩, by decide +kernel⟩
theorem mv_X12_of : MV yX12_of 12 := ⟨tb7 (List.mem_of_getElem? (i := 92) (by decide +kernel)) rfl, ws_s (q := (yX12_of, 51)) (by decide +kernel) rfl, by decide, TX12, 51, rfl⟩
theorem mi_X12_readName : MI yX12_readName cX12_readName 3 none 1 := ⟨ini_X12, tb7 (List.mem_of_getElem? (i := 38) (by decide +kernel)) rfl, ⟨by decide +kernel, by decide +kernel, by decide +kernel⟩, by decide +kernel⟩
theorem mv_X12_readName : MV yX12_readName 12 := ⟨tb7 (List.mem_of_getElem? (i := 37) (by decide +kernel)) rfl, ws_s (q := (yX12_readName, 51)) (by decide +kernel) rfl, by decide, TX12, 51, rfl⟩
theorem mi_X12_readBuyer : MI yX12_readBuyer cX12_readBuyer 2 none 0 := ⟨ini_X12, tb7 (List.mem_of_getElem? (i := 69) (by decide +kernel)) rfl, ⟨by decide +kernel, by decide +kernel, by decide +kernel⟩, by decide +kernel⟩
theorem mv_X12_readBuyer : MV yX12_readBuyer 12 := ⟨tb7 (List.mem_of_getElem? (i := 68) (by decide +kernel)) rfl, ws_s (q := (yX12_readBuyer, 51)) (by decide +kernel) rfl, by decide, TX12, 51, rfl⟩
theorem mi_X12_readService : MI yX12_readService cX12_readService 3 none 0 := ⟨ini_X12, tb7 (List.mem_of_getElem? (i := 30) (by decide +kernel)) rfl, ⟨by decide +kernel, by decide +kernel, by decide +kernel⟩, by decide +kernel⟩
theorem mv_X12_readService : MV yX12_readService 12 := ⟨tb7 (List.mem_of_getElem? (i := 29) (by decide +kernel)) rfl, ws_s (q := (yX12_readService, 51)) (by decide +kernel) rfl, by decide, TX12, 51, rfl⟩
theorem mi_X12_readRule : MI yX12_readRule cX12_readRule 2 none 1 := ⟨ini_X12, tb7 (List.mem_of_getElem? (i := 77) (by decide +kernel)) rfl, ⟨by decide +kernel, by decide +kernel, by decide +kernel⟩, by decide +kernel⟩
theorem mv_X12_readRule : MV yX12_readRule 12 := ⟨tb7 (List.mem_of_getElem? (i := 76) (by decide +kernel)) rfl, ws_s (q := (yX12_readRule, 51)) (by decide +kernel) rfl, by decide, TX12, 51, rfl⟩
theorem mi_X12_readLine : MI yX12_readLine cX12_readLine 1 none 0 := ⟨ini_X12, tb7 (List.mem_of_getElem? (i := 16) (by decide +kernel)) rfl, ⟨by decide +kernel, by decide +kernel, by decide +kernel⟩, by decide +kernel⟩
theorem mv_X12_readLine : MV yX12_readLine 12 := ⟨tb7 (List.mem_of_getElem? (i := 15) (by decide +kernel)) rfl, ws_s (q := (yX12_readLine, 51)) (by decide +kernel) rfl, by decide, TX12, 51, rfl⟩
theorem mi_X12_text : MI yX12_text cX12_text 3 (some .int) 1 := ⟨ini_X12, tb6 (List.mem_of_getElem? (i := 231) (by decide +kernel)) rfl, ⟨by decide +kernel, by decide +kernel, by decide +kernel⟩, by decide +kernel⟩
theorem mv_X12_text : MV yX12_text 12 := ⟨tb6 (List.mem_of_getElem? (i := 229) (by decide +kernel)) rfl, tb6 (List.mem_of_getElem? (i := 230) (by decide +kernel)) rfl, by decide, TX12, 51, rfl⟩
theorem mi_X12_boughtAt : MI yX12_boughtAt cX12_boughtAt 4 (some .int) 2 := ⟨ini_X12, tb7 (List.mem_of_getElem? (i := 97) (by decide +kernel)) rfl, ⟨by decide +kernel, by decide +kernel, by decide +kernel⟩, by decide +kernel⟩
theorem mv_X12_boughtAt : MV yX12_boughtAt 12 := ⟨tb7 (List.mem_of_getElem? (i := 96) (by decide +kernel)) rfl, ws_s (q := (yX12_boughtAt, 51)) (by decide +kernel) rfl, by decide, TX12, 51, rfl⟩
theorem mi_X12_profitAt : MI yX12_profitAt cX12_profitAt 3 (some .int) 2 := ⟨ini_X12, tb7 (List.mem_of_getElem? (i := 156) (by decide +kernel)) rfl, ⟨by decide +kernel, by decide +kernel, by decide +kernel⟩, by decide +kernel⟩
theorem mv_X12_profitAt : MV yX12_profitAt 12 := ⟨tb7 (List.mem_of_getElem? (i := 155) (by decide +kernel)) rfl, ws_s (q := (yX12_profitAt, 51)) (by decide +kernel) rfl, by decide, TX12, 51, rfl⟩
theorem mi_X12_goodAt : MI yX12_goodAt cX12_goodAt 5 (some .int) 2 := ⟨ini_X12, tb7 (List.mem_of_getElem? (i := 164) (by decide +kernel)) rfl, ⟨by decide +kernel, by decide +kernel, by decide +kernel⟩, by decide +kernel⟩
theorem mv_X12_goodAt : MV yX12_goodAt 12 := ⟨tb7 (List.mem_of_getElem? (i := 163) (by decide +kernel)) rfl, ws_s (q := (yX12_goodAt, 51)) (by decide +kernel) rfl, by decide, TX12, 51, rfl⟩
theorem mi_X12_weight : MI yX12_weight cX12_weight 2 (some .int) 1 := ⟨ini_X12, tb7 (List.mem_of_getElem? (i := 89) (by decide +kernel)) rfl, ⟨by decide +kernel, by decide +kernel, by decide +kernel⟩, by decide +kernel⟩
theorem mv_X12_weight : MV yX12_weight 12 := ⟨tb7 (List.mem_of_getElem? (i := 88) (by decide +kernel)) rfl, ws_s (q := (yX12_weight, 51)) (by decide +kernel) rfl, by decide, TX12, 51, rfl⟩
theorem mi_X12_rate : MI yX12_rate cX12_rate 1 (some .int) 0 := ⟨ini_X12, tb7 (List.mem_of_getElem? (i := 101) (by decide +kernel)) rfl, ⟨by decide +kernel, by decide +kernel, by decide +kernel⟩, by decide +kernel⟩
theorem mv_X12_rate : MV yX12_rate 12 := ⟨tb7 (List.mem_of_getElem? (i := 100) (by decide +kernel)) rfl, ws_s (q := (yX12_rate, 51)) (by decide +kernel) rfl, by decide, TX12, 51, rfl⟩
theorem mi_X12_base : MI yX12_base cX12_base 3 (some .int) 0 := ⟨ini_X12, tb7 (List.mem_of_getElem? (i := 105) (by decide +kernel)) rfl, ⟨by decide +kernel, by decide +kernel, by decide +kernel⟩, by decide +kernel⟩
theorem mv_X12_base : MV yX12_base 12 := ⟨tb7 (List.mem_of_getElem? (i := 104) (by decide +kernel)) rfl, ws_s (q := (yX12_base, 51)) (by decide +kernel) rfl, by decide, TX12, 51, rfl⟩
theorem mi_X12_dues : MI yX12_dues cX12_dues 3 (some .int) 0 := ⟨ini_X12, tb7 (List.mem_of_getElem? (i := 109) (by decide +kernel)) rfl, ⟨by decide +kernel, by decide +kernel, by decide +kernel⟩, by decide +kernel⟩
theorem mv_X12_dues : MV yX12_dues 12 := ⟨tb7 (List.mem_of_getElem? (i := 108) (by decide +kernel)) rfl, ws_s (q := (yX12_dues, 51)) (by decide +kernel) rfl, by decide, TX12, 51, rfl⟩
theorem mi_X12_allowed : MI yX12_allowed cX12_allowed 2 (some .int) 0 := ⟨ini_X12, tb7 (List.mem_of_getElem? (i := 113) (by decide +kernel)) rfl, ⟨by decide +kernel, by decide +kernel, by decide +kernel⟩, by decide +kernel⟩
theorem mv_X12_allowed : MV yX12_allowed 12 := ⟨tb7 (List.mem_of_getElem? (i := 112) (by decide +kernel)) rfl, ws_s (q := (yX12_allowed, 51)) (by decide +kernel) rfl, by decide, TX12, 51, rfl⟩
theorem mi_X12_spent : MI yX12_spent cX12_spent 3 (some .int) 0 := ⟨ini_X12, tb7 (List.mem_of_getElem? (i := 117) (by decide +kernel)) rfl, ⟨by decide +kernel, by decide +kernel, by decide +kernel⟩, by decide +kernel⟩
theorem mv_X12_spent : MV yX12_spent 12 := ⟨tb7 (List.mem_of_getElem? (i := 116) (by decide +kernel)) rfl, ws_s (q := (yX12_spent, 51)) (by decide +kernel) rfl, by decide, TX12, 51, rfl⟩
theorem mi_X12_isKept : MI yX12_isKept cX12_isKept 1 (some .boolean) 0 := ⟨ini_X12, tb7 (List.mem_of_getElem? (i := 121) (by decide +kernel)) rfl, ⟨by decide +kernel, by decide +kernel, by decide +kernel⟩, by decide +kernel⟩
theorem mv_X12_isKept : MV yX12_isKept 12 := ⟨tb7 (List.mem_of_getElem? (i := 120) (by decide +kernel)) rfl, ws_s (q := (yX12_isKept, 51)) (by decide +kernel) rfl, by decide, TX12, 51, rfl⟩
theorem mi_X12_off : MI yX12_off cX12_off 4 (some .int) 1 := ⟨ini_X12, tb7 (List.mem_of_getElem? (i := 125) (by decide +kernel)) rfl, ⟨by decide +kernel, by decide +kernel, by decide +kernel⟩, by decide +kernel⟩
theorem mv_X12_off : MV yX12_off 12 := ⟨tb7 (List.mem_of_getElem? (i := 124) (by decide +kernel)) rfl, ws_s (q := (yX12_off, 51)) (by decide +kernel) rfl, by decide, TX12, 51, rfl⟩
theorem mi_X12_all : MI yX12_all cX12_all 4 (some .int) 1 := ⟨ini_X12, tb8 (List.mem_of_getElem? (i := 40) (by decide +kernel)) rfl, ⟨by decide +kernel, by decide +kernel, by decide +kernel⟩, by decide +kernel⟩
theorem mv_X12_all : MV yX12_all 12 := ⟨tb8 (List.mem_of_getElem? (i := 39) (by decide +kernel)) rfl, ws_s (q := (yX12_all, 51)) (by decide +kernel) rfl, by decide, TX12, 51, rfl⟩
theorem mi_X12_isService : MI yX12_isService cX12_isService 2 (some .boolean) 1 := ⟨ini_X12, tb7 (List.mem_of_getElem? (i := 133) (by decide +kernel)) rfl, ⟨by decide +kernel, by decide +kernel, by decide +kernel⟩, by decide +kernel⟩
theorem mv_X12_isService : MV yX12_isService 12 := ⟨tb7 (List.mem_of_getElem? (i := 132) (by decide +kernel)) rfl, ws_s (q := (yX12_isService, 51)) (by decide +kernel) rfl, by decide, TX12, 51, rfl⟩
theorem mi_X12_isPrice : MI yX12_isPrice cX12_isPrice 1 (some .boolean) 1 := ⟨ini_X12, tb7 (List.mem_of_getElem? (i := 148) (by decide +kernel)) rfl, ⟨by decide +kernel, by decide +kernel, by decide +kernel⟩, by decide +kernel⟩
theorem ms_X12_isPrice : Cond.static yX12_isPrice ∈ WS := tb7 (List.mem_of_getElem? (i := 147) (by decide +kernel)) rfl
theorem mi_X12_about : MI yX12_about cX12_about 4 (some .int) 1 := ⟨ini_X12, tb7 (List.mem_of_getElem? (i := 85) (by decide +kernel)) rfl, ⟨by decide +kernel, by decide +kernel, by decide +kernel⟩, by decide +kernel⟩
theorem mv_X12_about : MV yX12_about 12 := ⟨tb7 (List.mem_of_getElem? (i := 83) (by decide +kernel)) rfl, tb7 (List.mem_of_getElem? (i := 84) (by decide +kernel)) rfl, by decide, TX12, 51, rfl⟩
theorem mi_X12_service : MI yX12_service cX12_service 3 (some .int) 2 := ⟨ini_X12, tb7 (List.mem_of_getElem? (i := 129) (by decide +kernel)) rfl, ⟨by decide +kernel, by decide +kernel, by decide +kernel⟩, by decide +kernel⟩
theorem mv_X12_service : MV yX12_service 12 := ⟨tb7 (List.mem_of_getElem? (i := 127) (by decide +kernel)) rfl, tb7 (List.mem_of_getElem? (i := 128) (by decide +kernel)) rfl, by decide, TX12, 51, rfl⟩
theorem mi_X12_rule : MI yX12_rule cX12_rule 2 (some .int) 1 := ⟨ini_X12, tb7 (List.mem_of_getElem? (i := 137) (by decide +kernel)) rfl, ⟨by decide +kernel, by decide +kernel, by decide +kernel⟩, by decide +kernel⟩
theorem mv_X12_rule : MV yX12_rule 12 := ⟨tb7 (List.mem_of_getElem? (i := 135) (by decide +kernel)) rfl, tb7 (List.mem_of_getElem? (i := 136) (by decide +kernel)) rfl, by decide, TX12, 51, rfl⟩
theorem mi_X12_carried : MI yX12_carried cX12_carried 2 (some .int) 1 := ⟨ini_X12, tb7 (List.mem_of_getElem? (i := 141) (by decide +kernel)) rfl, ⟨by decide +kernel, by decide +kernel, by decide +kernel⟩, by decide +kernel⟩
theorem mv_X12_carried : MV yX12_carried 12 := ⟨tb7 (List.mem_of_getElem? (i := 139) (by decide +kernel)) rfl, tb7 (List.mem_of_getElem? (i := 140) (by decide +kernel)) rfl, by decide, TX12, 51, rfl⟩
theorem mi_X12_bought : MI yX12_bought cX12_bought 3 (some .int) 2 := ⟨ini_X12, tb7 (List.mem_of_getElem? (i := 145) (by decide +kernel)) rfl, ⟨by decide +kernel, by decide +kernel, by decide +kernel⟩, by decide +kernel⟩
theorem mv_X12_bought : MV yX12_bought 12 := ⟨tb7 (List.mem_of_getElem? (i := 143) (by decide +kernel)) rfl, tb7 (List.mem_of_getElem? (i := 144) (by decide +kernel)) rfl, by decide, TX12, 51, rfl⟩
theorem mi_X12_profit : MI yX12_profit cX12_profit 3 (some .int) 2 := ⟨ini_X12, tb7 (List.mem_of_getElem? (i := 152) (by decide +kernel)) rfl, ⟨by decide +kernel, by decide +kernel, by decide +kernel⟩, by decide +kernel⟩
theorem mv_X12_profit : MV yX12_profit 12 := ⟨tb7 (List.mem_of_getElem? (i := 150) (by decide +kernel)) rfl, tb7 (List.mem_of_getElem? (i := 151) (by decide +kernel)) rfl, by decide, TX12, 51, rfl⟩
theorem mi_X12_good : MI yX12_good cX12_good 3 (some .int) 2 := ⟨ini_X12, tb7 (List.mem_of_getElem? (i := 160) (by decide +kernel)) rfl, ⟨by decide +kernel, by decide +kernel, by decide +kernel⟩, by decide +kernel⟩
theorem mv_X12_good : MV yX12_good 12 := ⟨tb7 (List.mem_of_getElem? (i := 158) (by decide +kernel)) rfl, tb7 (List.mem_of_getElem? (i := 159) (by decide +kernel)) rfl, by decide, TX12, 51, rfl⟩
theorem mi_X12_isKeptBy : MI yX12_isKeptBy cX12_isKeptBy 4 (some .boolean) 2 := ⟨ini_X12, tb7 (List.mem_of_getElem? (i := 172) (by decide +kernel)) rfl, ⟨by decide +kernel, by decide +kernel, by decide +kernel⟩, by decide +kernel⟩
theorem mv_X12_isKeptBy : MV yX12_isKeptBy 12 := ⟨tb7 (List.mem_of_getElem? (i := 171) (by decide +kernel)) rfl, ws_s (q := (yX12_isKeptBy, 51)) (by decide +kernel) rfl, by decide, TX12, 51, rfl⟩
theorem mi_X12_most : MI yX12_most cX12_most 3 (some .int) 1 := ⟨ini_X12, tb7 (List.mem_of_getElem? (i := 168) (by decide +kernel)) rfl, ⟨by decide +kernel, by decide +kernel, by decide +kernel⟩, by decide +kernel⟩
theorem mv_X12_most : MV yX12_most 12 := ⟨tb7 (List.mem_of_getElem? (i := 166) (by decide +kernel)) rfl, tb7 (List.mem_of_getElem? (i := 167) (by decide +kernel)) rfl, by decide, TX12, 51, rfl⟩
theorem mi_X12_free : MI yX12_free cX12_free 4 (some .int) 1 := ⟨ini_X12, tb7 (List.mem_of_getElem? (i := 176) (by decide +kernel)) rfl, ⟨by decide +kernel, by decide +kernel, by decide +kernel⟩, by decide +kernel⟩
theorem mv_X12_free : MV yX12_free 12 := ⟨tb7 (List.mem_of_getElem? (i := 174) (by decide +kernel)) rfl, tb7 (List.mem_of_getElem? (i := 175) (by decide +kernel)) rfl, by decide, TX12, 51, rfl⟩
theorem mi_X12_freely : MI yX12_freely cX12_freely 4 (some .int) 1 := ⟨ini_X12, tb7 (List.mem_of_getElem? (i := 180) (by decide +kernel)) rfl, ⟨by decide +kernel, by decide +kernel, by decide +kernel⟩, by decide +kernel⟩
theorem mv_X12_freely : MV yX12_freely 12 := ⟨tb7 (List.mem_of_getElem? (i := 178) (by decide +kernel)) rfl, tb7 (List.mem_of_getElem? (i := 179) (by decide +kernel)) rfl, by decide, TX12, 51, rfl⟩
theorem mi_X12_laysWorth : MI yX12_laysWorth cX12_laysWorth 6 none 1 := ⟨ini_X12, tb7 (List.mem_of_getElem? (i := 196) (by decide +kernel)) rfl, ⟨by decide +kernel, by decide +kernel, by decide +kernel⟩, by decide +kernel⟩
theorem mv_X12_laysWorth : MV yX12_laysWorth 12 := ⟨tb7 (List.mem_of_getElem? (i := 195) (by decide +kernel)) rfl, ws_s (q := (yX12_laysWorth, 51)) (by decide +kernel) rfl, by decide, TX12, 51, rfl⟩
theorem mi_X12_burden : MI yX12_burden cX12_burden 5 (some .int) 2 := ⟨ini_X12, tb7 (List.mem_of_getElem? (i := 201) (by decide +kernel)) rfl, ⟨by decide +kernel, by decide +kernel, by decide +kernel⟩, by decide +kernel⟩
theorem mv_X12_burden : MV yX12_burden 12 := ⟨tb7 (List.mem_of_getElem? (i := 200) (by decide +kernel)) rfl, ws_s (q := (yX12_burden, 51)) (by decide +kernel) rfl, by decide, TX12, 51, rfl⟩
theorem mi_X12_bears : MI yX12_bears cX12_bears 5 (some .boolean) 2 := ⟨ini_X12, tb7 (List.mem_of_getElem? (i := 213) (by decide +kernel)) rfl, ⟨by decide +kernel, by decide +kernel, by decide +kernel⟩, by decide +kernel⟩
theorem mv_X12_bears : MV yX12_bears 12 := ⟨tb7 (List.mem_of_getElem? (i := 212) (by decide +kernel)) rfl, ws_s (q := (yX12_bears, 51)) (by decide +kernel) rfl, by decide, TX12, 51, rfl⟩
theorem mi_X12_isNear : MI yX12_isNear cX12_isNear 3 (some .boolean) 2 := ⟨ini_X12, tb7 (List.mem_of_getElem? (i := 209) (by decide +kernel)) rfl, ⟨by decide +kernel, by decide +kernel, by decide +kernel⟩, by decide +kernel⟩
theorem mv_X12_isNear : MV yX12_isNear 12 := ⟨tb7 (List.mem_of_getElem? (i := 208) (by decide +kernel)) rfl, ws_s (q := (yX12_isNear, 51)) (by decide +kernel) rfl, by decide, TX12, 51, rfl⟩
theorem mi_X12_tries : MI yX12_tries cX12_tries 6 none 3 := ⟨ini_X12, tb7 (List.mem_of_getElem? (i := 205) (by decide +kernel)) rfl, ⟨by decide +kernel, by decide +kernel, by decide +kernel⟩, by decide +kernel⟩
theorem mv_X12_tries : MV yX12_tries 12 := ⟨tb7 (List.mem_of_getElem? (i := 204) (by decide +kernel)) rfl, ws_s (q := (yX12_tries, 51)) (by decide +kernel) rfl, by decide, TX12, 51, rfl⟩
theorem mi_X12_finds : MI yX12_finds cX12_finds 3 (some .int) 1 := ⟨ini_X12, tb7 (List.mem_of_getElem? (i := 192) (by decide +kernel)) rfl, ⟨by decide +kernel, by decide +kernel, by decide +kernel⟩, by decide +kernel⟩
theorem mv_X12_finds : MV yX12_finds 12 := ⟨tb7 (List.mem_of_getElem? (i := 191) (by decide +kernel)) rfl, ws_s (q := (yX12_finds, 51)) (by decide +kernel) rfl, by decide, TX12, 51, rfl⟩
theorem mi_X12_findsGentle : MI yX12_findsGentle cX12_findsGentle 2 (some .int) 0 := ⟨ini_X12, tb7 (List.mem_of_getElem? (i := 188) (by decide +kernel)) rfl, ⟨by decide +kernel, by decide +kernel, by decide +kernel⟩, by decide +kernel⟩
theorem mv_X12_findsGentle : MV yX12_findsGentle 12 := ⟨tb7 (List.mem_of_getElem? (i := 187) (by decide +kernel)) rfl, ws_s (q := (yX12_findsGentle, 51)) (by decide +kernel) rfl, by decide, TX12, 51, rfl⟩
theorem mi_X12_findsSteady : MI yX12_findsSteady cX12_findsSteady 3 (some .int) 1 := ⟨ini_X12, tb7 (List.mem_of_getElem? (i := 225) (by decide +kernel)) rfl, ⟨by decide +kernel, by decide +kernel, by decide +kernel⟩, by decide +kernel⟩
theorem mv_X12_findsSteady : MV yX12_findsSteady 12 := ⟨tb7 (List.mem_of_getElem? (i := 224) (by decide +kernel)) rfl, ws_s (q := (yX12_findsSteady, 51)) (by decide +kernel) rfl, by decide, TX12, 51, rfl⟩
theorem mi_X12_gentle : MI yX12_gentle cX12_gentle 1 (some .int) 0 := ⟨ini_X12, tb7 (List.mem_of_getElem? (i := 184) (by decide +kernel)) rfl, ⟨by decide +kernel, by decide +kernel, by decide +kernel⟩, by decide +kernel⟩
theorem mv_X12_gentle : MV yX12_gentle 12 := ⟨tb7 (List.mem_of_getElem? (i := 182) (by decide +kernel)) rfl, tb7 (List.mem_of_getElem? (i := 183) (by decide +kernel)) rfl, by decide, TX12, 51, rfl⟩
theorem mi_X12_gentleOf : MI yX12_gentleOf cX12_gentleOf 3 (some .int) 1 := ⟨ini_X12, tb7 (List.mem_of_getElem? (i := 217) (by decide +kernel)) rfl, ⟨by decide +kernel, by decide +kernel, by decide +kernel⟩, by decide +kernel⟩
theorem mv_X12_gentleOf : MV yX12_gentleOf 12 := ⟨tb7 (List.mem_of_getElem? (i := 215) (by decide +kernel)) rfl, tb7 (List.mem_of_getElem? (i := 216) (by decide +kernel)) rfl, by decide, TX12, 51, rfl⟩
theorem mi_X12_steady : MI yX12_steady cX12_steady 3 (some .int) 1 := ⟨ini_X12, tb7 (List.mem_of_getElem? (i := 221) (by decide +kernel)) rfl, ⟨by decide +kernel, by decide +kernel, by decide +kernel⟩, by decide +kernel⟩
theorem mv_X12_steady : MV yX12_steady 12 := ⟨tb7 (List.mem_of_getElem? (i := 219) (by decide +kernel)) rfl, tb7 (List.mem_of_getElem? (i := 220) (by decide +kernel)) rfl, by decide, TX12, 51, rfl⟩
theorem mi_X12_steadyOf : MI yX12_steadyOf cX12_steadyOf 3 (some .int) 2 := ⟨ini_X12, tb7 (List.mem_of_getElem? (i := 229) (by decide +kernel)) rfl, ⟨by decide +kernel, by decide +kernel, by decide +kernel⟩, by decide +kernel⟩
theorem mv_X12_steadyOf : MV yX12_steadyOf 12 := ⟨tb7 (List.mem_of_getElem? (i := 227) (by decide +kernel)) rfl, tb7 (List.mem_of_getElem? (i := 228) (by decide +kernel)) rfl, by decide, TX12, 51, rfl⟩
theorem mi_X12_isBuyer : MI yX12_isBuyer cX12_isBuyer 2 (some .boolean) 1 := ⟨ini_X12, tb7 (List.mem_of_getElem? (i := 237) (by decide +kernel)) rfl, ⟨by decide +kernel, by decide +kernel, by decide +kernel⟩, by decide +kernel⟩
theorem mv_X12_isBuyer : MV yX12_isBuyer 12 := ⟨tb7 (List.mem_of_getElem? (i := 236) (by decide +kernel)) rfl, ws_s (q := (yX12_isBuyer, 51)) (by decide +kernel) rfl, by decide, TX12, 51, rfl⟩
theorem mi_X12_buyer : MI yX12_buyer cX12_buyer 5 (some .int) 2 := ⟨ini_X12, tb7 (List.mem_of_getElem? (i := 233) (by decide +kernel)) rfl, ⟨by decide +kernel, by decide +kernel, by decide +kernel⟩, by decide +kernel⟩
theorem mv_X12_buyer : MV yX12_buyer 12 := ⟨tb7 (List.mem_of_getElem? (i := 231) (by decide +kernel)) rfl, tb7 (List.mem_of_getElem? (i := 232) (by decide +kernel)) rfl, by decide, TX12, 51, rfl⟩
theorem mi_X12_units : MI yX12_units cX12_units 3 (some .int) 2 := ⟨ini_X12, tb8 (List.mem_of_getElem? (i := 1) (by decide +kernel)) rfl, ⟨by decide +kernel, by decide +kernel, by decide +kernel⟩, by decide +kernel⟩
theorem mv_X12_units : MV yX12_units 12 := ⟨tb7 (List.mem_of_getElem? (i := 239) (by decide +kernel)) rfl, tb8 (List.mem_of_getElem? (i := 0) (by decide +kernel)) rfl, by decide, TX12, 51, rfl⟩
theorem mi_X12_hurt : MI yX12_hurt cX12_hurt 3 (some .int) 0 := ⟨ini_X12, tb8 (List.mem_of_getElem? (i := 5) (by decide +kernel)) rfl, ⟨by decide +kernel, by decide +kernel, by decide +kernel⟩, by decide +kernel⟩
theorem mv_X12_hurt : MV yX12_hurt 12 := ⟨tb8 (List.mem_of_getElem? (i := 3) (by decide +kernel)) rfl, tb8 (List.mem_of_getElem? (i := 4) (by decide +kernel)) rfl, by decide, TX12, 51, rfl⟩
theorem mi_X12_hardest : MI yX12_hardest cX12_hardest 5 (some .int) 0 := ⟨ini_X12, tb8 (List.mem_of_getElem? (i := 9) (by decide +kernel)) rfl, ⟨by decide +kernel, by decide +kernel, by decide +kernel⟩, by decide +kernel⟩
theorem mv_X12_hardest : MV yX12_hardest 12 := ⟨tb8 (List.mem_of_getElem? (i := 7) (by decide +kernel)) rfl, tb8 (List.mem_of_getElem? (i := 8) (by decide +kernel)) rfl, by decide, TX12, 51, rfl⟩
theorem mi_X12_common : MI yX12_common cX12_common 5 (some .int) 2 := ⟨ini_X12, tb8 (List.mem_of_getElem? (i := 20) (by decide +kernel)) rfl, ⟨by decide +kernel, by decide +kernel, by decide +kernel⟩, by decide +kernel⟩
theorem ms_X12_common : Cond.static yX12_common ∈ WS := tb8 (List.mem_of_getElem? (i := 19) (by decide +kernel)) rfl
theorem mi_X12_part : MI yX12_part cX12_part 4 (some .int) 3 := ⟨ini_X12, tb8 (List.mem_of_getElem? (i := 17) (by decide +kernel)) rfl, ⟨by decide +kernel, by decide +kernel, by decide +kernel⟩, by decide +kernel⟩
theorem mv_X12_part : MV yX12_part 12 := ⟨tb8 (List.mem_of_getElem? (i := 16) (by decide +kernel)) rfl, ws_s (q := (yX12_part, 51)) (by decide +kernel) rfl, by decide, TX12, 51, rfl⟩
theorem mi_X12_level : MI yX12_level cX12_level 7 (some .int) 2 := ⟨ini_X12, tb8 (List.mem_of_getElem? (i := 13) (by decide +kernel)) rfl, ⟨by decide +kernel, by decide +kernel, by decide +kernel⟩, by decide +kernel⟩
theorem mv_X12_level : MV yX12_level 12 := ⟨tb8 (List.mem_of_getElem? (i := 11) (by decide +kernel)) rfl, tb8 (List.mem_of_getElem? (i := 12) (by decide +kernel)) rfl, by decide, TX12, 51, rfl⟩
theorem mi_X12_share : MI yX12_share cX12_share 3 (some .int) 2 := ⟨ini_X12, tb8 (List.mem_of_getElem? (i := 24) (by decide +kernel)) rfl, ⟨by decide +kernel, by decide +kernel, by decide +kernel⟩, by decide +kernel⟩
theorem mv_X12_share : MV yX12_share 12 := ⟨tb8 (List.mem_of_getElem? (i := 22) (by decide +kernel)) rfl, tb8 (List.mem_of_getElem? (i := 23) (by decide +kernel)) rfl, by decide, TX12, 51, rfl⟩
theorem mi_X12_gains : MI yX12_gains cX12_gains 5 (some .int) 1 := ⟨ini_X12, tb8 (List.mem_of_getElem? (i := 28) (by decide +kernel)) rfl, ⟨by decide +kernel, by decide +kernel, by decide +kernel⟩, by decide +kernel⟩
theorem mv_X12_gains : MV yX12_gains 12 := ⟨tb8 (List.mem_of_getElem? (i := 26) (by decide +kernel)) rfl, tb8 (List.mem_of_getElem? (i := 27) (by decide +kernel)) rfl, by decide, TX12, 51, rfl⟩
theorem mi_X12_trades : MI yX12_trades cX12_trades 6 (some .boolean) 0 := ⟨ini_X12, tb8 (List.mem_of_getElem? (i := 36) (by decide +kernel)) rfl, ⟨by decide +kernel, by decide +kernel, by decide +kernel⟩, by decide +kernel⟩
theorem mv_X12_trades : MV yX12_trades 12 := ⟨tb8 (List.mem_of_getElem? (i := 35) (by decide +kernel)) rfl, ws_s (q := (yX12_trades, 51)) (by decide +kernel) rfl, by decide, TX12, 51, rfl⟩
theorem mi_X12_trade : MI yX12_trade cX12_trade 2 (some .int) 1 := ⟨ini_X12, tb8 (List.mem_of_getElem? (i := 32) (by decide +kernel)) rfl, ⟨by decide +kernel, by decide +kernel, by decide +kernel⟩, by decide +kernel⟩
theorem mv_X12_trade : MV yX12_trade 12 := ⟨tb8 (List.mem_of_getElem? (i := 30) (by decide +kernel)) rfl, tb8 (List.mem_of_getElem? (i := 31) (by decide +kernel)) rfl, by decide, TX12, 51, rfl⟩
theorem mi_X12_writes : MI yX12_writes cX12_writes 2 none 1 := ⟨ini_X12, tb8 (List.mem_of_getElem? (i := 48) (by decide +kernel)) rfl, ⟨by decide +kernel, by decide +kernel, by decide +kernel⟩, by decide +kernel⟩
theorem mv_X12_writes : MV yX12_writes 12 := ⟨tb8 (List.mem_of_getElem? (i := 47) (by decide +kernel)) rfl, ws_s (q := (yX12_writes, 51)) (by decide +kernel) rfl, by decide, TX12, 51, rfl⟩
theorem mi_X12_write : MI yX12_write cX12_write 2 (some .int) 0 := ⟨ini_X12, tb8 (List.mem_of_getElem? (i := 44) (by decide +kernel)) rfl, ⟨by decide +kernel, by decide +kernel, by decide +kernel⟩, by decide +kernel⟩
theorem mv_X12_write : MV yX12_write 12 := ⟨tb8 (List.mem_of_getElem? (i := 42) (by decide +kernel)) rfl, tb8 (List.mem_of_getElem? (i := 43) (by decide +kernel)) rfl, by decide, TX12, 51, rfl⟩
theorem mi_X12_octet : MI yX12_octet cX12_octet 2 (some .int) 1 := ⟨ini_X12, tb8 (List.mem_of_getElem? (i := 52) (by decide +kernel)) rfl, ⟨by decide +kernel, by decide +kernel, by decide +kernel⟩, by decide +kernel⟩
theorem mv_X12_octet : MV yX12_octet 12 := ⟨tb8 (List.mem_of_getElem? (i := 50) (by decide +kernel)) rfl, tb8 (List.mem_of_getElem? (i := 51) (by decide +kernel)) rfl, by decide, TX12, 51, rfl⟩
theorem mi_X12_countsRows : MI yX12_countsRows cX12_countsRows 4 none 2 := ⟨ini_X12, tb8 (List.mem_of_getElem? (i := 76) (by decide +kernel)) rfl, ⟨by decide +kernel, by decide +kernel, by decide +kernel⟩, by decide +kernel⟩
theorem mv_X12_countsRows : MV yX12_countsRows 12 := ⟨tb8 (List.mem_of_getElem? (i := 75) (by decide +kernel)) rfl, ws_s (q := (yX12_countsRows, 51)) (by decide +kernel) rfl, by decide, TX12, 51, rfl⟩
theorem mi_X12_best : MI yX12_best cX12_best 1 (some .int) 0 := ⟨ini_X12, tb8 (List.mem_of_getElem? (i := 56) (by decide +kernel)) rfl, ⟨by decide +kernel, by decide +kernel, by decide +kernel⟩, by decide +kernel⟩
theorem mv_X12_best : MV yX12_best 12 := ⟨tb8 (List.mem_of_getElem? (i := 54) (by decide +kernel)) rfl, tb8 (List.mem_of_getElem? (i := 55) (by decide +kernel)) rfl, by decide, TX12, 51, rfl⟩
theorem mi_X12_bestOf : MI yX12_bestOf cX12_bestOf 3 (some .int) 1 := ⟨ini_X12, tb8 (List.mem_of_getElem? (i := 60) (by decide +kernel)) rfl, ⟨by decide +kernel, by decide +kernel, by decide +kernel⟩, by decide +kernel⟩
theorem mv_X12_bestOf : MV yX12_bestOf 12 := ⟨tb8 (List.mem_of_getElem? (i := 58) (by decide +kernel)) rfl, tb8 (List.mem_of_getElem? (i := 59) (by decide +kernel)) rfl, by decide, TX12, 51, rfl⟩
theorem mi_X12_fair : MI yX12_fair cX12_fair 1 (some .int) 0 := ⟨ini_X12, tb8 (List.mem_of_getElem? (i := 64) (by decide +kernel)) rfl, ⟨by decide +kernel, by decide +kernel, by decide +kernel⟩, by decide +kernel⟩
theorem mv_X12_fair : MV yX12_fair 12 := ⟨tb8 (List.mem_of_getElem? (i := 62) (by decide +kernel)) rfl, tb8 (List.mem_of_getElem? (i := 63) (by decide +kernel)) rfl, by decide, TX12, 51, rfl⟩
theorem mi_X12_fairOf : MI yX12_fairOf cX12_fairOf 3 (some .int) 1 := ⟨ini_X12, tb8 (List.mem_of_getElem? (i := 68) (by decide +kernel)) rfl, ⟨by decide +kernel, by decide +kernel, by decide +kernel⟩, by decide +kernel⟩
theorem mv_X12_fairOf : MV yX12_fairOf 12 := ⟨tb8 (List.mem_of_getElem? (i := 66) (by decide +kernel)) rfl, tb8 (List.mem_of_getElem? (i := 67) (by decide +kernel)) rfl, by decide, TX12, 51, rfl⟩
theorem mi_X12_rows : MI yX12_rows cX12_rows 1 (some .int) 0 := ⟨ini_X12, tb8 (List.mem_of_getElem? (i := 72) (by decide +kernel)) rfl, ⟨by decide +kernel, by decide +kernel, by decide +kernel⟩, by decide +kernel⟩
theorem mv_X12_rows : MV yX12_rows 12 := ⟨tb8 (List.mem_of_getElem? (i := 70) (by decide +kernel)) rfl, tb8 (List.mem_of_getElem? (i := 71) (by decide +kernel)) rfl, by decide, TX12, 51, rfl⟩
theorem mi_X12_keepsAside : MI yX12_keepsAside cX12_keepsAside 2 none 0 := ⟨ini_X12, tb8 (List.mem_of_getElem? (i := 88) (by decide +kernel)) rfl, ⟨by decide +kernel, by decide +kernel, by decide +kernel⟩, by decide +kernel⟩
theorem mv_X12_keepsAside : MV yX12_keepsAside 12 := ⟨tb8 (List.mem_of_getElem? (i := 87) (by decide +kernel)) rfl, ws_s (q := (yX12_keepsAside, 51)) (by decide +kernel) rfl, by decide, TX12, 51, rfl⟩
theorem mi_X12_putsBack : MI yX12_putsBack cX12_putsBack 2 none 0 := ⟨ini_X12, tb8 (List.mem_of_getElem? (i := 96) (by decide +kernel)) rfl, ⟨by decide +kernel, by decide +kernel, by decide +kernel⟩, by decide +kernel⟩
theorem mv_X12_putsBack : MV yX12_putsBack 12 := ⟨tb8 (List.mem_of_getElem? (i := 95) (by decide +kernel)) rfl, ws_s (q := (yX12_putsBack, 51)) (by decide +kernel) rfl, by decide, TX12, 51, rfl⟩
theorem mi_X12_ends : MI yX12_ends cX12_ends 5 none 0 := ⟨ini_X12, tb8 (List.mem_of_getElem? (i := 92) (by decide +kernel)) rfl, ⟨by decide +kernel, by decide +kernel, by decide +kernel⟩, by decide +kernel⟩
theorem mv_X12_ends : MV yX12_ends 12 := ⟨tb8 (List.mem_of_getElem? (i := 91) (by decide +kernel)) rfl, ws_s (q := (yX12_ends, 51)) (by decide +kernel) rfl, by decide, TX12, 51, rfl⟩
theorem mi_X12_plays : MI yX12_plays cX12_plays 5 (some .boolean) 0 := ⟨ini_X12, tb8 (List.mem_of_getElem? (i := 84) (by decide +kernel)) rfl, ⟨by decide +kernel, by decide +kernel, by decide +kernel⟩, by decide +kernel⟩
theorem mv_X12_plays : MV yX12_plays 12 := ⟨tb8 (List.mem_of_getElem? (i := 83) (by decide +kernel)) rfl, ws_s (q := (yX12_plays, 51)) (by decide +kernel) rfl, by decide, TX12, 51, rfl⟩
theorem mi_X12_game : MI yX12_game cX12_game 2 (some .int) 1 := ⟨ini_X12, tb8 (List.mem_of_getElem? (i := 80) (by decide +kernel)) rfl, ⟨by decide +kernel, by decide +kernel, by decide +kernel⟩, by decide +kernel⟩
theorem mv_X12_game : MV yX12_game 12 := ⟨tb8 (List.mem_of_getElem? (i := 78) (by decide +kernel)) rfl, tb8 (List.mem_of_getElem? (i := 79) (by decide +kernel)) rfl, by decide, TX12, 51, rfl⟩
theorem mi_X12_takesRow : MI yX12_takesRow cX12_takesRow 2 none 0 := ⟨ini_X12, tb8 (List.mem_of_getElem? (i := 104) (by decide +kernel)) rfl, ⟨by decide +kernel, by decide +kernel, by decide +kernel⟩, by decide +kernel⟩
theorem mv_X12_takesRow : MV yX12_takesRow 12 := ⟨tb8 (List.mem_of_getElem? (i := 103) (by decide +kernel)) rfl, ws_s (q := (yX12_takesRow, 51)) (by decide +kernel) rfl, by decide, TX12, 51, rfl⟩
theorem mi_X12_isSame : MI yX12_isSame cX12_isSame 3 (some .boolean) 0 := ⟨ini_X12, tb8 (List.mem_of_getElem? (i := 108) (by decide +kernel)) rfl, ⟨by decide +kernel, by decide +kernel, by decide +kernel⟩, by decide +kernel⟩
theorem mv_X12_isSame : MV yX12_isSame 12 := ⟨tb8 (List.mem_of_getElem? (i := 107) (by decide +kernel)) rfl, ws_s (q := (yX12_isSame, 51)) (by decide +kernel) rfl, by decide, TX12, 51, rfl⟩
theorem mi_X12_path : MI yX12_path cX12_path 7 (some .int) 2 := ⟨ini_X12, tb8 (List.mem_of_getElem? (i := 100) (by decide +kernel)) rfl, ⟨by decide +kernel, by decide +kernel, by decide +kernel⟩, by decide +kernel⟩
theorem mv_X12_path : MV yX12_path 12 := ⟨tb8 (List.mem_of_getElem? (i := 98) (by decide +kernel)) rfl, tb8 (List.mem_of_getElem? (i := 99) (by decide +kernel)) rfl, by decide, TX12, 51, rfl⟩
theorem mi_X12_reach : MI yX12_reach cX12_reach 5 (some .int) 1 := ⟨ini_X12, tb8 (List.mem_of_getElem? (i := 112) (by decide +kernel)) rfl, ⟨by decide +kernel, by decide +kernel, by decide +kernel⟩, by decide +kernel⟩
theorem mv_X12_reach : MV yX12_reach 12 := ⟨tb8 (List.mem_of_getElem? (i := 110) (by decide +kernel)) rfl, tb8 (List.mem_of_getElem? (i := 111) (by decide +kernel)) rfl, by decide, TX12, 51, rfl⟩
theorem mi_X12_next : MI yX12_next cX12_next 2 (some .int) 0 := ⟨ini_X12, tb8 (List.mem_of_getElem? (i := 116) (by decide +kernel)) rfl, ⟨by decide +kernel, by decide +kernel, by decide +kernel⟩, by decide +kernel⟩
theorem mv_X12_next : MV yX12_next 12 := ⟨tb8 (List.mem_of_getElem? (i := 114) (by decide +kernel)) rfl, tb8 (List.mem_of_getElem? (i := 115) (by decide +kernel)) rfl, by decide, TX12, 51, rfl⟩
theorem mi_X12_remembers : MI yX12_remembers cX12_remembers 2 none 0 := ⟨ini_X12, tb8 (List.mem_of_getElem? (i := 128) (by decide +kernel)) rfl, ⟨by decide +kernel, by decide +kernel, by decide +kernel⟩, by decide +kernel⟩
theorem mv_X12_remembers : MV yX12_remembers 12 := ⟨tb8 (List.mem_of_getElem? (i := 127) (by decide +kernel)) rfl, ws_s (q := (yX12_remembers, 51)) (by decide +kernel) rfl, by decide, TX12, 51, rfl⟩
theorem mi_X12_changes : MI yX12_changes cX12_changes 4 (some .int) 2 := ⟨ini_X12, tb8 (List.mem_of_getElem? (i := 124) (by decide +kernel)) rfl, ⟨by decide +kernel, by decide +kernel, by decide +kernel⟩, by decide +kernel⟩
theorem mv_X12_changes : MV yX12_changes 12 := ⟨tb8 (List.mem_of_getElem? (i := 123) (by decide +kernel)) rfl, ws_s (q := (yX12_changes, 51)) (by decide +kernel) rfl, by decide, TX12, 51, rfl⟩
theorem mi_X12_price : MI yX12_price cX12_price 3 (some .int) 2 := ⟨ini_X12, tb8 (List.mem_of_getElem? (i := 120) (by decide +kernel)) rfl, ⟨by decide +kernel, by decide +kernel, by decide +kernel⟩, by decide +kernel⟩
theorem mv_X12_price : MV yX12_price 12 := ⟨tb8 (List.mem_of_getElem? (i := 118) (by decide +kernel)) rfl, tb8 (List.mem_of_getElem? (i := 119) (by decide +kernel)) rfl, by decide, TX12, 51, rfl⟩
theorem mi_X12_lay : MI yX12_lay cX12_lay 3 (some .int) 1 := ⟨ini_X12, tb8 (List.mem_of_getElem? (i := 132) (by decide +kernel)) rfl, ⟨by decide +kernel, by decide +kernel, by decide +kernel⟩, by decide +kernel⟩
theorem mv_X12_lay : MV yX12_lay 12 := ⟨tb8 (List.mem_of_getElem? (i := 130) (by decide +kernel)) rfl, tb8 (List.mem_of_getElem? (i := 131) (by decide +kernel)) rfl, by decide, TX12, 51, rfl⟩
theorem mi_X12_quality : MI yX12_quality cX12_quality 3 (some .int) 2 := ⟨ini_X12, tb8 (List.mem_of_getElem? (i := 136) (by decide +kernel)) rfl, ⟨by decide +kernel, by decide +kernel, by decide +kernel⟩, by decide +kernel⟩
theorem mv_X12_quality : MV yX12_quality 12 := ⟨tb8 (List.mem_of_getElem? (i := 134) (by decide +kernel)) rfl, tb8 (List.mem_of_getElem? (i := 135) (by decide +kernel)) rfl, by decide, TX12, 51, rfl⟩
theorem mi_X12_become : MI yX12_become cX12_become 3 (some .int) 2 := ⟨ini_X12, tb8 (List.mem_of_getElem? (i := 140) (by decide +kernel)) rfl, ⟨by decide +kernel, by decide +kernel, by decide +kernel⟩, by decide +kernel⟩
theorem mv_X12_become : MV yX12_become 12 := ⟨tb8 (List.mem_of_getElem? (i := 138) (by decide +kernel)) rfl, tb8 (List.mem_of_getElem? (i := 139) (by decide +kernel)) rfl, by decide, TX12, 51, rfl⟩
theorem mi_X12_year : MI yX12_year cX12_year 3 (some .int) 1 := ⟨ini_X12, tb8 (List.mem_of_getElem? (i := 144) (by decide +kernel)) rfl, ⟨by decide +kernel, by decide +kernel, by decide +kernel⟩, by decide +kernel⟩
theorem mv_X12_year : MV yX12_year 12 := ⟨tb8 (List.mem_of_getElem? (i := 142) (by decide +kernel)) rfl, tb8 (List.mem_of_getElem? (i := 143) (by decide +kernel)) rfl, by decide, TX12, 51, rfl⟩
theorem mi_X12_undo : MI yX12_undo cX12_undo 2 (some .int) 0 := ⟨ini_X12, tb8 (List.mem_of_getElem? (i := 148) (by decide +kernel)) rfl, ⟨by decide +kernel, by decide +kernel, by decide +kernel⟩, by decide +kernel⟩
theorem mv_X12_undo : MV yX12_undo 12 := ⟨tb8 (List.mem_of_getElem? (i := 146) (by decide +kernel)) rfl, tb8 (List.mem_of_getElem? (i := 147) (by decide +kernel)) rfl, by decide, TX12, 51, rfl⟩
theorem mi_X12_keep : MI yX12_keep cX12_keep 3 (some .boolean) 1 := ⟨ini_X12, tb8 (List.mem_of_getElem? (i := 152) (by decide +kernel)) rfl, ⟨by decide +kernel, by decide +kernel, by decide +kernel⟩, by decide +kernel⟩
theorem mv_X12_keep : MV yX12_keep 12 := ⟨tb8 (List.mem_of_getElem? (i := 150) (by decide +kernel)) rfl, tb8 (List.mem_of_getElem? (i := 151) (by decide +kernel)) rfl, by decide, TX12, 51, rfl⟩
theorem mi_X12_back : MI yX12_back cX12_back 3 (some .boolean) 1 := ⟨ini_X12, tb8 (List.mem_of_getElem? (i := 160) (by decide +kernel)) rfl, ⟨by decide +kernel, by decide +kernel, by decide +kernel⟩, by decide +kernel⟩
theorem mv_X12_back : MV yX12_back 12 := ⟨tb8 (List.mem_of_getElem? (i := 158) (by decide +kernel)) rfl, tb8 (List.mem_of_getElem? (i := 159) (by decide +kernel)) rfl, by decide, TX12, 51, rfl⟩
theorem mi_X12_book : MI yX12_book cX12_book 3 (some .int) 2 := ⟨ini_X12, tb8 (List.mem_of_getElem? (i := 164) (by decide +kernel)) rfl, ⟨by decide +kernel, by decide +kernel, by decide +kernel⟩, by decide +kernel⟩
theorem mv_X12_book : MV yX12_book 12 := ⟨tb8 (List.mem_of_getElem? (i := 162) (by decide +kernel)) rfl, tb8 (List.mem_of_getElem? (i := 163) (by decide +kernel)) rfl, by decide, TX12, 51, rfl⟩
theorem mi_X12_letter : MI yX12_letter cX12_letter 8 (some .int) 2 := ⟨ini_X12, tb8 (List.mem_of_getElem? (i := 168) (by decide +kernel)) rfl, ⟨by decide +kernel, by decide +kernel, by decide +kernel⟩, by decide +kernel⟩
theorem mv_X12_letter : MV yX12_letter 12 := ⟨tb8 (List.mem_of_getElem? (i := 166) (by decide +kernel)) rfl, tb8 (List.mem_of_getElem? (i := 167) (by decide +kernel)) rfl, by decide, TX12, 51, rfl⟩
theorem mi_X12_bytes : MI yX12_bytes cX12_bytes 1 (some .int) 0 := ⟨ini_X12, tb8 (List.mem_of_getElem? (i := 172) (by decide +kernel)) rfl, ⟨by decide +kernel, by decide +kernel, by decide +kernel⟩, by decide +kernel⟩
theorem mv_X12_bytes : MV yX12_bytes 12 := ⟨tb8 (List.mem_of_getElem? (i := 170) (by decide +kernel)) rfl, tb8 (List.mem_of_getElem? (i := 171) (by decide +kernel)) rfl, by decide, TX12, 51, rfl⟩
theorem mi_X12_trouble : MI yX12_trouble cX12_trouble 1 (some .int) 0 := ⟨ini_X12, tb8 (List.mem_of_getElem? (i := 176) (by decide +kernel)) rfl, ⟨by decide +kernel, by decide +kernel, by decide +kernel⟩, by decide +kernel⟩
theorem mv_X12_trouble : MV yX12_trouble 12 := ⟨tb8 (List.mem_of_getElem? (i := 174) (by decide +kernel)) rfl, tb8 (List.mem_of_getElem? (i := 175) (by decide +kernel)) rfl, by decide, TX12, 51, rfl⟩
theorem mi_X0_init : MI yX0_init cX0_init 1 none 0 := ⟨ini_X0, tb1 (List.mem_of_getElem? (i := 118) (by decide +kernel)) rfl, ⟨by decide +kernel, by decide +kernel, by decide +kernel⟩, by decide +kernel⟩
theorem mn_X0_init : Cond.instanceMethod yX0_init ∈ WS := tb1 (List.mem_of_getElem? (i := 117) (by decide +kernel)) rfl
theorem mi_X0_enter : MI yX0_enter cX0_enter 4 none 2 := ⟨ini_X0, tb5 (List.mem_of_getElem? (i := 156) (by decide +kernel)) rfl, ⟨by decide +kernel, by decide +kernel, by decide +kernel⟩, by decide +kernel⟩
theorem mv_X0_enter : MV yX0_enter 0 := ⟨tb5 (List.mem_of_getElem? (i := 154) (by decide +kernel)) rfl, tb5 (List.mem_of_getElem? (i := 155) (by decide +kernel)) rfl, by decide, TX0, 1, rfl⟩
theorem mi_X0_look : MI yX0_look cX0_look 4 (some .int) 2 := ⟨ini_X0, tb5 (List.mem_of_getElem? (i := 198) (by decide +kernel)) rfl, ⟨by decide +kernel, by decide +kernel, by decide +kernel⟩, by decide +kernel⟩
theorem mv_X0_look : MV yX0_look 0 := ⟨tb5 (List.mem_of_getElem? (i := 196) (by decide +kernel)) rfl, tb5 (List.mem_of_getElem? (i := 197) (by decide +kernel)) rfl, by decide, TX0, 1, rfl⟩
theorem mi_X0_copy : MI yX0_copy cX0_copy 3 none 2 := ⟨ini_X0, tb5 (List.mem_of_getElem? (i := 181) (by decide +kernel)) rfl, ⟨by decide +kernel, by decide +kernel, by decide +kernel⟩, by decide +kernel⟩
theorem mv_X0_copy : MV yX0_copy 0 := ⟨tb5 (List.mem_of_getElem? (i := 179) (by decide +kernel)) rfl, tb5 (List.mem_of_getElem? (i := 180) (by decide +kernel)) rfl, by decide, TX0, 1, rfl⟩
theorem mi_X1_init : MI yX1_init cX1_init 1 none 0 := ⟨ini_X1, tb2 (List.mem_of_getElem? (i := 62) (by decide +kernel)) rfl, ⟨by decide +kernel, by decide +kernel, by decide +kernel⟩, by decide +kernel⟩
theorem mn_X1_init : Cond.instanceMethod yX1_init ∈ WS := tb2 (List.mem_of_getElem? (i := 61) (by decide +kernel)) rfl
theorem mi_X1_seek : MI yX1_seek cX1_seek 6 (some .boolean) 2 := ⟨ini_X1, tb5 (List.mem_of_getElem? (i := 79) (by decide +kernel)) rfl, ⟨by decide +kernel, by decide +kernel, by decide +kernel⟩, by decide +kernel⟩
theorem mv_X1_seek : MV yX1_seek 1 := ⟨tb5 (List.mem_of_getElem? (i := 77) (by decide +kernel)) rfl, tb5 (List.mem_of_getElem? (i := 78) (by decide +kernel)) rfl, by decide, TX1, 2, rfl⟩
theorem mi_X1_offer : MI yX1_offer cX1_offer 9 none 5 := ⟨ini_X1, tb5 (List.mem_of_getElem? (i := 85) (by decide +kernel)) rfl, ⟨by decide +kernel, by decide +kernel, by decide +kernel⟩, by decide +kernel⟩
theorem mv_X1_offer : MV yX1_offer 1 := ⟨tb5 (List.mem_of_getElem? (i := 83) (by decide +kernel)) rfl, tb5 (List.mem_of_getElem? (i := 84) (by decide +kernel)) rfl, by decide, TX1, 2, rfl⟩
theorem mi_X1_profitThen : MI yX1_profitThen cX1_profitThen 9 (some .int) 5 := ⟨ini_X1, tb5 (List.mem_of_getElem? (i := 89) (by decide +kernel)) rfl, ⟨by decide +kernel, by decide +kernel, by decide +kernel⟩, by decide +kernel⟩
theorem mv_X1_profitThen : MV yX1_profitThen 1 := ⟨tb5 (List.mem_of_getElem? (i := 87) (by decide +kernel)) rfl, tb5 (List.mem_of_getElem? (i := 88) (by decide +kernel)) rfl, by decide, TX1, 2, rfl⟩
theorem mi_X2_init : MI yX2_init cX2_init 2 none 1 := ⟨ini_X2, tb1 (List.mem_of_getElem? (i := 202) (by decide +kernel)) rfl, ⟨by decide +kernel, by decide +kernel, by decide +kernel⟩, by decide +kernel⟩
theorem mn_X2_init : Cond.instanceMethod yX2_init ∈ WS := tb1 (List.mem_of_getElem? (i := 201) (by decide +kernel)) rfl
theorem mi_X2_forget : MI yX2_forget cX2_forget 1 none 0 := ⟨ini_X2, tb3 (List.mem_of_getElem? (i := 165) (by decide +kernel)) rfl, ⟨by decide +kernel, by decide +kernel, by decide +kernel⟩, by decide +kernel⟩
theorem mv_X2_forget : MV yX2_forget 2 := ⟨tb3 (List.mem_of_getElem? (i := 163) (by decide +kernel)) rfl, tb3 (List.mem_of_getElem? (i := 164) (by decide +kernel)) rfl, by decide, TX2, 7, rfl⟩
theorem mi_X2_findBest : MI yX2_findBest cX2_findBest 3 (some (.object "BasketCap$Row")) 2 := ⟨ini_X2, tb4 (List.mem_of_getElem? (i := 73) (by decide +kernel)) rfl, ⟨by decide +kernel, by decide +kernel, by decide +kernel⟩, by decide +kernel⟩
theorem mv_X2_findBest : MV yX2_findBest 2 := ⟨tb4 (List.mem_of_getElem? (i := 71) (by decide +kernel)) rfl, tb4 (List.mem_of_getElem? (i := 72) (by decide +kernel)) rfl, by decide, TX2, 7, rfl⟩
theorem mi_X2_findFair : MI yX2_findFair cX2_findFair 3 (some (.object "BasketCap$Row")) 2 := ⟨ini_X2, tb4 (List.mem_of_getElem? (i := 152) (by decide +kernel)) rfl, ⟨by decide +kernel, by decide +kernel, by decide +kernel⟩, by decide +kernel⟩
theorem mv_X2_findFair : MV yX2_findFair 2 := ⟨tb4 (List.mem_of_getElem? (i := 150) (by decide +kernel)) rfl, tb4 (List.mem_of_getElem? (i := 151) (by decide +kernel)) rfl, by decide, TX2, 7, rfl⟩
theorem mi_X2_findGentle : MI yX2_findGentle cX2_findGentle 4 (some (.object "BasketCap$Row")) 2 := ⟨ini_X2, tb5 (List.mem_of_getElem? (i := 34) (by decide +kernel)) rfl, ⟨by decide +kernel, by decide +kernel, by decide +kernel⟩, by decide +kernel⟩
theorem mv_X2_findGentle : MV yX2_findGentle 2 := ⟨tb5 (List.mem_of_getElem? (i := 32) (by decide +kernel)) rfl, tb5 (List.mem_of_getElem? (i := 33) (by decide +kernel)) rfl, by decide, TX2, 7, rfl⟩
theorem mi_X2_findSteady : MI yX2_findSteady cX2_findSteady 4 (some (.object "BasketCap$Row")) 3 := ⟨ini_X2, tb5 (List.mem_of_getElem? (i := 51) (by decide +kernel)) rfl, ⟨by decide +kernel, by decide +kernel, by decide +kernel⟩, by decide +kernel⟩
theorem mv_X2_findSteady : MV yX2_findSteady 2 := ⟨tb5 (List.mem_of_getElem? (i := 49) (by decide +kernel)) rfl, tb5 (List.mem_of_getElem? (i := 50) (by decide +kernel)) rfl, by decide, TX2, 7, rfl⟩
theorem mi_X2_countRows : MI yX2_countRows cX2_countRows 3 (some .int) 2 := ⟨ini_X2, tb4 (List.mem_of_getElem? (i := 164) (by decide +kernel)) rfl, ⟨by decide +kernel, by decide +kernel, by decide +kernel⟩, by decide +kernel⟩
theorem mv_X2_countRows : MV yX2_countRows 2 := ⟨tb4 (List.mem_of_getElem? (i := 162) (by decide +kernel)) rfl, tb4 (List.mem_of_getElem? (i := 163) (by decide +kernel)) rfl, by decide, TX2, 7, rfl⟩
theorem mi_X3_init : MI yX3_init cX3_init 1 none 0 := ⟨ini_X3, tb2 (List.mem_of_getElem? (i := 138) (by decide +kernel)) rfl, ⟨by decide +kernel, by decide +kernel, by decide +kernel⟩, by decide +kernel⟩
theorem mn_X3_init : Cond.instanceMethod yX3_init ∈ WS := tb2 (List.mem_of_getElem? (i := 137) (by decide +kernel)) rfl
theorem mi_X3_take : MI yX3_take cX3_take 3 none 2 := ⟨ini_X3, tb5 (List.mem_of_getElem? (i := 176) (by decide +kernel)) rfl, ⟨by decide +kernel, by decide +kernel, by decide +kernel⟩, by decide +kernel⟩
theorem mv_X3_take : MV yX3_take 3 := ⟨tb5 (List.mem_of_getElem? (i := 174) (by decide +kernel)) rfl, tb5 (List.mem_of_getElem? (i := 175) (by decide +kernel)) rfl, by decide, TX3, 3, rfl⟩
theorem mi_X3_give : MI yX3_give cX3_give 3 none 2 := ⟨ini_X3, tb5 (List.mem_of_getElem? (i := 190) (by decide +kernel)) rfl, ⟨by decide +kernel, by decide +kernel, by decide +kernel⟩, by decide +kernel⟩
theorem mv_X3_give : MV yX3_give 3 := ⟨tb5 (List.mem_of_getElem? (i := 188) (by decide +kernel)) rfl, tb5 (List.mem_of_getElem? (i := 189) (by decide +kernel)) rfl, by decide, TX3, 3, rfl⟩
theorem mi_X4_init : MI yX4_init cX4_init 2 none 1 := ⟨ini_X4, tb2 (List.mem_of_getElem? (i := 16) (by decide +kernel)) rfl, ⟨by decide +kernel, by decide +kernel, by decide +kernel⟩, by decide +kernel⟩
theorem mn_X4_init : Cond.instanceMethod yX4_init ∈ WS := tb2 (List.mem_of_getElem? (i := 15) (by decide +kernel)) rfl
theorem mi_X4_forgetFresh : MI yX4_forgetFresh cX4_forgetFresh 1 none 0 := ⟨ini_X4, tb3 (List.mem_of_getElem? (i := 173) (by decide +kernel)) rfl, ⟨by decide +kernel, by decide +kernel, by decide +kernel⟩, by decide +kernel⟩
theorem mv_X4_forgetFresh : MV yX4_forgetFresh 4 := ⟨tb3 (List.mem_of_getElem? (i := 171) (by decide +kernel)) rfl, tb3 (List.mem_of_getElem? (i := 172) (by decide +kernel)) rfl, by decide, TX4, 11, rfl⟩
theorem mi_X4_forgetAll : MI yX4_forgetAll cX4_forgetAll 1 none 0 := ⟨ini_X4, tb3 (List.mem_of_getElem? (i := 169) (by decide +kernel)) rfl, ⟨by decide +kernel, by decide +kernel, by decide +kernel⟩, by decide +kernel⟩
theorem mv_X4_forgetAll : MV yX4_forgetAll 4 := ⟨tb3 (List.mem_of_getElem? (i := 167) (by decide +kernel)) rfl, tb3 (List.mem_of_getElem? (i := 168) (by decide +kernel)) rfl, by decide, TX4, 11, rfl⟩
theorem mi_X4_walk : MI yX4_walk cX4_walk 5 none 3 := ⟨ini_X4, tb4 (List.mem_of_getElem? (i := 228) (by decide +kernel)) rfl, ⟨by decide +kernel, by decide +kernel, by decide +kernel⟩, by decide +kernel⟩
theorem mv_X4_walk : MV yX4_walk 4 := ⟨tb4 (List.mem_of_getElem? (i := 226) (by decide +kernel)) rfl, tb4 (List.mem_of_getElem? (i := 227) (by decide +kernel)) rfl, by decide, TX4, 11, rfl⟩
theorem mi_X4_step : MI yX4_step cX4_step 5 none 2 := ⟨ini_X4, tb4 (List.mem_of_getElem? (i := 233) (by decide +kernel)) rfl, ⟨by decide +kernel, by decide +kernel, by decide +kernel⟩, by decide +kernel⟩
theorem mv_X4_step : MV yX4_step 4 := ⟨tb4 (List.mem_of_getElem? (i := 231) (by decide +kernel)) rfl, tb4 (List.mem_of_getElem? (i := 232) (by decide +kernel)) rfl, by decide, TX4, 11, rfl⟩
theorem mi_X4_nextProfit : MI yX4_nextProfit cX4_nextProfit 3 (some .int) 2 := ⟨ini_X4, tb5 (List.mem_of_getElem? (i := 101) (by decide +kernel)) rfl, ⟨by decide +kernel, by decide +kernel, by decide +kernel⟩, by decide +kernel⟩
theorem mv_X4_nextProfit : MV yX4_nextProfit 4 := ⟨tb5 (List.mem_of_getElem? (i := 99) (by decide +kernel)) rfl, tb5 (List.mem_of_getElem? (i := 100) (by decide +kernel)) rfl, by decide, TX4, 11, rfl⟩
theorem mi_X4_play : MI yX4_play cX4_play 4 (some .boolean) 2 := ⟨ini_X4, tb4 (List.mem_of_getElem? (i := 184) (by decide +kernel)) rfl, ⟨by decide +kernel, by decide +kernel, by decide +kernel⟩, by decide +kernel⟩
theorem mv_X4_play : MV yX4_play 4 := ⟨tb4 (List.mem_of_getElem? (i := 182) (by decide +kernel)) rfl, tb4 (List.mem_of_getElem? (i := 183) (by decide +kernel)) rfl, by decide, TX4, 11, rfl⟩
theorem mi_X4_playService : MI yX4_playService cX4_playService 8 none 3 := ⟨ini_X4, tb4 (List.mem_of_getElem? (i := 188) (by decide +kernel)) rfl, ⟨by decide +kernel, by decide +kernel, by decide +kernel⟩, by decide +kernel⟩
theorem mv_X4_playService : MV yX4_playService 4 := ⟨tb4 (List.mem_of_getElem? (i := 186) (by decide +kernel)) rfl, tb4 (List.mem_of_getElem? (i := 187) (by decide +kernel)) rfl, by decide, TX4, 11, rfl⟩
theorem mi_X4_playNext : MI yX4_playNext cX4_playNext 5 none 4 := ⟨ini_X4, tb4 (List.mem_of_getElem? (i := 210) (by decide +kernel)) rfl, ⟨by decide +kernel, by decide +kernel, by decide +kernel⟩, by decide +kernel⟩
theorem mv_X4_playNext : MV yX4_playNext 4 := ⟨tb4 (List.mem_of_getElem? (i := 208) (by decide +kernel)) rfl, tb4 (List.mem_of_getElem? (i := 209) (by decide +kernel)) rfl, by decide, TX4, 11, rfl⟩
theorem mi_X4_noteGame : MI yX4_noteGame cX4_noteGame 5 none 4 := ⟨ini_X4, tb4 (List.mem_of_getElem? (i := 220) (by decide +kernel)) rfl, ⟨by decide +kernel, by decide +kernel, by decide +kernel⟩, by decide +kernel⟩
theorem mv_X4_noteGame : MV yX4_noteGame 4 := ⟨tb4 (List.mem_of_getElem? (i := 218) (by decide +kernel)) rfl, tb4 (List.mem_of_getElem? (i := 219) (by decide +kernel)) rfl, by decide, TX4, 11, rfl⟩
theorem mi_X4_freeProfit : MI yX4_freeProfit cX4_freeProfit 4 (some .int) 1 := ⟨ini_X4, tb4 (List.mem_of_getElem? (i := 193) (by decide +kernel)) rfl, ⟨by decide +kernel, by decide +kernel, by decide +kernel⟩, by decide +kernel⟩
theorem mv_X4_freeProfit : MV yX4_freeProfit 4 := ⟨tb4 (List.mem_of_getElem? (i := 191) (by decide +kernel)) rfl, tb4 (List.mem_of_getElem? (i := 192) (by decide +kernel)) rfl, by decide, TX4, 11, rfl⟩
theorem mi_X5_init : MI yX5_init cX5_init 2 none 0 := ⟨ini_X5, tb1 (List.mem_of_getElem? (i := 128) (by decide +kernel)) rfl, ⟨by decide +kernel, by decide +kernel, by decide +kernel⟩, by decide +kernel⟩
theorem mn_X5_init : Cond.instanceMethod yX5_init ∈ WS := tb1 (List.mem_of_getElem? (i := 127) (by decide +kernel)) rfl
theorem mi_X5_clear : MI yX5_clear cX5_clear 1 none 0 := ⟨ini_X5, tb3 (List.mem_of_getElem? (i := 157) (by decide +kernel)) rfl, ⟨by decide +kernel, by decide +kernel, by decide +kernel⟩, by decide +kernel⟩
theorem mv_X5_clear : MV yX5_clear 5 := ⟨tb3 (List.mem_of_getElem? (i := 155) (by decide +kernel)) rfl, tb3 (List.mem_of_getElem? (i := 156) (by decide +kernel)) rfl, by decide, TX5, 3, rfl⟩
theorem mi_X5_push : MI yX5_push cX5_push 2 none 1 := ⟨ini_X5, tb5 (List.mem_of_getElem? (i := 127) (by decide +kernel)) rfl, ⟨by decide +kernel, by decide +kernel, by decide +kernel⟩, by decide +kernel⟩
theorem mv_X5_push : MV yX5_push 5 := ⟨tb5 (List.mem_of_getElem? (i := 125) (by decide +kernel)) rfl, tb5 (List.mem_of_getElem? (i := 126) (by decide +kernel)) rfl, by decide, TX5, 3, rfl⟩
theorem mi_X5_pop : MI yX5_pop cX5_pop 2 none 1 := ⟨ini_X5, tb5 (List.mem_of_getElem? (i := 168) (by decide +kernel)) rfl, ⟨by decide +kernel, by decide +kernel, by decide +kernel⟩, by decide +kernel⟩
theorem mv_X5_pop : MV yX5_pop 5 := ⟨tb5 (List.mem_of_getElem? (i := 166) (by decide +kernel)) rfl, tb5 (List.mem_of_getElem? (i := 167) (by decide +kernel)) rfl, by decide, TX5, 3, rfl⟩
theorem mi_X6_init : MI yX6_init cX6_init 1 none 0 := ⟨ini_X6, tb1 (List.mem_of_getElem? (i := 36) (by decide +kernel)) rfl, ⟨by decide +kernel, by decide +kernel, by decide +kernel⟩, by decide +kernel⟩
theorem mn_X6_init : Cond.instanceMethod yX6_init ∈ WS := tb1 (List.mem_of_getElem? (i := 35) (by decide +kernel)) rfl
theorem mi_X6_readText : MI yX6_readText cX6_readText 6 (some .boolean) 3 := ⟨ini_X6, tb2 (List.mem_of_getElem? (i := 232) (by decide +kernel)) rfl, ⟨by decide +kernel, by decide +kernel, by decide +kernel⟩, by decide +kernel⟩
theorem mv_X6_readText : MV yX6_readText 6 := ⟨tb2 (List.mem_of_getElem? (i := 230) (by decide +kernel)) rfl, tb2 (List.mem_of_getElem? (i := 231) (by decide +kernel)) rfl, by decide, TX6, 11, rfl⟩
theorem mi_X6_fail : MI yX6_fail cX6_fail 2 (some .boolean) 1 := ⟨ini_X6, tb3 (List.mem_of_getElem? (i := 79) (by decide +kernel)) rfl, ⟨by decide +kernel, by decide +kernel, by decide +kernel⟩, by decide +kernel⟩
theorem mv_X6_fail : MV yX6_fail 6 := ⟨tb3 (List.mem_of_getElem? (i := 77) (by decide +kernel)) rfl, tb3 (List.mem_of_getElem? (i := 78) (by decide +kernel)) rfl, by decide, TX6, 11, rfl⟩
theorem mi_X6_advance : MI yX6_advance cX6_advance 1 none 0 := ⟨ini_X6, tb3 (List.mem_of_getElem? (i := 0) (by decide +kernel)) rfl, ⟨by decide +kernel, by decide +kernel, by decide +kernel⟩, by decide +kernel⟩
theorem mv_X6_advance : MV yX6_advance 6 := ⟨tb2 (List.mem_of_getElem? (i := 238) (by decide +kernel)) rfl, tb2 (List.mem_of_getElem? (i := 239) (by decide +kernel)) rfl, by decide, TX6, 11, rfl⟩
theorem mi_X6_takeWord : MI yX6_takeWord cX6_takeWord 1 none 0 := ⟨ini_X6, tb3 (List.mem_of_getElem? (i := 7) (by decide +kernel)) rfl, ⟨by decide +kernel, by decide +kernel, by decide +kernel⟩, by decide +kernel⟩
theorem mv_X6_takeWord : MV yX6_takeWord 6 := ⟨tb3 (List.mem_of_getElem? (i := 5) (by decide +kernel)) rfl, tb3 (List.mem_of_getElem? (i := 6) (by decide +kernel)) rfl, by decide, TX6, 11, rfl⟩
theorem mi_X6_takeWhole : MI yX6_takeWhole cX6_takeWhole 1 none 0 := ⟨ini_X6, tb3 (List.mem_of_getElem? (i := 14) (by decide +kernel)) rfl, ⟨by decide +kernel, by decide +kernel, by decide +kernel⟩, by decide +kernel⟩
theorem mv_X6_takeWhole : MV yX6_takeWhole 6 := ⟨tb3 (List.mem_of_getElem? (i := 12) (by decide +kernel)) rfl, tb3 (List.mem_of_getElem? (i := 13) (by decide +kernel)) rfl, by decide, TX6, 11, rfl⟩
theorem mi_X6_isLetter : MI yX6_isLetter cX6_isLetter 1 (some .boolean) 1 := ⟨ini_X6, tb3 (List.mem_of_getElem? (i := 3) (by decide +kernel)) rfl, ⟨by decide +kernel, by decide +kernel, by decide +kernel⟩, by decide +kernel⟩
theorem ms_X6_isLetter : Cond.static yX6_isLetter ∈ WS := tb3 (List.mem_of_getElem? (i := 2) (by decide +kernel)) rfl
theorem mi_X6_isDigit : MI yX6_isDigit cX6_isDigit 1 (some .boolean) 1 := ⟨ini_X6, tb3 (List.mem_of_getElem? (i := 10) (by decide +kernel)) rfl, ⟨by decide +kernel, by decide +kernel, by decide +kernel⟩, by decide +kernel⟩
theorem ms_X6_isDigit : Cond.static yX6_isDigit ∈ WS := tb3 (List.mem_of_getElem? (i := 9) (by decide +kernel)) rfl
theorem mi_X6_isWord : MI yX6_isWord cX6_isWord 5 (some .boolean) 1 := ⟨ini_X6, tb3 (List.mem_of_getElem? (i := 23) (by decide +kernel)) rfl, ⟨by decide +kernel, by decide +kernel, by decide +kernel⟩, by decide +kernel⟩
theorem mv_X6_isWord : MV yX6_isWord 6 := ⟨tb3 (List.mem_of_getElem? (i := 21) (by decide +kernel)) rfl, tb3 (List.mem_of_getElem? (i := 22) (by decide +kernel)) rfl, by decide, TX6, 11, rfl⟩
theorem mi_X6_wordOfRule : MI yX6_wordOfRule cX6_wordOfRule 1 (some (.object "java/lang/String")) 1 := ⟨ini_X6, tb3 (List.mem_of_getElem? (i := 91) (by decide +kernel)) rfl, ⟨by decide +kernel, by decide +kernel, by decide +kernel⟩, by decide +kernel⟩
theorem ms_X6_wordOfRule : Cond.static yX6_wordOfRule ∈ WS := tb3 (List.mem_of_getElem? (i := 90) (by decide +kernel)) rfl
theorem mi_X6_wordOfValue : MI yX6_wordOfValue cX6_wordOfValue 1 (some (.object "java/lang/String")) 1 := ⟨ini_X6, tb3 (List.mem_of_getElem? (i := 98) (by decide +kernel)) rfl, ⟨by decide +kernel, by decide +kernel, by decide +kernel⟩, by decide +kernel⟩
theorem ms_X6_wordOfValue : Cond.static yX6_wordOfValue ∈ WS := tb3 (List.mem_of_getElem? (i := 97) (by decide +kernel)) rfl
theorem mi_X6_isReserved : MI yX6_isReserved cX6_isReserved 3 (some .boolean) 0 := ⟨ini_X6, tb3 (List.mem_of_getElem? (i := 87) (by decide +kernel)) rfl, ⟨by decide +kernel, by decide +kernel, by decide +kernel⟩, by decide +kernel⟩
theorem mv_X6_isReserved : MV yX6_isReserved 6 := ⟨tb3 (List.mem_of_getElem? (i := 85) (by decide +kernel)) rfl, tb3 (List.mem_of_getElem? (i := 86) (by decide +kernel)) rfl, by decide, TX6, 11, rfl⟩
theorem mi_X6_readLine : MI yX6_readLine cX6_readLine 2 (some .boolean) 0 := ⟨ini_X6, tb3 (List.mem_of_getElem? (i := 18) (by decide +kernel)) rfl, ⟨by decide +kernel, by decide +kernel, by decide +kernel⟩, by decide +kernel⟩
theorem mv_X6_readLine : MV yX6_readLine 6 := ⟨tb3 (List.mem_of_getElem? (i := 16) (by decide +kernel)) rfl, tb3 (List.mem_of_getElem? (i := 17) (by decide +kernel)) rfl, by decide, TX6, 11, rfl⟩
theorem mi_X6_readService : MI yX6_readService cX6_readService 2 (some .boolean) 0 := ⟨ini_X6, tb3 (List.mem_of_getElem? (i := 75) (by decide +kernel)) rfl, ⟨by decide +kernel, by decide +kernel, by decide +kernel⟩, by decide +kernel⟩
theorem mv_X6_readService : MV yX6_readService 6 := ⟨tb3 (List.mem_of_getElem? (i := 73) (by decide +kernel)) rfl, tb3 (List.mem_of_getElem? (i := 74) (by decide +kernel)) rfl, by decide, TX6, 11, rfl⟩
theorem mi_X6_readValues : MI yX6_readValues cX6_readValues 5 (some .boolean) 3 := ⟨ini_X6, tb3 (List.mem_of_getElem? (i := 112) (by decide +kernel)) rfl, ⟨by decide +kernel, by decide +kernel, by decide +kernel⟩, by decide +kernel⟩
theorem mv_X6_readValues : MV yX6_readValues 6 := ⟨tb3 (List.mem_of_getElem? (i := 110) (by decide +kernel)) rfl, tb3 (List.mem_of_getElem? (i := 111) (by decide +kernel)) rfl, by decide, TX6, 11, rfl⟩
theorem mi_X6_readBuyer : MI yX6_readBuyer cX6_readBuyer 3 (some .boolean) 0 := ⟨ini_X6, tb3 (List.mem_of_getElem? (i := 123) (by decide +kernel)) rfl, ⟨by decide +kernel, by decide +kernel, by decide +kernel⟩, by decide +kernel⟩
theorem mv_X6_readBuyer : MV yX6_readBuyer 6 := ⟨tb3 (List.mem_of_getElem? (i := 121) (by decide +kernel)) rfl, tb3 (List.mem_of_getElem? (i := 122) (by decide +kernel)) rfl, by decide, TX6, 11, rfl⟩
theorem mi_X6_readRule : MI yX6_readRule cX6_readRule 2 (some .boolean) 1 := ⟨ini_X6, tb3 (List.mem_of_getElem? (i := 127) (by decide +kernel)) rfl, ⟨by decide +kernel, by decide +kernel, by decide +kernel⟩, by decide +kernel⟩
theorem mv_X6_readRule : MV yX6_readRule 6 := ⟨tb3 (List.mem_of_getElem? (i := 125) (by decide +kernel)) rfl, tb3 (List.mem_of_getElem? (i := 126) (by decide +kernel)) rfl, by decide, TX6, 11, rfl⟩
theorem mi_X6_readName : MI yX6_readName cX6_readName 2 (some .boolean) 1 := ⟨ini_X6, tb3 (List.mem_of_getElem? (i := 83) (by decide +kernel)) rfl, ⟨by decide +kernel, by decide +kernel, by decide +kernel⟩, by decide +kernel⟩
theorem mv_X6_readName : MV yX6_readName 6 := ⟨tb3 (List.mem_of_getElem? (i := 81) (by decide +kernel)) rfl, tb3 (List.mem_of_getElem? (i := 82) (by decide +kernel)) rfl, by decide, TX6, 11, rfl⟩
theorem mi_X6_readWhole : MI yX6_readWhole cX6_readWhole 2 (some .boolean) 1 := ⟨ini_X6, tb3 (List.mem_of_getElem? (i := 119) (by decide +kernel)) rfl, ⟨by decide +kernel, by decide +kernel, by decide +kernel⟩, by decide +kernel⟩
theorem mv_X6_readWhole : MV yX6_readWhole 6 := ⟨tb3 (List.mem_of_getElem? (i := 117) (by decide +kernel)) rfl, tb3 (List.mem_of_getElem? (i := 118) (by decide +kernel)) rfl, by decide, TX6, 11, rfl⟩
theorem mi_X7_init : MI yX7_init cX7_init 1 none 0 := ⟨ini_X7, tb1 (List.mem_of_getElem? (i := 208) (by decide +kernel)) rfl, ⟨by decide +kernel, by decide +kernel, by decide +kernel⟩, by decide +kernel⟩
theorem mn_X7_init : Cond.instanceMethod yX7_init ∈ WS := tb1 (List.mem_of_getElem? (i := 207) (by decide +kernel)) rfl
theorem mi_X8_init : MI yX8_init cX8_init 1 none 0 := ⟨ini_X8, tb1 (List.mem_of_getElem? (i := 150) (by decide +kernel)) rfl, ⟨by decide +kernel, by decide +kernel, by decide +kernel⟩, by decide +kernel⟩
theorem mn_X8_init : Cond.instanceMethod yX8_init ∈ WS := tb1 (List.mem_of_getElem? (i := 149) (by decide +kernel)) rfl
theorem mi_X8_begin : MI yX8_begin cX8_begin 5 none 2 := ⟨ini_X8, tb4 (List.mem_of_getElem? (i := 77) (by decide +kernel)) rfl, ⟨by decide +kernel, by decide +kernel, by decide +kernel⟩, by decide +kernel⟩
theorem mv_X8_begin : MV yX8_begin 8 := ⟨tb4 (List.mem_of_getElem? (i := 75) (by decide +kernel)) rfl, tb4 (List.mem_of_getElem? (i := 76) (by decide +kernel)) rfl, by decide, TX8, 15, rfl⟩
theorem mi_X8_addBuyer : MI yX8_addBuyer cX8_addBuyer 5 none 3 := ⟨ini_X8, tb5 (List.mem_of_getElem? (i := 38) (by decide +kernel)) rfl, ⟨by decide +kernel, by decide +kernel, by decide +kernel⟩, by decide +kernel⟩
theorem mv_X8_addBuyer : MV yX8_addBuyer 8 := ⟨tb5 (List.mem_of_getElem? (i := 36) (by decide +kernel)) rfl, tb5 (List.mem_of_getElem? (i := 37) (by decide +kernel)) rfl, by decide, TX8, 15, rfl⟩
theorem mi_X8_holdNear : MI yX8_holdNear cX8_holdNear 4 none 2 := ⟨ini_X8, tb5 (List.mem_of_getElem? (i := 55) (by decide +kernel)) rfl, ⟨by decide +kernel, by decide +kernel, by decide +kernel⟩, by decide +kernel⟩
theorem mv_X8_holdNear : MV yX8_holdNear 8 := ⟨tb5 (List.mem_of_getElem? (i := 53) (by decide +kernel)) rfl, tb5 (List.mem_of_getElem? (i := 54) (by decide +kernel)) rfl, by decide, TX8, 15, rfl⟩
theorem mi_X8_find : MI yX8_find cX8_find 3 none 2 := ⟨ini_X8, tb4 (List.mem_of_getElem? (i := 86) (by decide +kernel)) rfl, ⟨by decide +kernel, by decide +kernel, by decide +kernel⟩, by decide +kernel⟩
theorem mv_X8_find : MV yX8_find 8 := ⟨tb4 (List.mem_of_getElem? (i := 84) (by decide +kernel)) rfl, tb4 (List.mem_of_getElem? (i := 85) (by decide +kernel)) rfl, by decide, TX8, 15, rfl⟩
theorem mi_X8_prepare : MI yX8_prepare cX8_prepare 3 (some .boolean) 1 := ⟨ini_X8, tb4 (List.mem_of_getElem? (i := 90) (by decide +kernel)) rfl, ⟨by decide +kernel, by decide +kernel, by decide +kernel⟩, by decide +kernel⟩
theorem mv_X8_prepare : MV yX8_prepare 8 := ⟨tb4 (List.mem_of_getElem? (i := 88) (by decide +kernel)) rfl, tb4 (List.mem_of_getElem? (i := 89) (by decide +kernel)) rfl, by decide, TX8, 15, rfl⟩
theorem mi_X8_bound : MI yX8_bound cX8_bound 1 (some .int) 0 := ⟨ini_X8, tb4 (List.mem_of_getElem? (i := 215) (by decide +kernel)) rfl, ⟨by decide +kernel, by decide +kernel, by decide +kernel⟩, by decide +kernel⟩
theorem mv_X8_bound : MV yX8_bound 8 := ⟨tb4 (List.mem_of_getElem? (i := 213) (by decide +kernel)) rfl, tb4 (List.mem_of_getElem? (i := 214) (by decide +kernel)) rfl, by decide, TX8, 15, rfl⟩
theorem mi_X8_seek : MI yX8_seek cX8_seek 3 none 1 := ⟨ini_X8, tb4 (List.mem_of_getElem? (i := 110) (by decide +kernel)) rfl, ⟨by decide +kernel, by decide +kernel, by decide +kernel⟩, by decide +kernel⟩
theorem mv_X8_seek : MV yX8_seek 8 := ⟨tb4 (List.mem_of_getElem? (i := 108) (by decide +kernel)) rfl, tb4 (List.mem_of_getElem? (i := 109) (by decide +kernel)) rfl, by decide, TX8, 15, rfl⟩
theorem mi_X8_takeLowest : MI yX8_takeLowest cX8_takeLowest 4 (some .boolean) 0 := ⟨ini_X8, tb4 (List.mem_of_getElem? (i := 94) (by decide +kernel)) rfl, ⟨by decide +kernel, by decide +kernel, by decide +kernel⟩, by decide +kernel⟩
theorem mv_X8_takeLowest : MV yX8_takeLowest 8 := ⟨tb4 (List.mem_of_getElem? (i := 92) (by decide +kernel)) rfl, tb4 (List.mem_of_getElem? (i := 93) (by decide +kernel)) rfl, by decide, TX8, 15, rfl⟩
theorem mi_X8_setStairs : MI yX8_setStairs cX8_setStairs 7 none 2 := ⟨ini_X8, tb4 (List.mem_of_getElem? (i := 98) (by decide +kernel)) rfl, ⟨by decide +kernel, by decide +kernel, by decide +kernel⟩, by decide +kernel⟩
theorem mv_X8_setStairs : MV yX8_setStairs 8 := ⟨tb4 (List.mem_of_getElem? (i := 96) (by decide +kernel)) rfl, tb4 (List.mem_of_getElem? (i := 97) (by decide +kernel)) rfl, by decide, TX8, 15, rfl⟩
theorem mi_X8_setToll : MI yX8_setToll cX8_setToll 5 none 0 := ⟨ini_X8, tb4 (List.mem_of_getElem? (i := 102) (by decide +kernel)) rfl, ⟨by decide +kernel, by decide +kernel, by decide +kernel⟩, by decide +kernel⟩
theorem mv_X8_setToll : MV yX8_setToll 8 := ⟨tb4 (List.mem_of_getElem? (i := 100) (by decide +kernel)) rfl, tb4 (List.mem_of_getElem? (i := 101) (by decide +kernel)) rfl, by decide, TX8, 15, rfl⟩
theorem mi_X8_chooseAt : MI yX8_chooseAt cX8_chooseAt 10 (some .int) 1 := ⟨ini_X8, tb4 (List.mem_of_getElem? (i := 106) (by decide +kernel)) rfl, ⟨by decide +kernel, by decide +kernel, by decide +kernel⟩, by decide +kernel⟩
theorem mv_X8_chooseAt : MV yX8_chooseAt 8 := ⟨tb4 (List.mem_of_getElem? (i := 104) (by decide +kernel)) rfl, tb4 (List.mem_of_getElem? (i := 105) (by decide +kernel)) rfl, by decide, TX8, 15, rfl⟩
theorem mi_X8_startGreedily : MI yX8_startGreedily cX8_startGreedily 2 none 0 := ⟨ini_X8, tb4 (List.mem_of_getElem? (i := 114) (by decide +kernel)) rfl, ⟨by decide +kernel, by decide +kernel, by decide +kernel⟩, by decide +kernel⟩
theorem mv_X8_startGreedily : MV yX8_startGreedily 8 := ⟨tb4 (List.mem_of_getElem? (i := 112) (by decide +kernel)) rfl, tb4 (List.mem_of_getElem? (i := 113) (by decide +kernel)) rfl, by decide, TX8, 15, rfl⟩
theorem mi_X8_take : MI yX8_take cX8_take 6 none 3 := ⟨ini_X8, tb4 (List.mem_of_getElem? (i := 123) (by decide +kernel)) rfl, ⟨by decide +kernel, by decide +kernel, by decide +kernel⟩, by decide +kernel⟩
theorem mv_X8_take : MV yX8_take 8 := ⟨tb4 (List.mem_of_getElem? (i := 121) (by decide +kernel)) rfl, tb4 (List.mem_of_getElem? (i := 122) (by decide +kernel)) rfl, by decide, TX8, 15, rfl⟩
theorem mi_X8_highestStair : MI yX8_highestStair cX8_highestStair 5 (some .int) 1 := ⟨ini_X8, tb4 (List.mem_of_getElem? (i := 118) (by decide +kernel)) rfl, ⟨by decide +kernel, by decide +kernel, by decide +kernel⟩, by decide +kernel⟩
theorem mv_X8_highestStair : MV yX8_highestStair 8 := ⟨tb4 (List.mem_of_getElem? (i := 116) (by decide +kernel)) rfl, tb4 (List.mem_of_getElem? (i := 117) (by decide +kernel)) rfl, by decide, TX8, 15, rfl⟩
theorem mi_X8_descend : MI yX8_descend cX8_descend 8 none 2 := ⟨ini_X8, tb4 (List.mem_of_getElem? (i := 127) (by decide +kernel)) rfl, ⟨by decide +kernel, by decide +kernel, by decide +kernel⟩, by decide +kernel⟩
theorem mv_X8_descend : MV yX8_descend 8 := ⟨tb4 (List.mem_of_getElem? (i := 125) (by decide +kernel)) rfl, tb4 (List.mem_of_getElem? (i := 126) (by decide +kernel)) rfl, by decide, TX8, 15, rfl⟩
theorem mi_X8_end : MI yX8_end cX8_end 5 none 3 := ⟨ini_X8, tb4 (List.mem_of_getElem? (i := 131) (by decide +kernel)) rfl, ⟨by decide +kernel, by decide +kernel, by decide +kernel⟩, by decide +kernel⟩
theorem mv_X8_end : MV yX8_end 8 := ⟨tb4 (List.mem_of_getElem? (i := 129) (by decide +kernel)) rfl, tb4 (List.mem_of_getElem? (i := 130) (by decide +kernel)) rfl, by decide, TX8, 15, rfl⟩
theorem mi_X8_count : MI yX8_count cX8_count 1 (some .int) 0 := ⟨ini_X8, tb4 (List.mem_of_getElem? (i := 168) (by decide +kernel)) rfl, ⟨by decide +kernel, by decide +kernel, by decide +kernel⟩, by decide +kernel⟩
theorem mv_X8_count : MV yX8_count 8 := ⟨tb4 (List.mem_of_getElem? (i := 166) (by decide +kernel)) rfl, tb4 (List.mem_of_getElem? (i := 167) (by decide +kernel)) rfl, by decide, TX8, 15, rfl⟩
theorem mi_X8_countFrom : MI yX8_countFrom cX8_countFrom 8 (some .int) 2 := ⟨ini_X8, tb4 (List.mem_of_getElem? (i := 172) (by decide +kernel)) rfl, ⟨by decide +kernel, by decide +kernel, by decide +kernel⟩, by decide +kernel⟩
theorem mv_X8_countFrom : MV yX8_countFrom 8 := ⟨tb4 (List.mem_of_getElem? (i := 170) (by decide +kernel)) rfl, tb4 (List.mem_of_getElem? (i := 171) (by decide +kernel)) rfl, by decide, TX8, 15, rfl⟩
theorem mi_X9_init : MI yX9_init cX9_init 1 none 0 := ⟨ini_X9, tb2 (List.mem_of_getElem? (i := 76) (by decide +kernel)) rfl, ⟨by decide +kernel, by decide +kernel, by decide +kernel⟩, by decide +kernel⟩
theorem mn_X9_init : Cond.instanceMethod yX9_init ∈ WS := tb2 (List.mem_of_getElem? (i := 75) (by decide +kernel)) rfl
theorem mi_X9_clear : MI yX9_clear cX9_clear 2 none 0 := ⟨ini_X9, tb2 (List.mem_of_getElem? (i := 236) (by decide +kernel)) rfl, ⟨by decide +kernel, by decide +kernel, by decide +kernel⟩, by decide +kernel⟩
theorem mv_X9_clear : MV yX9_clear 9 := ⟨tb2 (List.mem_of_getElem? (i := 234) (by decide +kernel)) rfl, tb2 (List.mem_of_getElem? (i := 235) (by decide +kernel)) rfl, by decide, TX9, 9, rfl⟩
theorem mi_X9_mostOfRule : MI yX9_mostOfRule cX9_mostOfRule 1 (some .int) 1 := ⟨ini_X9, tb3 (List.mem_of_getElem? (i := 130) (by decide +kernel)) rfl, ⟨by decide +kernel, by decide +kernel, by decide +kernel⟩, by decide +kernel⟩
theorem ms_X9_mostOfRule : Cond.static yX9_mostOfRule ∈ WS := tb3 (List.mem_of_getElem? (i := 129) (by decide +kernel)) rfl
theorem mi_X9_mostOfValue : MI yX9_mostOfValue cX9_mostOfValue 1 (some .int) 1 := ⟨ini_X9, tb3 (List.mem_of_getElem? (i := 115) (by decide +kernel)) rfl, ⟨by decide +kernel, by decide +kernel, by decide +kernel⟩, by decide +kernel⟩
theorem ms_X9_mostOfValue : Cond.static yX9_mostOfValue ∈ WS := tb3 (List.mem_of_getElem? (i := 114) (by decide +kernel)) rfl
theorem mi_X9_valueOf : MI yX9_valueOf cX9_valueOf 3 (some .int) 2 := ⟨ini_X9, tb3 (List.mem_of_getElem? (i := 142) (by decide +kernel)) rfl, ⟨by decide +kernel, by decide +kernel, by decide +kernel⟩, by decide +kernel⟩
theorem mv_X9_valueOf : MV yX9_valueOf 9 := ⟨tb3 (List.mem_of_getElem? (i := 140) (by decide +kernel)) rfl, tb3 (List.mem_of_getElem? (i := 141) (by decide +kernel)) rfl, by decide, TX9, 9, rfl⟩
theorem mi_X9_lengthOf : MI yX9_lengthOf cX9_lengthOf 4 (some .int) 1 := ⟨ini_X9, tb6 (List.mem_of_getElem? (i := 45) (by decide +kernel)) rfl, ⟨by decide +kernel, by decide +kernel, by decide +kernel⟩, by decide +kernel⟩
theorem ms_X9_lengthOf : Cond.static yX9_lengthOf ∈ WS := tb6 (List.mem_of_getElem? (i := 44) (by decide +kernel)) rfl
theorem mi_X9_letterOf : MI yX9_letterOf cX9_letterOf 3 (some .int) 2 := ⟨ini_X9, tb6 (List.mem_of_getElem? (i := 48) (by decide +kernel)) rfl, ⟨by decide +kernel, by decide +kernel, by decide +kernel⟩, by decide +kernel⟩
theorem ms_X9_letterOf : Cond.static yX9_letterOf ∈ WS := tb6 (List.mem_of_getElem? (i := 47) (by decide +kernel)) rfl
theorem mi_X9_hasName : MI yX9_hasName cX9_hasName 4 (some .boolean) 1 := ⟨ini_X9, tb3 (List.mem_of_getElem? (i := 108) (by decide +kernel)) rfl, ⟨by decide +kernel, by decide +kernel, by decide +kernel⟩, by decide +kernel⟩
theorem mv_X9_hasName : MV yX9_hasName 9 := ⟨tb3 (List.mem_of_getElem? (i := 106) (by decide +kernel)) rfl, tb3 (List.mem_of_getElem? (i := 107) (by decide +kernel)) rfl, by decide, TX9, 9, rfl⟩
theorem mi_X9_fillTables : MI yX9_fillTables cX9_fillTables 6 none 0 := ⟨ini_X9, tb3 (List.mem_of_getElem? (i := 138) (by decide +kernel)) rfl, ⟨by decide +kernel, by decide +kernel, by decide +kernel⟩, by decide +kernel⟩
theorem mv_X9_fillTables : MV yX9_fillTables 9 := ⟨tb3 (List.mem_of_getElem? (i := 136) (by decide +kernel)) rfl, tb3 (List.mem_of_getElem? (i := 137) (by decide +kernel)) rfl, by decide, TX9, 9, rfl⟩
theorem mi_X9_freePrice : MI yX9_freePrice cX9_freePrice 4 (some .int) 1 := ⟨ini_X9, tb4 (List.mem_of_getElem? (i := 65) (by decide +kernel)) rfl, ⟨by decide +kernel, by decide +kernel, by decide +kernel⟩, by decide +kernel⟩
theorem mv_X9_freePrice : MV yX9_freePrice 9 := ⟨tb4 (List.mem_of_getElem? (i := 63) (by decide +kernel)) rfl, tb4 (List.mem_of_getElem? (i := 64) (by decide +kernel)) rfl, by decide, TX9, 9, rfl⟩
theorem mi_X9_together : MI yX9_together cX9_together 5 (some .int) 2 := ⟨ini_X9, tb3 (List.mem_of_getElem? (i := 202) (by decide +kernel)) rfl, ⟨by decide +kernel, by decide +kernel, by decide +kernel⟩, by decide +kernel⟩
theorem mv_X9_together : MV yX9_together 9 := ⟨tb3 (List.mem_of_getElem? (i := 200) (by decide +kernel)) rfl, tb3 (List.mem_of_getElem? (i := 201) (by decide +kernel)) rfl, by decide, TX9, 9, rfl⟩
theorem mi_X9_costing : MI yX9_costing cX9_costing 5 (some .int) 2 := ⟨ini_X9, tb3 (List.mem_of_getElem? (i := 206) (by decide +kernel)) rfl, ⟨by decide +kernel, by decide +kernel, by decide +kernel⟩, by decide +kernel⟩
theorem mv_X9_costing : MV yX9_costing 9 := ⟨tb3 (List.mem_of_getElem? (i := 204) (by decide +kernel)) rfl, tb3 (List.mem_of_getElem? (i := 205) (by decide +kernel)) rfl, by decide, TX9, 9, rfl⟩
theorem mi_X9_off : MI yX9_off cX9_off 4 (some .int) 1 := ⟨ini_X9, tb4 (List.mem_of_getElem? (i := 4) (by decide +kernel)) rfl, ⟨by decide +kernel, by decide +kernel, by decide +kernel⟩, by decide +kernel⟩
theorem mv_X9_off : MV yX9_off 9 := ⟨tb4 (List.mem_of_getElem? (i := 2) (by decide +kernel)) rfl, tb4 (List.mem_of_getElem? (i := 3) (by decide +kernel)) rfl, by decide, TX9, 9, rfl⟩
theorem mi_X9_burden : MI yX9_burden cX9_burden 5 (some .int) 2 := ⟨ini_X9, tb5 (List.mem_of_getElem? (i := 6) (by decide +kernel)) rfl, ⟨by decide +kernel, by decide +kernel, by decide +kernel⟩, by decide +kernel⟩
theorem mv_X9_burden : MV yX9_burden 9 := ⟨tb5 (List.mem_of_getElem? (i := 4) (by decide +kernel)) rfl, tb5 (List.mem_of_getElem? (i := 5) (by decide +kernel)) rfl, by decide, TX9, 9, rfl⟩
theorem mi_X9_unitsTogether : MI yX9_unitsTogether cX9_unitsTogether 4 (some .int) 1 := ⟨ini_X9, tb5 (List.mem_of_getElem? (i := 10) (by decide +kernel)) rfl, ⟨by decide +kernel, by decide +kernel, by decide +kernel⟩, by decide +kernel⟩
theorem mv_X9_unitsTogether : MV yX9_unitsTogether 9 := ⟨tb5 (List.mem_of_getElem? (i := 8) (by decide +kernel)) rfl, tb5 (List.mem_of_getElem? (i := 9) (by decide +kernel)) rfl, by decide, TX9, 9, rfl⟩
theorem mi_X10_init : MI yX10_init cX10_init 1 none 0 := ⟨ini_X10, tb1 (List.mem_of_getElem? (i := 79) (by decide +kernel)) rfl, ⟨by decide +kernel, by decide +kernel, by decide +kernel⟩, by decide +kernel⟩
theorem mn_X10_init : Cond.instanceMethod yX10_init ∈ WS := tb1 (List.mem_of_getElem? (i := 78) (by decide +kernel)) rfl
theorem mi_X10_begin : MI yX10_begin cX10_begin 3 none 1 := ⟨ini_X10, tb3 (List.mem_of_getElem? (i := 149) (by decide +kernel)) rfl, ⟨by decide +kernel, by decide +kernel, by decide +kernel⟩, by decide +kernel⟩
theorem mv_X10_begin : MV yX10_begin 10 := ⟨tb3 (List.mem_of_getElem? (i := 147) (by decide +kernel)) rfl, tb3 (List.mem_of_getElem? (i := 148) (by decide +kernel)) rfl, by decide, TX10, 6, rfl⟩
theorem mi_X10_copy : MI yX10_copy cX10_copy 2 none 1 := ⟨ini_X10, tb4 (List.mem_of_getElem? (i := 199) (by decide +kernel)) rfl, ⟨by decide +kernel, by decide +kernel, by decide +kernel⟩, by decide +kernel⟩
theorem mv_X10_copy : MV yX10_copy 10 := ⟨tb4 (List.mem_of_getElem? (i := 197) (by decide +kernel)) rfl, tb4 (List.mem_of_getElem? (i := 198) (by decide +kernel)) rfl, by decide, TX10, 6, rfl⟩
theorem mi_X10_rate : MI yX10_rate cX10_rate 1 (some .int) 0 := ⟨ini_X10, tb3 (List.mem_of_getElem? (i := 194) (by decide +kernel)) rfl, ⟨by decide +kernel, by decide +kernel, by decide +kernel⟩, by decide +kernel⟩
theorem mv_X10_rate : MV yX10_rate 10 := ⟨tb3 (List.mem_of_getElem? (i := 192) (by decide +kernel)) rfl, tb3 (List.mem_of_getElem? (i := 193) (by decide +kernel)) rfl, by decide, TX10, 6, rfl⟩
theorem mi_X10_weight : MI yX10_weight cX10_weight 3 (some .int) 2 := ⟨ini_X10, tb4 (List.mem_of_getElem? (i := 20) (by decide +kernel)) rfl, ⟨by decide +kernel, by decide +kernel, by decide +kernel⟩, by decide +kernel⟩
theorem mv_X10_weight : MV yX10_weight 10 := ⟨tb4 (List.mem_of_getElem? (i := 18) (by decide +kernel)) rfl, tb4 (List.mem_of_getElem? (i := 19) (by decide +kernel)) rfl, by decide, TX10, 6, rfl⟩
theorem mi_X10_weights : MI yX10_weights cX10_weights 2 (some .int) 1 := ⟨ini_X10, tb3 (List.mem_of_getElem? (i := 198) (by decide +kernel)) rfl, ⟨by decide +kernel, by decide +kernel, by decide +kernel⟩, by decide +kernel⟩
theorem mv_X10_weights : MV yX10_weights 10 := ⟨tb3 (List.mem_of_getElem? (i := 196) (by decide +kernel)) rfl, tb3 (List.mem_of_getElem? (i := 197) (by decide +kernel)) rfl, by decide, TX10, 6, rfl⟩
theorem mi_X10_duesOf : MI yX10_duesOf cX10_duesOf 3 (some .int) 2 := ⟨ini_X10, tb3 (List.mem_of_getElem? (i := 214) (by decide +kernel)) rfl, ⟨by decide +kernel, by decide +kernel, by decide +kernel⟩, by decide +kernel⟩
theorem mv_X10_duesOf : MV yX10_duesOf 10 := ⟨tb3 (List.mem_of_getElem? (i := 212) (by decide +kernel)) rfl, tb3 (List.mem_of_getElem? (i := 213) (by decide +kernel)) rfl, by decide, TX10, 6, rfl⟩
theorem mi_X10_dues : MI yX10_dues cX10_dues 4 (some .int) 1 := ⟨ini_X10, tb3 (List.mem_of_getElem? (i := 210) (by decide +kernel)) rfl, ⟨by decide +kernel, by decide +kernel, by decide +kernel⟩, by decide +kernel⟩
theorem mv_X10_dues : MV yX10_dues 10 := ⟨tb3 (List.mem_of_getElem? (i := 208) (by decide +kernel)) rfl, tb3 (List.mem_of_getElem? (i := 209) (by decide +kernel)) rfl, by decide, TX10, 6, rfl⟩
theorem mi_X10_allowedWith : MI yX10_allowedWith cX10_allowedWith 4 (some .int) 2 := ⟨ini_X10, tb3 (List.mem_of_getElem? (i := 224) (by decide +kernel)) rfl, ⟨by decide +kernel, by decide +kernel, by decide +kernel⟩, by decide +kernel⟩
theorem mv_X10_allowedWith : MV yX10_allowedWith 10 := ⟨tb3 (List.mem_of_getElem? (i := 222) (by decide +kernel)) rfl, tb3 (List.mem_of_getElem? (i := 223) (by decide +kernel)) rfl, by decide, TX10, 6, rfl⟩
theorem mi_X10_allowed : MI yX10_allowed cX10_allowed 2 (some .int) 1 := ⟨ini_X10, tb3 (List.mem_of_getElem? (i := 219) (by decide +kernel)) rfl, ⟨by decide +kernel, by decide +kernel, by decide +kernel⟩, by decide +kernel⟩
theorem mv_X10_allowed : MV yX10_allowed 10 := ⟨tb3 (List.mem_of_getElem? (i := 217) (by decide +kernel)) rfl, tb3 (List.mem_of_getElem? (i := 218) (by decide +kernel)) rfl, by decide, TX10, 6, rfl⟩
theorem mi_X10_spent : MI yX10_spent cX10_spent 2 (some .int) 1 := ⟨ini_X10, tb3 (List.mem_of_getElem? (i := 230) (by decide +kernel)) rfl, ⟨by decide +kernel, by decide +kernel, by decide +kernel⟩, by decide +kernel⟩
theorem mv_X10_spent : MV yX10_spent 10 := ⟨tb3 (List.mem_of_getElem? (i := 228) (by decide +kernel)) rfl, tb3 (List.mem_of_getElem? (i := 229) (by decide +kernel)) rfl, by decide, TX10, 6, rfl⟩
theorem mi_X10_spentWith : MI yX10_spentWith cX10_spentWith 4 (some .int) 3 := ⟨ini_X10, tb4 (List.mem_of_getElem? (i := 56) (by decide +kernel)) rfl, ⟨by decide +kernel, by decide +kernel, by decide +kernel⟩, by decide +kernel⟩
theorem mv_X10_spentWith : MV yX10_spentWith 10 := ⟨tb4 (List.mem_of_getElem? (i := 54) (by decide +kernel)) rfl, tb4 (List.mem_of_getElem? (i := 55) (by decide +kernel)) rfl, by decide, TX10, 6, rfl⟩
theorem mi_X10_left : MI yX10_left cX10_left 2 (some .int) 1 := ⟨ini_X10, tb3 (List.mem_of_getElem? (i := 238) (by decide +kernel)) rfl, ⟨by decide +kernel, by decide +kernel, by decide +kernel⟩, by decide +kernel⟩
theorem mv_X10_left : MV yX10_left 10 := ⟨tb3 (List.mem_of_getElem? (i := 236) (by decide +kernel)) rfl, tb3 (List.mem_of_getElem? (i := 237) (by decide +kernel)) rfl, by decide, TX10, 6, rfl⟩
theorem mi_X10_isKept : MI yX10_isKept cX10_isKept 2 (some .boolean) 1 := ⟨ini_X10, tb3 (List.mem_of_getElem? (i := 234) (by decide +kernel)) rfl, ⟨by decide +kernel, by decide +kernel, by decide +kernel⟩, by decide +kernel⟩
theorem mv_X10_isKept : MV yX10_isKept 10 := ⟨tb3 (List.mem_of_getElem? (i := 232) (by decide +kernel)) rfl, tb3 (List.mem_of_getElem? (i := 233) (by decide +kernel)) rfl, by decide, TX10, 6, rfl⟩
theorem mi_X10_end : MI yX10_end cX10_end 4 none 1 := ⟨ini_X10, tb4 (List.mem_of_getElem? (i := 204) (by decide +kernel)) rfl, ⟨by decide +kernel, by decide +kernel, by decide +kernel⟩, by decide +kernel⟩
theorem mv_X10_end : MV yX10_end 10 := ⟨tb4 (List.mem_of_getElem? (i := 202) (by decide +kernel)) rfl, tb4 (List.mem_of_getElem? (i := 203) (by decide +kernel)) rfl, by decide, TX10, 6, rfl⟩
theorem ml_L_19 : Cond.methodLink RL 19 yX11_init ∈ WS := tb1 (List.mem_of_getElem? (i := 26) (by decide +kernel)) rfl
theorem ml_X11_1 : Cond.methodLink RX11 1 objectInit ∈ WS := tb1 (List.mem_of_getElem? (i := 29) (by decide +kernel)) rfl
theorem ml_X6_3 : Cond.methodLink RX6 3 objectInit ∈ WS := tb1 (List.mem_of_getElem? (i := 37) (by decide +kernel)) rfl
theorem fl_X6_9 : Cond.fieldLink RX6 9 "BasketCap$Reader" "source" "[I" ∈ WS := tb1 (List.mem_of_getElem? (i := 38) (by decide +kernel)) rfl
theorem fl_X6_15 : Cond.fieldLink RX6 15 "BasketCap$Reader" "end" "I" ∈ WS := tb1 (List.mem_of_getElem? (i := 39) (by decide +kernel)) rfl
theorem fl_X6_19 : Cond.fieldLink RX6 19 "BasketCap$Reader" "at" "I" ∈ WS := tb1 (List.mem_of_getElem? (i := 40) (by decide +kernel)) rfl
theorem fl_X6_47 : Cond.fieldLink RX6 47 "BasketCap$Reader" "kind" "I" ∈ WS := tb1 (List.mem_of_getElem? (i := 41) (by decide +kernel)) rfl
theorem fl_X6_57 : Cond.fieldLink RX6 57 "BasketCap$Reader" "start" "I" ∈ WS := tb1 (List.mem_of_getElem? (i := 42) (by decide +kernel)) rfl
theorem fl_X6_76 : Cond.fieldLink RX6 76 "BasketCap$Reader" "whole" "I" ∈ WS := tb1 (List.mem_of_getElem? (i := 43) (by decide +kernel)) rfl
theorem fl_X6_72 : Cond.fieldLink RX6 72 "BasketCap$Reader" "word" "J" ∈ WS := tb1 (List.mem_of_getElem? (i := 44) (by decide +kernel)) rfl
theorem fl_X6_22 : Cond.fieldLink RX6 22 "BasketCap$Reader" "rulesSeen" "I" ∈ WS := tb1 (List.mem_of_getElem? (i := 45) (by decide +kernel)) rfl
theorem fl_X6_25 : Cond.fieldLink RX6 25 "BasketCap$Reader" "faultFound" "I" ∈ WS := tb1 (List.mem_of_getElem? (i := 46) (by decide +kernel)) rfl
theorem fl_X11_107 : Cond.fieldLink RX11 107 "BasketCap$Reader" "faultFound" "I" ∈ WS := tb1 (List.mem_of_getElem? (i := 47) (by decide +kernel)) rfl
theorem fl_X6_28 : Cond.fieldLink RX6 28 "BasketCap$Reader" "placeFound" "I" ∈ WS := tb1 (List.mem_of_getElem? (i := 48) (by decide +kernel)) rfl
theorem fl_X11_113 : Cond.fieldLink RX11 113 "BasketCap$Reader" "placeFound" "I" ∈ WS := tb1 (List.mem_of_getElem? (i := 49) (by decide +kernel)) rfl
theorem fl_X6_31 : Cond.fieldLink RX6 31 "BasketCap$Reader" "into" "LBasketCap$Told;" ∈ WS := tb1 (List.mem_of_getElem? (i := 50) (by decide +kernel)) rfl
theorem ml_X10_3 : Cond.methodLink RX10 3 objectInit ∈ WS := tb1 (List.mem_of_getElem? (i := 80) (by decide +kernel)) rfl
theorem fl_X0_15 : Cond.fieldLink RX0 15 "BasketCap$Year" "number" "I" ∈ WS := tb1 (List.mem_of_getElem? (i := 81) (by decide +kernel)) rfl
theorem fl_X10_24 : Cond.fieldLink RX10 24 "BasketCap$Year" "number" "I" ∈ WS := tb1 (List.mem_of_getElem? (i := 82) (by decide +kernel)) rfl
theorem fl_X3_31 : Cond.fieldLink RX3 31 "BasketCap$Year" "number" "I" ∈ WS := tb1 (List.mem_of_getElem? (i := 83) (by decide +kernel)) rfl
theorem fl_X11_135 : Cond.fieldLink RX11 135 "BasketCap$Year" "number" "I" ∈ WS := tb1 (List.mem_of_getElem? (i := 84) (by decide +kernel)) rfl
theorem fl_X10_28 : Cond.fieldLink RX10 28 "BasketCap$Year" "brought" "I" ∈ WS := tb1 (List.mem_of_getElem? (i := 85) (by decide +kernel)) rfl
theorem fl_X11_194 : Cond.fieldLink RX11 194 "BasketCap$Year" "brought" "I" ∈ WS := tb1 (List.mem_of_getElem? (i := 86) (by decide +kernel)) rfl
theorem fl_X10_9 : Cond.fieldLink RX10 9 "BasketCap$Year" "prices" "[I" ∈ WS := tb1 (List.mem_of_getElem? (i := 87) (by decide +kernel)) rfl
theorem fl_X8_74 : Cond.fieldLink RX8 74 "BasketCap$Year" "prices" "[I" ∈ WS := tb1 (List.mem_of_getElem? (i := 88) (by decide +kernel)) rfl
theorem fl_X4_57 : Cond.fieldLink RX4 57 "BasketCap$Year" "prices" "[I" ∈ WS := tb1 (List.mem_of_getElem? (i := 89) (by decide +kernel)) rfl
theorem fl_X2_68 : Cond.fieldLink RX2 68 "BasketCap$Year" "prices" "[I" ∈ WS := tb1 (List.mem_of_getElem? (i := 90) (by decide +kernel)) rfl
theorem fl_X11_146 : Cond.fieldLink RX11 146 "BasketCap$Year" "prices" "[I" ∈ WS := tb1 (List.mem_of_getElem? (i := 91) (by decide +kernel)) rfl
theorem fl_X10_15 : Cond.fieldLink RX10 15 "BasketCap$Year" "fresh" "[I" ∈ WS := tb1 (List.mem_of_getElem? (i := 92) (by decide +kernel)) rfl
theorem fl_X1_31 : Cond.fieldLink RX1 31 "BasketCap$Year" "fresh" "[I" ∈ WS := tb1 (List.mem_of_getElem? (i := 93) (by decide +kernel)) rfl
theorem fl_X0_33 : Cond.fieldLink RX0 33 "BasketCap$Year" "fresh" "[I" ∈ WS := tb1 (List.mem_of_getElem? (i := 94) (by decide +kernel)) rfl
theorem fl_X4_87 : Cond.fieldLink RX4 87 "BasketCap$Year" "fresh" "[I" ∈ WS := tb1 (List.mem_of_getElem? (i := 95) (by decide +kernel)) rfl
theorem fl_X11_173 : Cond.fieldLink RX11 173 "BasketCap$Year" "fresh" "[I" ∈ WS := tb1 (List.mem_of_getElem? (i := 96) (by decide +kernel)) rfl
theorem fl_X10_18 : Cond.fieldLink RX10 18 "BasketCap$Year" "grade" "[I" ∈ WS := tb1 (List.mem_of_getElem? (i := 97) (by decide +kernel)) rfl
theorem fl_X11_184 : Cond.fieldLink RX11 184 "BasketCap$Year" "grade" "[I" ∈ WS := tb1 (List.mem_of_getElem? (i := 98) (by decide +kernel)) rfl
theorem fl_X10_21 : Cond.fieldLink RX10 21 "BasketCap$Year" "rules" "[I" ∈ WS := tb1 (List.mem_of_getElem? (i := 99) (by decide +kernel)) rfl
theorem fl_X11_191 : Cond.fieldLink RX11 191 "BasketCap$Year" "rules" "[I" ∈ WS := tb1 (List.mem_of_getElem? (i := 100) (by decide +kernel)) rfl
theorem ml_X0_3 : Cond.methodLink RX0 3 objectInit ∈ WS := tb1 (List.mem_of_getElem? (i := 119) (by decide +kernel)) rfl
theorem fl_X0_11 : Cond.fieldLink RX0 11 "BasketCap$Book" "lines" "[I" ∈ WS := tb1 (List.mem_of_getElem? (i := 120) (by decide +kernel)) rfl
theorem ml_X11_36 : Cond.methodLink RX11 36 yX5_init ∈ WS := tb1 (List.mem_of_getElem? (i := 126) (by decide +kernel)) rfl
theorem ml_X5_1 : Cond.methodLink RX5 1 objectInit ∈ WS := tb1 (List.mem_of_getElem? (i := 129) (by decide +kernel)) rfl
theorem fl_X5_11 : Cond.fieldLink RX5 11 "BasketCap$Past" "ring" "[LBasketCap$Year;" ∈ WS := tb1 (List.mem_of_getElem? (i := 133) (by decide +kernel)) rfl
theorem fl_X5_20 : Cond.fieldLink RX5 20 "BasketCap$Past" "head" "I" ∈ WS := tb1 (List.mem_of_getElem? (i := 134) (by decide +kernel)) rfl
theorem fl_X5_16 : Cond.fieldLink RX5 16 "BasketCap$Past" "count" "I" ∈ WS := tb1 (List.mem_of_getElem? (i := 135) (by decide +kernel)) rfl
theorem fl_X11_166 : Cond.fieldLink RX11 166 "BasketCap$Past" "count" "I" ∈ WS := tb1 (List.mem_of_getElem? (i := 136) (by decide +kernel)) rfl
theorem ml_X8_5 : Cond.methodLink RX8 5 objectInit ∈ WS := tb1 (List.mem_of_getElem? (i := 151) (by decide +kernel)) rfl
theorem fl_X8_51 : Cond.fieldLink RX8 51 "BasketCap$Search" "services" "I" ∈ WS := tb1 (List.mem_of_getElem? (i := 152) (by decide +kernel)) rfl
theorem fl_X8_52 : Cond.fieldLink RX8 52 "BasketCap$Search" "lines" "I" ∈ WS := tb1 (List.mem_of_getElem? (i := 153) (by decide +kernel)) rfl
theorem fl_X8_11 : Cond.fieldLink RX8 11 "BasketCap$Search" "load" "[I" ∈ WS := tb1 (List.mem_of_getElem? (i := 154) (by decide +kernel)) rfl
theorem fl_X8_15 : Cond.fieldLink RX8 15 "BasketCap$Search" "room" "[I" ∈ WS := tb1 (List.mem_of_getElem? (i := 155) (by decide +kernel)) rfl
theorem fl_X8_18 : Cond.fieldLink RX8 18 "BasketCap$Search" "low" "[I" ∈ WS := tb1 (List.mem_of_getElem? (i := 156) (by decide +kernel)) rfl
theorem fl_X8_21 : Cond.fieldLink RX8 21 "BasketCap$Search" "high" "[I" ∈ WS := tb1 (List.mem_of_getElem? (i := 157) (by decide +kernel)) rfl
theorem fl_X8_24 : Cond.fieldLink RX8 24 "BasketCap$Search" "stairs" "[I" ∈ WS := tb1 (List.mem_of_getElem? (i := 158) (by decide +kernel)) rfl
theorem fl_X8_27 : Cond.fieldLink RX8 27 "BasketCap$Search" "rise" "[I" ∈ WS := tb1 (List.mem_of_getElem? (i := 159) (by decide +kernel)) rfl
theorem fl_X8_30 : Cond.fieldLink RX8 30 "BasketCap$Search" "worth" "[I" ∈ WS := tb1 (List.mem_of_getElem? (i := 160) (by decide +kernel)) rfl
theorem fl_X8_33 : Cond.fieldLink RX8 33 "BasketCap$Search" "under" "[I" ∈ WS := tb1 (List.mem_of_getElem? (i := 161) (by decide +kernel)) rfl
theorem fl_X8_36 : Cond.fieldLink RX8 36 "BasketCap$Search" "pick" "[I" ∈ WS := tb1 (List.mem_of_getElem? (i := 162) (by decide +kernel)) rfl
theorem fl_X8_39 : Cond.fieldLink RX8 39 "BasketCap$Search" "found" "[I" ∈ WS := tb1 (List.mem_of_getElem? (i := 163) (by decide +kernel)) rfl
theorem fl_X8_42 : Cond.fieldLink RX8 42 "BasketCap$Search" "rest" "[I" ∈ WS := tb1 (List.mem_of_getElem? (i := 164) (by decide +kernel)) rfl
theorem fl_X8_112 : Cond.fieldLink RX8 112 "BasketCap$Search" "toll" "I" ∈ WS := tb1 (List.mem_of_getElem? (i := 165) (by decide +kernel)) rfl
theorem fl_X8_122 : Cond.fieldLink RX8 122 "BasketCap$Search" "greatest" "I" ∈ WS := tb1 (List.mem_of_getElem? (i := 166) (by decide +kernel)) rfl
theorem ml_X11_56 : Cond.methodLink RX11 56 yX2_init ∈ WS := tb1 (List.mem_of_getElem? (i := 200) (by decide +kernel)) rfl
theorem ml_X2_3 : Cond.methodLink RX2 3 objectInit ∈ WS := tb1 (List.mem_of_getElem? (i := 203) (by decide +kernel)) rfl
theorem ml_X7_3 : Cond.methodLink RX7 3 objectInit ∈ WS := tb1 (List.mem_of_getElem? (i := 209) (by decide +kernel)) rfl
theorem fl_X2_31 : Cond.fieldLink RX2 31 "BasketCap$Row" "known" "Z" ∈ WS := tb1 (List.mem_of_getElem? (i := 210) (by decide +kernel)) rfl
theorem fl_X8_84 : Cond.fieldLink RX8 84 "BasketCap$Row" "known" "Z" ∈ WS := tb1 (List.mem_of_getElem? (i := 211) (by decide +kernel)) rfl
theorem fl_X8_94 : Cond.fieldLink RX8 94 "BasketCap$Row" "there" "Z" ∈ WS := tb1 (List.mem_of_getElem? (i := 212) (by decide +kernel)) rfl
theorem fl_X11_282 : Cond.fieldLink RX11 282 "BasketCap$Row" "there" "Z" ∈ WS := tb1 (List.mem_of_getElem? (i := 213) (by decide +kernel)) rfl
theorem fl_X4_94 : Cond.fieldLink RX4 94 "BasketCap$Row" "worth" "I" ∈ WS := tb1 (List.mem_of_getElem? (i := 214) (by decide +kernel)) rfl
theorem fl_X8_125 : Cond.fieldLink RX8 125 "BasketCap$Row" "worth" "I" ∈ WS := tb1 (List.mem_of_getElem? (i := 215) (by decide +kernel)) rfl
theorem fl_X11_287 : Cond.fieldLink RX11 287 "BasketCap$Row" "worth" "I" ∈ WS := tb1 (List.mem_of_getElem? (i := 216) (by decide +kernel)) rfl
theorem fl_X7_9 : Cond.fieldLink RX7 9 "BasketCap$Row" "prices" "[I" ∈ WS := tb1 (List.mem_of_getElem? (i := 217) (by decide +kernel)) rfl
theorem fl_X4_86 : Cond.fieldLink RX4 86 "BasketCap$Row" "prices" "[I" ∈ WS := tb1 (List.mem_of_getElem? (i := 218) (by decide +kernel)) rfl
theorem fl_X8_127 : Cond.fieldLink RX8 127 "BasketCap$Row" "prices" "[I" ∈ WS := tb1 (List.mem_of_getElem? (i := 219) (by decide +kernel)) rfl
theorem fl_X11_290 : Cond.fieldLink RX11 290 "BasketCap$Row" "prices" "[I" ∈ WS := tb1 (List.mem_of_getElem? (i := 220) (by decide +kernel)) rfl
theorem fl_X2_27 : Cond.fieldLink RX2 27 "BasketCap$Finder" "search" "LBasketCap$Search;" ∈ WS := tb1 (List.mem_of_getElem? (i := 230) (by decide +kernel)) rfl
theorem fl_X2_12 : Cond.fieldLink RX2 12 "BasketCap$Finder" "best" "LBasketCap$Row;" ∈ WS := tb1 (List.mem_of_getElem? (i := 231) (by decide +kernel)) rfl
theorem fl_X2_18 : Cond.fieldLink RX2 18 "BasketCap$Finder" "fair" "LBasketCap$Row;" ∈ WS := tb1 (List.mem_of_getElem? (i := 232) (by decide +kernel)) rfl
theorem fl_X2_21 : Cond.fieldLink RX2 21 "BasketCap$Finder" "gentle" "LBasketCap$Row;" ∈ WS := tb1 (List.mem_of_getElem? (i := 233) (by decide +kernel)) rfl
theorem fl_X2_24 : Cond.fieldLink RX2 24 "BasketCap$Finder" "steady" "LBasketCap$Row;" ∈ WS := tb1 (List.mem_of_getElem? (i := 234) (by decide +kernel)) rfl
theorem fl_X2_65 : Cond.fieldLink RX2 65 "BasketCap$Finder" "steadyBy" "I" ∈ WS := tb1 (List.mem_of_getElem? (i := 235) (by decide +kernel)) rfl
theorem fl_X2_35 : Cond.fieldLink RX2 35 "BasketCap$Finder" "counted" "I" ∈ WS := tb1 (List.mem_of_getElem? (i := 236) (by decide +kernel)) rfl
theorem ml_X11_65 : Cond.methodLink RX11 65 yX4_init ∈ WS := tb2 (List.mem_of_getElem? (i := 14) (by decide +kernel)) rfl
theorem ml_X4_3 : Cond.methodLink RX4 3 objectInit ∈ WS := tb2 (List.mem_of_getElem? (i := 17) (by decide +kernel)) rfl
theorem fl_X4_35 : Cond.fieldLink RX4 35 "BasketCap$Paper" "search" "LBasketCap$Search;" ∈ WS := tb2 (List.mem_of_getElem? (i := 22) (by decide +kernel)) rfl
theorem fl_X4_12 : Cond.fieldLink RX4 12 "BasketCap$Paper" "row" "LBasketCap$Row;" ∈ WS := tb2 (List.mem_of_getElem? (i := 23) (by decide +kernel)) rfl
theorem fl_X4_21 : Cond.fieldLink RX4 21 "BasketCap$Paper" "ahead" "LBasketCap$Year;" ∈ WS := tb2 (List.mem_of_getElem? (i := 24) (by decide +kernel)) rfl
theorem fl_X4_25 : Cond.fieldLink RX4 25 "BasketCap$Paper" "trial" "LBasketCap$Year;" ∈ WS := tb2 (List.mem_of_getElem? (i := 25) (by decide +kernel)) rfl
theorem fl_X4_28 : Cond.fieldLink RX4 28 "BasketCap$Paper" "walked" "[I" ∈ WS := tb2 (List.mem_of_getElem? (i := 26) (by decide +kernel)) rfl
theorem fl_X11_250 : Cond.fieldLink RX11 250 "BasketCap$Paper" "walked" "[I" ∈ WS := tb2 (List.mem_of_getElem? (i := 27) (by decide +kernel)) rfl
theorem fl_X4_32 : Cond.fieldLink RX4 32 "BasketCap$Paper" "played" "[I" ∈ WS := tb2 (List.mem_of_getElem? (i := 28) (by decide +kernel)) rfl
theorem fl_X11_243 : Cond.fieldLink RX11 243 "BasketCap$Paper" "played" "[I" ∈ WS := tb2 (List.mem_of_getElem? (i := 29) (by decide +kernel)) rfl
theorem fl_X4_49 : Cond.fieldLink RX4 49 "BasketCap$Paper" "years" "I" ∈ WS := tb2 (List.mem_of_getElem? (i := 30) (by decide +kernel)) rfl
theorem fl_X4_39 : Cond.fieldLink RX4 39 "BasketCap$Paper" "gameKnown" "Z" ∈ WS := tb2 (List.mem_of_getElem? (i := 31) (by decide +kernel)) rfl
theorem fl_X4_107 : Cond.fieldLink RX4 107 "BasketCap$Paper" "gameThere" "Z" ∈ WS := tb2 (List.mem_of_getElem? (i := 32) (by decide +kernel)) rfl
theorem fl_X4_43 : Cond.fieldLink RX4 43 "BasketCap$Paper" "nextKnown" "Z" ∈ WS := tb2 (List.mem_of_getElem? (i := 33) (by decide +kernel)) rfl
theorem fl_X4_104 : Cond.fieldLink RX4 104 "BasketCap$Paper" "nextFound" "I" ∈ WS := tb2 (List.mem_of_getElem? (i := 34) (by decide +kernel)) rfl
theorem ml_X1_3 : Cond.methodLink RX1 3 objectInit ∈ WS := tb2 (List.mem_of_getElem? (i := 63) (by decide +kernel)) rfl
theorem fl_X1_9 : Cond.fieldLink RX1 9 "BasketCap$Deal" "made" "[I" ∈ WS := tb2 (List.mem_of_getElem? (i := 64) (by decide +kernel)) rfl
theorem fl_X11_298 : Cond.fieldLink RX11 298 "BasketCap$Deal" "made" "[I" ∈ WS := tb2 (List.mem_of_getElem? (i := 65) (by decide +kernel)) rfl
theorem fl_X1_15 : Cond.fieldLink RX1 15 "BasketCap$Deal" "there" "Z" ∈ WS := tb2 (List.mem_of_getElem? (i := 66) (by decide +kernel)) rfl
theorem ml_X9_3 : Cond.methodLink RX9 3 objectInit ∈ WS := tb2 (List.mem_of_getElem? (i := 77) (by decide +kernel)) rfl
theorem fl_X9_34 : Cond.fieldLink RX9 34 "BasketCap$Told" "services" "I" ∈ WS := tb2 (List.mem_of_getElem? (i := 78) (by decide +kernel)) rfl
theorem fl_X8_45 : Cond.fieldLink RX8 45 "BasketCap$Told" "services" "I" ∈ WS := tb2 (List.mem_of_getElem? (i := 79) (by decide +kernel)) rfl
theorem fl_X1_25 : Cond.fieldLink RX1 25 "BasketCap$Told" "services" "I" ∈ WS := tb2 (List.mem_of_getElem? (i := 80) (by decide +kernel)) rfl
theorem fl_X6_54 : Cond.fieldLink RX6 54 "BasketCap$Told" "services" "I" ∈ WS := tb2 (List.mem_of_getElem? (i := 81) (by decide +kernel)) rfl
theorem fl_X11_122 : Cond.fieldLink RX11 122 "BasketCap$Told" "services" "I" ∈ WS := tb2 (List.mem_of_getElem? (i := 82) (by decide +kernel)) rfl
theorem fl_X4_83 : Cond.fieldLink RX4 83 "BasketCap$Told" "services" "I" ∈ WS := tb2 (List.mem_of_getElem? (i := 83) (by decide +kernel)) rfl
theorem fl_X10_56 : Cond.fieldLink RX10 56 "BasketCap$Told" "services" "I" ∈ WS := tb2 (List.mem_of_getElem? (i := 84) (by decide +kernel)) rfl
theorem fl_X9_38 : Cond.fieldLink RX9 38 "BasketCap$Told" "buyers" "I" ∈ WS := tb2 (List.mem_of_getElem? (i := 85) (by decide +kernel)) rfl
theorem fl_X2_58 : Cond.fieldLink RX2 58 "BasketCap$Told" "buyers" "I" ∈ WS := tb2 (List.mem_of_getElem? (i := 86) (by decide +kernel)) rfl
theorem fl_X6_133 : Cond.fieldLink RX6 133 "BasketCap$Told" "buyers" "I" ∈ WS := tb2 (List.mem_of_getElem? (i := 87) (by decide +kernel)) rfl
theorem fl_X11_266 : Cond.fieldLink RX11 266 "BasketCap$Told" "buyers" "I" ∈ WS := tb2 (List.mem_of_getElem? (i := 88) (by decide +kernel)) rfl
theorem fl_X9_11 : Cond.fieldLink RX9 11 "BasketCap$Told" "names" "[J" ∈ WS := tb2 (List.mem_of_getElem? (i := 89) (by decide +kernel)) rfl
theorem fl_X6_169 : Cond.fieldLink RX6 169 "BasketCap$Told" "names" "[J" ∈ WS := tb2 (List.mem_of_getElem? (i := 90) (by decide +kernel)) rfl
theorem fl_X11_363 : Cond.fieldLink RX11 363 "BasketCap$Told" "names" "[J" ∈ WS := tb2 (List.mem_of_getElem? (i := 91) (by decide +kernel)) rfl
theorem fl_X9_15 : Cond.fieldLink RX9 15 "BasketCap$Told" "values" "[I" ∈ WS := tb2 (List.mem_of_getElem? (i := 92) (by decide +kernel)) rfl
theorem fl_X6_150 : Cond.fieldLink RX6 150 "BasketCap$Told" "values" "[I" ∈ WS := tb2 (List.mem_of_getElem? (i := 93) (by decide +kernel)) rfl
theorem fl_X9_19 : Cond.fieldLink RX9 19 "BasketCap$Told" "wants" "[I" ∈ WS := tb2 (List.mem_of_getElem? (i := 94) (by decide +kernel)) rfl
theorem fl_X8_71 : Cond.fieldLink RX8 71 "BasketCap$Told" "wants" "[I" ∈ WS := tb2 (List.mem_of_getElem? (i := 95) (by decide +kernel)) rfl
theorem fl_X6_153 : Cond.fieldLink RX6 153 "BasketCap$Told" "wants" "[I" ∈ WS := tb2 (List.mem_of_getElem? (i := 96) (by decide +kernel)) rfl
theorem fl_X11_263 : Cond.fieldLink RX11 263 "BasketCap$Told" "wants" "[I" ∈ WS := tb2 (List.mem_of_getElem? (i := 97) (by decide +kernel)) rfl
theorem fl_X9_22 : Cond.fieldLink RX9 22 "BasketCap$Told" "rules" "[I" ∈ WS := tb2 (List.mem_of_getElem? (i := 98) (by decide +kernel)) rfl
theorem fl_X10_37 : Cond.fieldLink RX10 37 "BasketCap$Told" "rules" "[I" ∈ WS := tb2 (List.mem_of_getElem? (i := 99) (by decide +kernel)) rfl
theorem fl_X6_159 : Cond.fieldLink RX6 159 "BasketCap$Told" "rules" "[I" ∈ WS := tb2 (List.mem_of_getElem? (i := 100) (by decide +kernel)) rfl
theorem fl_X9_25 : Cond.fieldLink RX9 25 "BasketCap$Told" "boughtAt" "[I" ∈ WS := tb2 (List.mem_of_getElem? (i := 101) (by decide +kernel)) rfl
theorem fl_X10_44 : Cond.fieldLink RX10 44 "BasketCap$Told" "boughtAt" "[I" ∈ WS := tb2 (List.mem_of_getElem? (i := 102) (by decide +kernel)) rfl
theorem fl_X11_200 : Cond.fieldLink RX11 200 "BasketCap$Told" "boughtAt" "[I" ∈ WS := tb2 (List.mem_of_getElem? (i := 103) (by decide +kernel)) rfl
theorem fl_X9_28 : Cond.fieldLink RX9 28 "BasketCap$Told" "profitAt" "[I" ∈ WS := tb2 (List.mem_of_getElem? (i := 104) (by decide +kernel)) rfl
theorem fl_X0_28 : Cond.fieldLink RX0 28 "BasketCap$Told" "profitAt" "[I" ∈ WS := tb2 (List.mem_of_getElem? (i := 105) (by decide +kernel)) rfl
theorem fl_X2_45 : Cond.fieldLink RX2 45 "BasketCap$Told" "profitAt" "[I" ∈ WS := tb2 (List.mem_of_getElem? (i := 106) (by decide +kernel)) rfl
theorem fl_X1_46 : Cond.fieldLink RX1 46 "BasketCap$Told" "profitAt" "[I" ∈ WS := tb2 (List.mem_of_getElem? (i := 107) (by decide +kernel)) rfl
theorem fl_X4_76 : Cond.fieldLink RX4 76 "BasketCap$Told" "profitAt" "[I" ∈ WS := tb2 (List.mem_of_getElem? (i := 108) (by decide +kernel)) rfl
theorem fl_X11_207 : Cond.fieldLink RX11 207 "BasketCap$Told" "profitAt" "[I" ∈ WS := tb2 (List.mem_of_getElem? (i := 109) (by decide +kernel)) rfl
theorem fl_X9_31 : Cond.fieldLink RX9 31 "BasketCap$Told" "goodAt" "[I" ∈ WS := tb2 (List.mem_of_getElem? (i := 110) (by decide +kernel)) rfl
theorem fl_X0_40 : Cond.fieldLink RX0 40 "BasketCap$Told" "goodAt" "[I" ∈ WS := tb2 (List.mem_of_getElem? (i := 111) (by decide +kernel)) rfl
theorem fl_X2_55 : Cond.fieldLink RX2 55 "BasketCap$Told" "goodAt" "[I" ∈ WS := tb2 (List.mem_of_getElem? (i := 112) (by decide +kernel)) rfl
theorem fl_X4_97 : Cond.fieldLink RX4 97 "BasketCap$Told" "goodAt" "[I" ∈ WS := tb2 (List.mem_of_getElem? (i := 113) (by decide +kernel)) rfl
theorem fl_X11_210 : Cond.fieldLink RX11 210 "BasketCap$Told" "goodAt" "[I" ∈ WS := tb2 (List.mem_of_getElem? (i := 114) (by decide +kernel)) rfl
theorem ml_X3_1 : Cond.methodLink RX3 1 objectInit ∈ WS := tb2 (List.mem_of_getElem? (i := 139) (by decide +kernel)) rfl
theorem fl_X3_23 : Cond.fieldLink RX3 23 "BasketCap$Image" "there" "Z" ∈ WS := tb2 (List.mem_of_getElem? (i := 144) (by decide +kernel)) rfl
theorem fl_X11_353 : Cond.fieldLink RX11 353 "BasketCap$Image" "there" "Z" ∈ WS := tb2 (List.mem_of_getElem? (i := 145) (by decide +kernel)) rfl
theorem fl_X3_10 : Cond.fieldLink RX3 10 "BasketCap$Image" "year" "LBasketCap$Year;" ∈ WS := tb2 (List.mem_of_getElem? (i := 146) (by decide +kernel)) rfl
theorem fl_X3_19 : Cond.fieldLink RX3 19 "BasketCap$Image" "book" "LBasketCap$Book;" ∈ WS := tb2 (List.mem_of_getElem? (i := 147) (by decide +kernel)) rfl
theorem fl_X11_9 : Cond.fieldLink RX11 9 "BasketCap" "tape" "[I" ∈ WS := tb2 (List.mem_of_getElem? (i := 155) (by decide +kernel)) rfl
theorem fl_X11_16 : Cond.fieldLink RX11 16 "BasketCap" "reader" "LBasketCap$Reader;" ∈ WS := tb2 (List.mem_of_getElem? (i := 156) (by decide +kernel)) rfl
theorem fl_X11_23 : Cond.fieldLink RX11 23 "BasketCap" "now" "LBasketCap$Year;" ∈ WS := tb2 (List.mem_of_getElem? (i := 157) (by decide +kernel)) rfl
theorem fl_X11_30 : Cond.fieldLink RX11 30 "BasketCap" "ended" "LBasketCap$Book;" ∈ WS := tb2 (List.mem_of_getElem? (i := 158) (by decide +kernel)) rfl
theorem fl_X11_37 : Cond.fieldLink RX11 37 "BasketCap" "past" "LBasketCap$Past;" ∈ WS := tb2 (List.mem_of_getElem? (i := 159) (by decide +kernel)) rfl
theorem fl_X11_43 : Cond.fieldLink RX11 43 "BasketCap" "images" "[LBasketCap$Image;" ∈ WS := tb2 (List.mem_of_getElem? (i := 160) (by decide +kernel)) rfl
theorem fl_X11_50 : Cond.fieldLink RX11 50 "BasketCap" "search" "LBasketCap$Search;" ∈ WS := tb2 (List.mem_of_getElem? (i := 161) (by decide +kernel)) rfl
theorem fl_X11_59 : Cond.fieldLink RX11 59 "BasketCap" "finder" "LBasketCap$Finder;" ∈ WS := tb2 (List.mem_of_getElem? (i := 162) (by decide +kernel)) rfl
theorem fl_X11_66 : Cond.fieldLink RX11 66 "BasketCap" "paper" "LBasketCap$Paper;" ∈ WS := tb2 (List.mem_of_getElem? (i := 163) (by decide +kernel)) rfl
theorem fl_X11_73 : Cond.fieldLink RX11 73 "BasketCap" "deal" "LBasketCap$Deal;" ∈ WS := tb2 (List.mem_of_getElem? (i := 164) (by decide +kernel)) rfl
theorem fl_X11_77 : Cond.fieldLink RX11 77 "BasketCap" "written" "[I" ∈ WS := tb2 (List.mem_of_getElem? (i := 165) (by decide +kernel)) rfl
theorem fl_X11_83 : Cond.fieldLink RX11 83 "BasketCap" "told" "LBasketCap$Told;" ∈ WS := tb2 (List.mem_of_getElem? (i := 166) (by decide +kernel)) rfl
theorem fl_X11_87 : Cond.fieldLink RX11 87 "BasketCap" "spare" "LBasketCap$Told;" ∈ WS := tb2 (List.mem_of_getElem? (i := 167) (by decide +kernel)) rfl
theorem fl_X11_131 : Cond.fieldLink RX11 131 "BasketCap" "loaded" "Z" ∈ WS := tb2 (List.mem_of_getElem? (i := 168) (by decide +kernel)) rfl
theorem fl_X11_91 : Cond.fieldLink RX11 91 "BasketCap" "tapeLength" "I" ∈ WS := tb2 (List.mem_of_getElem? (i := 169) (by decide +kernel)) rfl
theorem fl_X11_310 : Cond.fieldLink RX11 310 "BasketCap" "writtenLength" "I" ∈ WS := tb2 (List.mem_of_getElem? (i := 170) (by decide +kernel)) rfl
theorem fl_X11_110 : Cond.fieldLink RX11 110 "BasketCap" "faultNow" "I" ∈ WS := tb2 (List.mem_of_getElem? (i := 171) (by decide +kernel)) rfl
theorem fl_X11_116 : Cond.fieldLink RX11 116 "BasketCap" "placeNow" "I" ∈ WS := tb2 (List.mem_of_getElem? (i := 172) (by decide +kernel)) rfl
theorem fl_X11_128 : Cond.fieldLink RX11 128 "BasketCap" "troubleNow" "I" ∈ WS := tb2 (List.mem_of_getElem? (i := 173) (by decide +kernel)) rfl
theorem ml_L_23 : Cond.methodLink RL 23 yX11_feed ∈ WS := tb2 (List.mem_of_getElem? (i := 213) (by decide +kernel)) rfl
theorem ml_X11_95 : Cond.methodLink RX11 95 yX11_putNumber ∈ WS := tb2 (List.mem_of_getElem? (i := 217) (by decide +kernel)) rfl
theorem ml_L_28 : Cond.methodLink RL 28 yX11_text ∈ WS := tb2 (List.mem_of_getElem? (i := 221) (by decide +kernel)) rfl
theorem ml_X11_99 : Cond.methodLink RX11 99 yX11_refuse ∈ WS := tb2 (List.mem_of_getElem? (i := 225) (by decide +kernel)) rfl
theorem ml_X11_103 : Cond.methodLink RX11 103 yX6_readText ∈ WS := tb2 (List.mem_of_getElem? (i := 229) (by decide +kernel)) rfl
theorem ml_X6_35 : Cond.methodLink RX6 35 yX9_clear ∈ WS := tb2 (List.mem_of_getElem? (i := 233) (by decide +kernel)) rfl
theorem ml_X6_40 : Cond.methodLink RX6 40 yX6_advance ∈ WS := tb2 (List.mem_of_getElem? (i := 237) (by decide +kernel)) rfl
theorem ml_X6_60 : Cond.methodLink RX6 60 yX6_isLetter ∈ WS := tb3 (List.mem_of_getElem? (i := 1) (by decide +kernel)) rfl
theorem ml_X6_63 : Cond.methodLink RX6 63 yX6_takeWord ∈ WS := tb3 (List.mem_of_getElem? (i := 4) (by decide +kernel)) rfl
theorem ml_X6_66 : Cond.methodLink RX6 66 yX6_isDigit ∈ WS := tb3 (List.mem_of_getElem? (i := 8) (by decide +kernel)) rfl
theorem ml_X6_69 : Cond.methodLink RX6 69 yX6_takeWhole ∈ WS := tb3 (List.mem_of_getElem? (i := 11) (by decide +kernel)) rfl
theorem ml_X6_43 : Cond.methodLink RX6 43 yX6_readLine ∈ WS := tb3 (List.mem_of_getElem? (i := 15) (by decide +kernel)) rfl
theorem ml_X6_111 : Cond.methodLink RX6 111 yX6_isWord ∈ WS := tb3 (List.mem_of_getElem? (i := 20) (by decide +kernel)) rfl
theorem ml_X6_79 : Cond.methodLink RX6 79 yJ0_length_8abf5 ∈ WS := tb3 (List.mem_of_getElem? (i := 24) (by decide +kernel)) rfl
theorem ml_X6_85 : Cond.methodLink RX6 85 yJ0_charAt_5068e ∈ WS := tb3 (List.mem_of_getElem? (i := 34) (by decide +kernel)) rfl
theorem ml_X6_124 : Cond.methodLink RX6 124 yX6_readService ∈ WS := tb3 (List.mem_of_getElem? (i := 72) (by decide +kernel)) rfl
theorem ml_X6_50 : Cond.methodLink RX6 50 yX6_fail ∈ WS := tb3 (List.mem_of_getElem? (i := 76) (by decide +kernel)) rfl
theorem ml_X6_136 : Cond.methodLink RX6 136 yX6_readName ∈ WS := tb3 (List.mem_of_getElem? (i := 80) (by decide +kernel)) rfl
theorem ml_X6_162 : Cond.methodLink RX6 162 yX6_isReserved ∈ WS := tb3 (List.mem_of_getElem? (i := 84) (by decide +kernel)) rfl
theorem ml_X6_117 : Cond.methodLink RX6 117 yX6_wordOfRule ∈ WS := tb3 (List.mem_of_getElem? (i := 89) (by decide +kernel)) rfl
theorem ml_X6_121 : Cond.methodLink RX6 121 yX6_wordOfValue ∈ WS := tb3 (List.mem_of_getElem? (i := 96) (by decide +kernel)) rfl
theorem ml_X6_165 : Cond.methodLink RX6 165 yX9_hasName ∈ WS := tb3 (List.mem_of_getElem? (i := 105) (by decide +kernel)) rfl
theorem ml_X6_139 : Cond.methodLink RX6 139 yX6_readValues ∈ WS := tb3 (List.mem_of_getElem? (i := 109) (by decide +kernel)) rfl
theorem ml_X6_143 : Cond.methodLink RX6 143 yX9_mostOfValue ∈ WS := tb3 (List.mem_of_getElem? (i := 113) (by decide +kernel)) rfl
theorem ml_X6_147 : Cond.methodLink RX6 147 yX6_readWhole ∈ WS := tb3 (List.mem_of_getElem? (i := 116) (by decide +kernel)) rfl
theorem ml_X6_127 : Cond.methodLink RX6 127 yX6_readBuyer ∈ WS := tb3 (List.mem_of_getElem? (i := 120) (by decide +kernel)) rfl
theorem ml_X6_130 : Cond.methodLink RX6 130 yX6_readRule ∈ WS := tb3 (List.mem_of_getElem? (i := 124) (by decide +kernel)) rfl
theorem ml_X6_156 : Cond.methodLink RX6 156 yX9_mostOfRule ∈ WS := tb3 (List.mem_of_getElem? (i := 128) (by decide +kernel)) rfl
theorem ml_X11_119 : Cond.methodLink RX11 119 yX11_beginText ∈ WS := tb3 (List.mem_of_getElem? (i := 131) (by decide +kernel)) rfl
theorem ml_X11_375 : Cond.methodLink RX11 375 yX9_fillTables ∈ WS := tb3 (List.mem_of_getElem? (i := 135) (by decide +kernel)) rfl
theorem ml_X9_47 : Cond.methodLink RX9 47 yX9_valueOf ∈ WS := tb3 (List.mem_of_getElem? (i := 139) (by decide +kernel)) rfl
theorem ml_X9_51 : Cond.methodLink RX9 51 Lib.Math.max.name ∈ WS := tb3 (List.mem_of_getElem? (i := 143) (by decide +kernel)) rfl
theorem ml_X11_378 : Cond.methodLink RX11 378 yX10_begin ∈ WS := tb3 (List.mem_of_getElem? (i := 146) (by decide +kernel)) rfl
theorem ml_X10_33 : Cond.methodLink RX10 33 yX9_valueOf ∈ WS := tb3 (List.mem_of_getElem? (i := 150) (by decide +kernel)) rfl
theorem ml_X10_38 : Cond.methodLink RX10 38 arraycopyName ∈ WS := tb3 (List.mem_of_getElem? (i := 151) (by decide +kernel)) rfl
theorem ml_X11_357 : Cond.methodLink RX11 357 yX5_clear ∈ WS := tb3 (List.mem_of_getElem? (i := 154) (by decide +kernel)) rfl
theorem ml_X11_332 : Cond.methodLink RX11 332 yX11_forgetAll ∈ WS := tb3 (List.mem_of_getElem? (i := 158) (by decide +kernel)) rfl
theorem ml_X11_382 : Cond.methodLink RX11 382 yX2_forget ∈ WS := tb3 (List.mem_of_getElem? (i := 162) (by decide +kernel)) rfl
theorem ml_X11_385 : Cond.methodLink RX11 385 yX4_forgetAll ∈ WS := tb3 (List.mem_of_getElem? (i := 166) (by decide +kernel)) rfl
theorem ml_X4_46 : Cond.methodLink RX4 46 yX4_forgetFresh ∈ WS := tb3 (List.mem_of_getElem? (i := 170) (by decide +kernel)) rfl
theorem ml_X11_125 : Cond.methodLink RX11 125 yX11_answer ∈ WS := tb3 (List.mem_of_getElem? (i := 174) (by decide +kernel)) rfl
theorem ml_L_32 : Cond.methodLink RL 32 yX11_fault ∈ WS := tb3 (List.mem_of_getElem? (i := 179) (by decide +kernel)) rfl
theorem ml_L_37 : Cond.methodLink RL 37 yX11_where ∈ WS := tb3 (List.mem_of_getElem? (i := 183) (by decide +kernel)) rfl
theorem ml_L_41 : Cond.methodLink RL 41 yX11_about ∈ WS := tb3 (List.mem_of_getElem? (i := 187) (by decide +kernel)) rfl
theorem ml_X11_138 : Cond.methodLink RX11 138 yX10_rate ∈ WS := tb3 (List.mem_of_getElem? (i := 191) (by decide +kernel)) rfl
theorem ml_X11_142 : Cond.methodLink RX11 142 yX10_weights ∈ WS := tb3 (List.mem_of_getElem? (i := 195) (by decide +kernel)) rfl
theorem ml_X10_47 : Cond.methodLink RX10 47 yX9_together ∈ WS := tb3 (List.mem_of_getElem? (i := 199) (by decide +kernel)) rfl
theorem ml_X11_149 : Cond.methodLink RX11 149 yX9_costing ∈ WS := tb3 (List.mem_of_getElem? (i := 203) (by decide +kernel)) rfl
theorem ml_X11_153 : Cond.methodLink RX11 153 yX10_dues ∈ WS := tb3 (List.mem_of_getElem? (i := 207) (by decide +kernel)) rfl
theorem ml_X10_59 : Cond.methodLink RX10 59 yX10_duesOf ∈ WS := tb3 (List.mem_of_getElem? (i := 211) (by decide +kernel)) rfl
theorem ml_X10_51 : Cond.methodLink RX10 51 Lib.Math.max.name ∈ WS := tb3 (List.mem_of_getElem? (i := 215) (by decide +kernel)) rfl
theorem ml_X11_156 : Cond.methodLink RX11 156 yX10_allowed ∈ WS := tb3 (List.mem_of_getElem? (i := 216) (by decide +kernel)) rfl
theorem ml_X10_70 : Cond.methodLink RX10 70 yX10_dues ∈ WS := tb3 (List.mem_of_getElem? (i := 220) (by decide +kernel)) rfl
theorem ml_X10_74 : Cond.methodLink RX10 74 yX10_allowedWith ∈ WS := tb3 (List.mem_of_getElem? (i := 221) (by decide +kernel)) rfl
theorem ml_X10_63 : Cond.methodLink RX10 63 yX9_costing ∈ WS := tb3 (List.mem_of_getElem? (i := 225) (by decide +kernel)) rfl
theorem ml_X10_66 : Cond.methodLink RX10 66 yX10_rate ∈ WS := tb3 (List.mem_of_getElem? (i := 226) (by decide +kernel)) rfl
theorem ml_X11_159 : Cond.methodLink RX11 159 yX10_spent ∈ WS := tb3 (List.mem_of_getElem? (i := 227) (by decide +kernel)) rfl
theorem ml_X11_162 : Cond.methodLink RX11 162 yX10_isKept ∈ WS := tb3 (List.mem_of_getElem? (i := 231) (by decide +kernel)) rfl
theorem ml_X10_86 : Cond.methodLink RX10 86 yX10_left ∈ WS := tb3 (List.mem_of_getElem? (i := 235) (by decide +kernel)) rfl
theorem ml_X10_83 : Cond.methodLink RX10 83 yX10_allowed ∈ WS := tb3 (List.mem_of_getElem? (i := 239) (by decide +kernel)) rfl
theorem ml_X10_77 : Cond.methodLink RX10 77 yX10_spent ∈ WS := tb4 (List.mem_of_getElem? (i := 0) (by decide +kernel)) rfl
theorem ml_X11_169 : Cond.methodLink RX11 169 yX9_off ∈ WS := tb4 (List.mem_of_getElem? (i := 1) (by decide +kernel)) rfl
theorem ml_X9_56 : Cond.methodLink RX9 56 Lib.Math.abs.name ∈ WS := tb4 (List.mem_of_getElem? (i := 5) (by decide +kernel)) rfl
theorem ml_L_45 : Cond.methodLink RL 45 yX11_service ∈ WS := tb4 (List.mem_of_getElem? (i := 8) (by decide +kernel)) rfl
theorem ml_X11_176 : Cond.methodLink RX11 176 yX11_noService ∈ WS := tb4 (List.mem_of_getElem? (i := 12) (by decide +kernel)) rfl
theorem ml_X11_180 : Cond.methodLink RX11 180 yX9_valueOf ∈ WS := tb4 (List.mem_of_getElem? (i := 16) (by decide +kernel)) rfl
theorem ml_X11_187 : Cond.methodLink RX11 187 yX10_weight ∈ WS := tb4 (List.mem_of_getElem? (i := 17) (by decide +kernel)) rfl
theorem ml_L_49 : Cond.methodLink RL 49 yX11_rule ∈ WS := tb4 (List.mem_of_getElem? (i := 21) (by decide +kernel)) rfl
theorem ml_L_53 : Cond.methodLink RL 53 yX11_carried ∈ WS := tb4 (List.mem_of_getElem? (i := 25) (by decide +kernel)) rfl
theorem ml_X11_197 : Cond.methodLink RX11 197 yX10_left ∈ WS := tb4 (List.mem_of_getElem? (i := 29) (by decide +kernel)) rfl
theorem ml_L_57 : Cond.methodLink RL 57 yX11_bought ∈ WS := tb4 (List.mem_of_getElem? (i := 30) (by decide +kernel)) rfl
theorem ml_X11_203 : Cond.methodLink RX11 203 yX11_fromTable ∈ WS := tb4 (List.mem_of_getElem? (i := 34) (by decide +kernel)) rfl
theorem ml_X11_275 : Cond.methodLink RX11 275 yX11_noPrice ∈ WS := tb4 (List.mem_of_getElem? (i := 38) (by decide +kernel)) rfl
theorem ml_L_61 : Cond.methodLink RL 61 yX11_profit ∈ WS := tb4 (List.mem_of_getElem? (i := 41) (by decide +kernel)) rfl
theorem ml_L_65 : Cond.methodLink RL 65 yX11_good ∈ WS := tb4 (List.mem_of_getElem? (i := 45) (by decide +kernel)) rfl
theorem ml_L_69 : Cond.methodLink RL 69 yX11_most ∈ WS := tb4 (List.mem_of_getElem? (i := 49) (by decide +kernel)) rfl
theorem ml_X11_213 : Cond.methodLink RX11 213 yX10_spentWith ∈ WS := tb4 (List.mem_of_getElem? (i := 53) (by decide +kernel)) rfl
theorem ml_X10_80 : Cond.methodLink RX10 80 yX10_weight ∈ WS := tb4 (List.mem_of_getElem? (i := 57) (by decide +kernel)) rfl
theorem ml_L_73 : Cond.methodLink RL 73 yX11_free ∈ WS := tb4 (List.mem_of_getElem? (i := 58) (by decide +kernel)) rfl
theorem ml_X11_217 : Cond.methodLink RX11 217 yX9_freePrice ∈ WS := tb4 (List.mem_of_getElem? (i := 62) (by decide +kernel)) rfl
theorem ml_L_77 : Cond.methodLink RL 77 yX11_best ∈ WS := tb4 (List.mem_of_getElem? (i := 66) (by decide +kernel)) rfl
theorem ml_X11_220 : Cond.methodLink RX11 220 yX2_findBest ∈ WS := tb4 (List.mem_of_getElem? (i := 70) (by decide +kernel)) rfl
theorem ml_X2_39 : Cond.methodLink RX2 39 yX8_begin ∈ WS := tb4 (List.mem_of_getElem? (i := 74) (by decide +kernel)) rfl
theorem ml_X8_55 : Cond.methodLink RX8 55 yX10_weight ∈ WS := tb4 (List.mem_of_getElem? (i := 78) (by decide +kernel)) rfl
theorem ml_X8_61 : Cond.methodLink RX8 61 yX10_allowed ∈ WS := tb4 (List.mem_of_getElem? (i := 79) (by decide +kernel)) rfl
theorem ml_X8_65 : Cond.methodLink RX8 65 Lib.Math.min.name ∈ WS := tb4 (List.mem_of_getElem? (i := 80) (by decide +kernel)) rfl
theorem ml_X2_51 : Cond.methodLink RX2 51 yX8_find ∈ WS := tb4 (List.mem_of_getElem? (i := 83) (by decide +kernel)) rfl
theorem ml_X8_90 : Cond.methodLink RX8 90 yX8_prepare ∈ WS := tb4 (List.mem_of_getElem? (i := 87) (by decide +kernel)) rfl
theorem ml_X8_101 : Cond.methodLink RX8 101 yX8_takeLowest ∈ WS := tb4 (List.mem_of_getElem? (i := 91) (by decide +kernel)) rfl
theorem ml_X8_105 : Cond.methodLink RX8 105 yX8_setStairs ∈ WS := tb4 (List.mem_of_getElem? (i := 95) (by decide +kernel)) rfl
theorem ml_X8_109 : Cond.methodLink RX8 109 yX8_setToll ∈ WS := tb4 (List.mem_of_getElem? (i := 99) (by decide +kernel)) rfl
theorem ml_X8_128 : Cond.methodLink RX8 128 yX8_chooseAt ∈ WS := tb4 (List.mem_of_getElem? (i := 103) (by decide +kernel)) rfl
theorem ml_X8_97 : Cond.methodLink RX8 97 yX8_seek ∈ WS := tb4 (List.mem_of_getElem? (i := 107) (by decide +kernel)) rfl
theorem ml_X8_115 : Cond.methodLink RX8 115 yX8_startGreedily ∈ WS := tb4 (List.mem_of_getElem? (i := 111) (by decide +kernel)) rfl
theorem ml_X8_132 : Cond.methodLink RX8 132 yX8_highestStair ∈ WS := tb4 (List.mem_of_getElem? (i := 115) (by decide +kernel)) rfl
theorem ml_X8_81 : Cond.methodLink RX8 81 Lib.Math.max.name ∈ WS := tb4 (List.mem_of_getElem? (i := 119) (by decide +kernel)) rfl
theorem ml_X8_135 : Cond.methodLink RX8 135 yX8_take ∈ WS := tb4 (List.mem_of_getElem? (i := 120) (by decide +kernel)) rfl
theorem ml_X8_118 : Cond.methodLink RX8 118 yX8_descend ∈ WS := tb4 (List.mem_of_getElem? (i := 124) (by decide +kernel)) rfl
theorem ml_X8_139 : Cond.methodLink RX8 139 yX8_end ∈ WS := tb4 (List.mem_of_getElem? (i := 128) (by decide +kernel)) rfl
theorem ml_X8_142 : Cond.methodLink RX8 142 arraycopyName ∈ WS := tb4 (List.mem_of_getElem? (i := 132) (by decide +kernel)) rfl
theorem ml_X11_224 : Cond.methodLink RX11 224 yX11_worthOf ∈ WS := tb4 (List.mem_of_getElem? (i := 133) (by decide +kernel)) rfl
theorem ml_L_81 : Cond.methodLink RL 81 yX11_bestOf ∈ WS := tb4 (List.mem_of_getElem? (i := 137) (by decide +kernel)) rfl
theorem ml_X11_228 : Cond.methodLink RX11 228 yX11_priceIn ∈ WS := tb4 (List.mem_of_getElem? (i := 141) (by decide +kernel)) rfl
theorem ml_L_85 : Cond.methodLink RL 85 yX11_fair ∈ WS := tb4 (List.mem_of_getElem? (i := 145) (by decide +kernel)) rfl
theorem ml_X11_232 : Cond.methodLink RX11 232 yX2_findFair ∈ WS := tb4 (List.mem_of_getElem? (i := 149) (by decide +kernel)) rfl
theorem ml_L_89 : Cond.methodLink RL 89 yX11_fairOf ∈ WS := tb4 (List.mem_of_getElem? (i := 153) (by decide +kernel)) rfl
theorem ml_L_93 : Cond.methodLink RL 93 yX11_rows ∈ WS := tb4 (List.mem_of_getElem? (i := 157) (by decide +kernel)) rfl
theorem ml_X11_235 : Cond.methodLink RX11 235 yX2_countRows ∈ WS := tb4 (List.mem_of_getElem? (i := 161) (by decide +kernel)) rfl
theorem ml_X2_77 : Cond.methodLink RX2 77 yX8_count ∈ WS := tb4 (List.mem_of_getElem? (i := 165) (by decide +kernel)) rfl
theorem ml_X8_148 : Cond.methodLink RX8 148 yX8_countFrom ∈ WS := tb4 (List.mem_of_getElem? (i := 169) (by decide +kernel)) rfl
theorem ml_L_97 : Cond.methodLink RL 97 yX11_freely ∈ WS := tb4 (List.mem_of_getElem? (i := 173) (by decide +kernel)) rfl
theorem ml_L_101 : Cond.methodLink RL 101 yX11_game ∈ WS := tb4 (List.mem_of_getElem? (i := 177) (by decide +kernel)) rfl
theorem ml_X11_239 : Cond.methodLink RX11 239 yX4_play ∈ WS := tb4 (List.mem_of_getElem? (i := 181) (by decide +kernel)) rfl
theorem ml_X4_110 : Cond.methodLink RX4 110 yX4_playService ∈ WS := tb4 (List.mem_of_getElem? (i := 185) (by decide +kernel)) rfl
theorem ml_X4_114 : Cond.methodLink RX4 114 yX10_allowed ∈ WS := tb4 (List.mem_of_getElem? (i := 189) (by decide +kernel)) rfl
theorem ml_X4_118 : Cond.methodLink RX4 118 yX4_freeProfit ∈ WS := tb4 (List.mem_of_getElem? (i := 190) (by decide +kernel)) rfl
theorem ml_X4_145 : Cond.methodLink RX4 145 yX9_freePrice ∈ WS := tb4 (List.mem_of_getElem? (i := 194) (by decide +kernel)) rfl
theorem ml_X4_121 : Cond.methodLink RX4 121 yX10_spentWith ∈ WS := tb4 (List.mem_of_getElem? (i := 195) (by decide +kernel)) rfl
theorem ml_X4_53 : Cond.methodLink RX4 53 yX10_copy ∈ WS := tb4 (List.mem_of_getElem? (i := 196) (by decide +kernel)) rfl
theorem ml_X4_100 : Cond.methodLink RX4 100 yX9_together ∈ WS := tb4 (List.mem_of_getElem? (i := 200) (by decide +kernel)) rfl
theorem ml_X4_90 : Cond.methodLink RX4 90 yX10_end ∈ WS := tb4 (List.mem_of_getElem? (i := 201) (by decide +kernel)) rfl
theorem ml_X10_89 : Cond.methodLink RX10 89 Lib.Math.min.name ∈ WS := tb4 (List.mem_of_getElem? (i := 205) (by decide +kernel)) rfl
theorem ml_X4_70 : Cond.methodLink RX4 70 yX8_begin ∈ WS := tb4 (List.mem_of_getElem? (i := 206) (by decide +kernel)) rfl
theorem ml_X4_125 : Cond.methodLink RX4 125 yX4_playNext ∈ WS := tb4 (List.mem_of_getElem? (i := 207) (by decide +kernel)) rfl
theorem ml_X4_129 : Cond.methodLink RX4 129 yX8_prepare ∈ WS := tb4 (List.mem_of_getElem? (i := 211) (by decide +kernel)) rfl
theorem ml_X4_133 : Cond.methodLink RX4 133 yX8_bound ∈ WS := tb4 (List.mem_of_getElem? (i := 212) (by decide +kernel)) rfl
theorem ml_X4_137 : Cond.methodLink RX4 137 yX8_seek ∈ WS := tb4 (List.mem_of_getElem? (i := 216) (by decide +kernel)) rfl
theorem ml_X4_141 : Cond.methodLink RX4 141 yX4_noteGame ∈ WS := tb4 (List.mem_of_getElem? (i := 217) (by decide +kernel)) rfl
theorem ml_L_105 : Cond.methodLink RL 105 yX11_path ∈ WS := tb4 (List.mem_of_getElem? (i := 221) (by decide +kernel)) rfl
theorem ml_X11_246 : Cond.methodLink RX11 246 yX4_walk ∈ WS := tb4 (List.mem_of_getElem? (i := 225) (by decide +kernel)) rfl
theorem ml_X4_60 : Cond.methodLink RX4 60 yX9_off ∈ WS := tb4 (List.mem_of_getElem? (i := 229) (by decide +kernel)) rfl
theorem ml_X4_66 : Cond.methodLink RX4 66 yX4_step ∈ WS := tb4 (List.mem_of_getElem? (i := 230) (by decide +kernel)) rfl
theorem ml_X4_79 : Cond.methodLink RX4 79 yX8_find ∈ WS := tb4 (List.mem_of_getElem? (i := 234) (by decide +kernel)) rfl
theorem ml_L_109 : Cond.methodLink RL 109 yX11_buyer ∈ WS := tb4 (List.mem_of_getElem? (i := 235) (by decide +kernel)) rfl
theorem ml_X11_253 : Cond.methodLink RX11 253 yX11_noBuyer ∈ WS := tb4 (List.mem_of_getElem? (i := 239) (by decide +kernel)) rfl
theorem ml_X11_256 : Cond.methodLink RX11 256 yX9_burden ∈ WS := tb5 (List.mem_of_getElem? (i := 3) (by decide +kernel)) rfl
theorem ml_X11_260 : Cond.methodLink RX11 260 yX9_unitsTogether ∈ WS := tb5 (List.mem_of_getElem? (i := 7) (by decide +kernel)) rfl
theorem ml_L_113 : Cond.methodLink RL 113 yX11_units ∈ WS := tb5 (List.mem_of_getElem? (i := 11) (by decide +kernel)) rfl
theorem ml_L_117 : Cond.methodLink RL 117 yX11_hurt ∈ WS := tb5 (List.mem_of_getElem? (i := 15) (by decide +kernel)) rfl
theorem ml_X11_269 : Cond.methodLink RX11 269 yX11_burdenMore ∈ WS := tb5 (List.mem_of_getElem? (i := 19) (by decide +kernel)) rfl
theorem ml_L_121 : Cond.methodLink RL 121 yX11_hardest ∈ WS := tb5 (List.mem_of_getElem? (i := 23) (by decide +kernel)) rfl
theorem ml_L_125 : Cond.methodLink RL 125 yX11_gentle ∈ WS := tb5 (List.mem_of_getElem? (i := 27) (by decide +kernel)) rfl
theorem ml_X11_272 : Cond.methodLink RX11 272 yX2_findGentle ∈ WS := tb5 (List.mem_of_getElem? (i := 31) (by decide +kernel)) rfl
theorem ml_X2_61 : Cond.methodLink RX2 61 yX8_addBuyer ∈ WS := tb5 (List.mem_of_getElem? (i := 35) (by decide +kernel)) rfl
theorem ml_X8_77 : Cond.methodLink RX8 77 yX9_burden ∈ WS := tb5 (List.mem_of_getElem? (i := 39) (by decide +kernel)) rfl
theorem ml_L_129 : Cond.methodLink RL 129 yX11_gentleOf ∈ WS := tb5 (List.mem_of_getElem? (i := 40) (by decide +kernel)) rfl
theorem ml_L_133 : Cond.methodLink RL 133 yX11_steady ∈ WS := tb5 (List.mem_of_getElem? (i := 44) (by decide +kernel)) rfl
theorem ml_X11_278 : Cond.methodLink RX11 278 yX2_findSteady ∈ WS := tb5 (List.mem_of_getElem? (i := 48) (by decide +kernel)) rfl
theorem ml_X2_73 : Cond.methodLink RX2 73 yX8_holdNear ∈ WS := tb5 (List.mem_of_getElem? (i := 52) (by decide +kernel)) rfl
theorem ml_L_137 : Cond.methodLink RL 137 yX11_steadyOf ∈ WS := tb5 (List.mem_of_getElem? (i := 56) (by decide +kernel)) rfl
theorem ml_L_141 : Cond.methodLink RL 141 yX11_level ∈ WS := tb5 (List.mem_of_getElem? (i := 60) (by decide +kernel)) rfl
theorem ml_X11_291 : Cond.methodLink RX11 291 yX11_lowestTerms ∈ WS := tb5 (List.mem_of_getElem? (i := 64) (by decide +kernel)) rfl
theorem ml_X11_386 : Cond.methodLink RX11 386 yX11_commonDivisor ∈ WS := tb5 (List.mem_of_getElem? (i := 68) (by decide +kernel)) rfl
theorem ml_X11_389 : Cond.methodLink RX11 389 Lib.Math.max.name ∈ WS := tb5 (List.mem_of_getElem? (i := 71) (by decide +kernel)) rfl
theorem ml_L_145 : Cond.methodLink RL 145 yX11_trade ∈ WS := tb5 (List.mem_of_getElem? (i := 72) (by decide +kernel)) rfl
theorem ml_X11_295 : Cond.methodLink RX11 295 yX1_seek ∈ WS := tb5 (List.mem_of_getElem? (i := 76) (by decide +kernel)) rfl
theorem ml_X1_19 : Cond.methodLink RX1 19 yX10_left ∈ WS := tb5 (List.mem_of_getElem? (i := 80) (by decide +kernel)) rfl
theorem ml_X1_34 : Cond.methodLink RX1 34 yX10_weight ∈ WS := tb5 (List.mem_of_getElem? (i := 81) (by decide +kernel)) rfl
theorem ml_X1_38 : Cond.methodLink RX1 38 yX1_offer ∈ WS := tb5 (List.mem_of_getElem? (i := 82) (by decide +kernel)) rfl
theorem ml_X1_42 : Cond.methodLink RX1 42 yX1_profitThen ∈ WS := tb5 (List.mem_of_getElem? (i := 86) (by decide +kernel)) rfl
theorem ml_L_149 : Cond.methodLink RL 149 yX11_reach ∈ WS := tb5 (List.mem_of_getElem? (i := 90) (by decide +kernel)) rfl
theorem ml_L_153 : Cond.methodLink RL 153 yX11_next ∈ WS := tb5 (List.mem_of_getElem? (i := 94) (by decide +kernel)) rfl
theorem ml_X11_301 : Cond.methodLink RX11 301 yX4_nextProfit ∈ WS := tb5 (List.mem_of_getElem? (i := 98) (by decide +kernel)) rfl
theorem ml_L_157 : Cond.methodLink RL 157 yX11_gains ∈ WS := tb5 (List.mem_of_getElem? (i := 102) (by decide +kernel)) rfl
theorem ml_X11_304 : Cond.methodLink RX11 304 yX10_duesOf ∈ WS := tb5 (List.mem_of_getElem? (i := 106) (by decide +kernel)) rfl
theorem ml_X11_307 : Cond.methodLink RX11 307 yX10_allowedWith ∈ WS := tb5 (List.mem_of_getElem? (i := 107) (by decide +kernel)) rfl
theorem ml_L_161 : Cond.methodLink RL 161 yX11_share ∈ WS := tb5 (List.mem_of_getElem? (i := 108) (by decide +kernel)) rfl
theorem ml_L_165 : Cond.methodLink RL 165 yX11_write ∈ WS := tb5 (List.mem_of_getElem? (i := 112) (by decide +kernel)) rfl
theorem ml_X11_313 : Cond.methodLink RX11 313 yX11_putWritten ∈ WS := tb5 (List.mem_of_getElem? (i := 116) (by decide +kernel)) rfl
theorem ml_L_178 : Cond.methodLink RL 178 yX11_price ∈ WS := tb5 (List.mem_of_getElem? (i := 120) (by decide +kernel)) rfl
theorem ml_X11_319 : Cond.methodLink RX11 319 yX5_push ∈ WS := tb5 (List.mem_of_getElem? (i := 124) (by decide +kernel)) rfl
theorem ml_X5_23 : Cond.methodLink RX5 23 yX10_copy ∈ WS := tb5 (List.mem_of_getElem? (i := 128) (by decide +kernel)) rfl
theorem ml_X5_27 : Cond.methodLink RX5 27 Lib.Math.min.name ∈ WS := tb5 (List.mem_of_getElem? (i := 129) (by decide +kernel)) rfl
theorem ml_X11_323 : Cond.methodLink RX11 323 yX11_forgetFresh ∈ WS := tb5 (List.mem_of_getElem? (i := 130) (by decide +kernel)) rfl
theorem ml_X11_381 : Cond.methodLink RX11 381 yX4_forgetFresh ∈ WS := tb5 (List.mem_of_getElem? (i := 134) (by decide +kernel)) rfl
theorem ml_L_182 : Cond.methodLink RL 182 yX11_lay ∈ WS := tb5 (List.mem_of_getElem? (i := 135) (by decide +kernel)) rfl
theorem ml_X11_326 : Cond.methodLink RX11 326 arraycopyName ∈ WS := tb5 (List.mem_of_getElem? (i := 139) (by decide +kernel)) rfl
theorem ml_L_187 : Cond.methodLink RL 187 yX11_quality ∈ WS := tb5 (List.mem_of_getElem? (i := 140) (by decide +kernel)) rfl
theorem ml_L_191 : Cond.methodLink RL 191 yX11_become ∈ WS := tb5 (List.mem_of_getElem? (i := 144) (by decide +kernel)) rfl
theorem ml_X11_335 : Cond.methodLink RX11 335 yX9_mostOfRule ∈ WS := tb5 (List.mem_of_getElem? (i := 148) (by decide +kernel)) rfl
theorem ml_L_195 : Cond.methodLink RL 195 yX11_year ∈ WS := tb5 (List.mem_of_getElem? (i := 149) (by decide +kernel)) rfl
theorem ml_X11_338 : Cond.methodLink RX11 338 yX0_enter ∈ WS := tb5 (List.mem_of_getElem? (i := 153) (by decide +kernel)) rfl
theorem ml_X0_21 : Cond.methodLink RX0 21 yX10_spent ∈ WS := tb5 (List.mem_of_getElem? (i := 157) (by decide +kernel)) rfl
theorem ml_X0_25 : Cond.methodLink RX0 25 yX10_allowed ∈ WS := tb5 (List.mem_of_getElem? (i := 158) (by decide +kernel)) rfl
theorem ml_X0_36 : Cond.methodLink RX0 36 yX9_together ∈ WS := tb5 (List.mem_of_getElem? (i := 159) (by decide +kernel)) rfl
theorem ml_X11_342 : Cond.methodLink RX11 342 yX10_end ∈ WS := tb5 (List.mem_of_getElem? (i := 160) (by decide +kernel)) rfl
theorem ml_L_199 : Cond.methodLink RL 199 yX11_undo ∈ WS := tb5 (List.mem_of_getElem? (i := 161) (by decide +kernel)) rfl
theorem ml_X11_346 : Cond.methodLink RX11 346 yX5_pop ∈ WS := tb5 (List.mem_of_getElem? (i := 165) (by decide +kernel)) rfl
theorem ml_L_203 : Cond.methodLink RL 203 yX11_keep ∈ WS := tb5 (List.mem_of_getElem? (i := 169) (by decide +kernel)) rfl
theorem ml_X11_349 : Cond.methodLink RX11 349 yX3_take ∈ WS := tb5 (List.mem_of_getElem? (i := 173) (by decide +kernel)) rfl
theorem ml_X3_27 : Cond.methodLink RX3 27 yX10_copy ∈ WS := tb5 (List.mem_of_getElem? (i := 177) (by decide +kernel)) rfl
theorem ml_X3_35 : Cond.methodLink RX3 35 yX0_copy ∈ WS := tb5 (List.mem_of_getElem? (i := 178) (by decide +kernel)) rfl
theorem ml_X0_43 : Cond.methodLink RX0 43 arraycopyName ∈ WS := tb5 (List.mem_of_getElem? (i := 182) (by decide +kernel)) rfl
theorem ml_L_208 : Cond.methodLink RL 208 yX11_back ∈ WS := tb5 (List.mem_of_getElem? (i := 183) (by decide +kernel)) rfl
theorem ml_X11_354 : Cond.methodLink RX11 354 yX3_give ∈ WS := tb5 (List.mem_of_getElem? (i := 187) (by decide +kernel)) rfl
theorem ml_L_212 : Cond.methodLink RL 212 yX11_book ∈ WS := tb5 (List.mem_of_getElem? (i := 191) (by decide +kernel)) rfl
theorem ml_X11_360 : Cond.methodLink RX11 360 yX0_look ∈ WS := tb5 (List.mem_of_getElem? (i := 195) (by decide +kernel)) rfl
theorem ml_L_220 : Cond.methodLink RL 220 yX11_bytes ∈ WS := tb5 (List.mem_of_getElem? (i := 199) (by decide +kernel)) rfl
theorem ml_L_224 : Cond.methodLink RL 224 yX11_trouble ∈ WS := tb5 (List.mem_of_getElem? (i := 203) (by decide +kernel)) rfl
theorem ml_L_169 : Cond.methodLink RL 169 yL_octet ∈ WS := tb5 (List.mem_of_getElem? (i := 207) (by decide +kernel)) rfl
theorem ml_L_7 : Cond.methodLink RL 7 yX11_octet ∈ WS := tb5 (List.mem_of_getElem? (i := 211) (by decide +kernel)) rfl
theorem ml_X11_318 : Cond.methodLink RX11 318 ⟨"java/util/NoSuchElementException", "<init>", "()V"⟩ ∈ WS := tb6 (List.mem_of_getElem? (i := 14) (by decide +kernel)) rfl
theorem ml_L_216 : Cond.methodLink RL 216 yL_letter ∈ WS := tb6 (List.mem_of_getElem? (i := 36) (by decide +kernel)) rfl
theorem ml_L_15 : Cond.methodLink RL 15 yX11_letter ∈ WS := tb6 (List.mem_of_getElem? (i := 39) (by decide +kernel)) rfl
theorem ml_X11_367 : Cond.methodLink RX11 367 yX9_lengthOf ∈ WS := tb6 (List.mem_of_getElem? (i := 43) (by decide +kernel)) rfl
theorem ml_X11_371 : Cond.methodLink RX11 371 yX9_letterOf ∈ WS := tb6 (List.mem_of_getElem? (i := 46) (by decide +kernel)) rfl
theorem ml_X9_41 : Cond.methodLink RX9 41 yX9_lengthOf ∈ WS := tb6 (List.mem_of_getElem? (i := 49) (by decide +kernel)) rfl
theorem cl_X9_45 : Cond.constantLong RX9 45 (31) ∈ WS := tb6 (List.mem_of_getElem? (i := 50) (by decide +kernel)) rfl
theorem ml_L_22 : Cond.methodLink RL 22 yX12_init ∈ WS := tb6 (List.mem_of_getElem? (i := 53) (by decide +kernel)) rfl
theorem ml_X12_3 : Cond.methodLink RX12 3 objectInit ∈ WS := tb6 (List.mem_of_getElem? (i := 56) (by decide +kernel)) rfl
theorem fl_X12_73 : Cond.fieldLink RX12 73 "BasketCapModel" "thrown" "I" ∈ WS := tb6 (List.mem_of_getElem? (i := 57) (by decide +kernel)) rfl
theorem fl_X12_76 : Cond.fieldLink RX12 76 "BasketCapModel" "trouble" "I" ∈ WS := tb6 (List.mem_of_getElem? (i := 58) (by decide +kernel)) rfl
theorem fl_X12_9 : Cond.fieldLink RX12 9 "BasketCapModel" "wrongAt" "I" ∈ WS := tb6 (List.mem_of_getElem? (i := 59) (by decide +kernel)) rfl
theorem fl_X12_13 : Cond.fieldLink RX12 13 "BasketCapModel" "tape" "[I" ∈ WS := tb6 (List.mem_of_getElem? (i := 60) (by decide +kernel)) rfl
theorem fl_X12_79 : Cond.fieldLink RX12 79 "BasketCapModel" "taped" "I" ∈ WS := tb6 (List.mem_of_getElem? (i := 61) (by decide +kernel)) rfl
theorem fl_X12_91 : Cond.fieldLink RX12 91 "BasketCapModel" "size" "I" ∈ WS := tb6 (List.mem_of_getElem? (i := 62) (by decide +kernel)) rfl
theorem fl_X12_98 : Cond.fieldLink RX12 98 "BasketCapModel" "spot" "I" ∈ WS := tb6 (List.mem_of_getElem? (i := 63) (by decide +kernel)) rfl
theorem fl_X12_82 : Cond.fieldLink RX12 82 "BasketCapModel" "fault" "I" ∈ WS := tb6 (List.mem_of_getElem? (i := 64) (by decide +kernel)) rfl
theorem fl_X12_88 : Cond.fieldLink RX12 88 "BasketCapModel" "faultAt" "I" ∈ WS := tb6 (List.mem_of_getElem? (i := 65) (by decide +kernel)) rfl
theorem fl_X12_101 : Cond.fieldLink RX12 101 "BasketCapModel" "token" "I" ∈ WS := tb6 (List.mem_of_getElem? (i := 66) (by decide +kernel)) rfl
theorem fl_X12_85 : Cond.fieldLink RX12 85 "BasketCapModel" "at" "I" ∈ WS := tb6 (List.mem_of_getElem? (i := 67) (by decide +kernel)) rfl
theorem fl_X12_122 : Cond.fieldLink RX12 122 "BasketCapModel" "sign" "I" ∈ WS := tb6 (List.mem_of_getElem? (i := 68) (by decide +kernel)) rfl
theorem fl_X12_119 : Cond.fieldLink RX12 119 "BasketCapModel" "number" "I" ∈ WS := tb6 (List.mem_of_getElem? (i := 69) (by decide +kernel)) rfl
theorem fl_X12_108 : Cond.fieldLink RX12 108 "BasketCapModel" "word" "J" ∈ WS := tb6 (List.mem_of_getElem? (i := 70) (by decide +kernel)) rfl
theorem fl_X12_17 : Cond.fieldLink RX12 17 "BasketCapModel" "now" "[I" ∈ WS := tb6 (List.mem_of_getElem? (i := 71) (by decide +kernel)) rfl
theorem fl_X12_20 : Cond.fieldLink RX12 20 "BasketCapModel" "read" "[I" ∈ WS := tb6 (List.mem_of_getElem? (i := 72) (by decide +kernel)) rfl
theorem fl_X12_23 : Cond.fieldLink RX12 23 "BasketCapModel" "aside" "[I" ∈ WS := tb6 (List.mem_of_getElem? (i := 73) (by decide +kernel)) rfl
theorem fl_X12_26 : Cond.fieldLink RX12 26 "BasketCapModel" "past" "[I" ∈ WS := tb6 (List.mem_of_getElem? (i := 74) (by decide +kernel)) rfl
theorem fl_X12_29 : Cond.fieldLink RX12 29 "BasketCapModel" "images" "[I" ∈ WS := tb6 (List.mem_of_getElem? (i := 75) (by decide +kernel)) rfl
theorem fl_X12_32 : Cond.fieldLink RX12 32 "BasketCapModel" "names" "[J" ∈ WS := tb6 (List.mem_of_getElem? (i := 76) (by decide +kernel)) rfl
theorem fl_X12_36 : Cond.fieldLink RX12 36 "BasketCapModel" "readNames" "[J" ∈ WS := tb6 (List.mem_of_getElem? (i := 77) (by decide +kernel)) rfl
theorem fl_X12_39 : Cond.fieldLink RX12 39 "BasketCapModel" "kept" "[Z" ∈ WS := tb6 (List.mem_of_getElem? (i := 78) (by decide +kernel)) rfl
theorem fl_X12_220 : Cond.fieldLink RX12 220 "BasketCapModel" "many" "I" ∈ WS := tb6 (List.mem_of_getElem? (i := 79) (by decide +kernel)) rfl
theorem fl_X12_185 : Cond.fieldLink RX12 185 "BasketCapModel" "readMany" "I" ∈ WS := tb6 (List.mem_of_getElem? (i := 80) (by decide +kernel)) rfl
theorem fl_X12_226 : Cond.fieldLink RX12 226 "BasketCapModel" "acts" "I" ∈ WS := tb6 (List.mem_of_getElem? (i := 81) (by decide +kernel)) rfl
theorem fl_X12_229 : Cond.fieldLink RX12 229 "BasketCapModel" "hasText" "Z" ∈ WS := tb6 (List.mem_of_getElem? (i := 82) (by decide +kernel)) rfl
theorem fl_X12_43 : Cond.fieldLink RX12 43 "BasketCapModel" "units" "[I" ∈ WS := tb6 (List.mem_of_getElem? (i := 83) (by decide +kernel)) rfl
theorem fl_X12_46 : Cond.fieldLink RX12 46 "BasketCapModel" "readUnits" "[I" ∈ WS := tb6 (List.mem_of_getElem? (i := 84) (by decide +kernel)) rfl
theorem fl_X12_223 : Cond.fieldLink RX12 223 "BasketCapModel" "buyers" "I" ∈ WS := tb6 (List.mem_of_getElem? (i := 85) (by decide +kernel)) rfl
theorem fl_X12_188 : Cond.fieldLink RX12 188 "BasketCapModel" "readBuyers" "I" ∈ WS := tb6 (List.mem_of_getElem? (i := 86) (by decide +kernel)) rfl
theorem fl_X12_201 : Cond.fieldLink RX12 201 "BasketCapModel" "once" "I" ∈ WS := tb6 (List.mem_of_getElem? (i := 87) (by decide +kernel)) rfl
theorem fl_X12_49 : Cond.fieldLink RX12 49 "BasketCapModel" "worth" "[I" ∈ WS := tb6 (List.mem_of_getElem? (i := 88) (by decide +kernel)) rfl
theorem fl_X12_52 : Cond.fieldLink RX12 52 "BasketCapModel" "behind" "[I" ∈ WS := tb6 (List.mem_of_getElem? (i := 89) (by decide +kernel)) rfl
theorem fl_X12_55 : Cond.fieldLink RX12 55 "BasketCapModel" "weights" "[I" ∈ WS := tb6 (List.mem_of_getElem? (i := 90) (by decide +kernel)) rfl
theorem fl_X12_58 : Cond.fieldLink RX12 58 "BasketCapModel" "row" "[I" ∈ WS := tb6 (List.mem_of_getElem? (i := 91) (by decide +kernel)) rfl
theorem fl_X12_61 : Cond.fieldLink RX12 61 "BasketCapModel" "bestRow" "[I" ∈ WS := tb6 (List.mem_of_getElem? (i := 92) (by decide +kernel)) rfl
theorem fl_X12_286 : Cond.fieldLink RX12 286 "BasketCapModel" "most" "I" ∈ WS := tb6 (List.mem_of_getElem? (i := 93) (by decide +kernel)) rfl
theorem fl_X12_349 : Cond.fieldLink RX12 349 "BasketCapModel" "rows" "I" ∈ WS := tb6 (List.mem_of_getElem? (i := 94) (by decide +kernel)) rfl
theorem fl_X12_64 : Cond.fieldLink RX12 64 "BasketCapModel" "farthest" "I" ∈ WS := tb6 (List.mem_of_getElem? (i := 95) (by decide +kernel)) rfl
theorem fl_X12_283 : Cond.fieldLink RX12 283 "BasketCapModel" "isGentle" "Z" ∈ WS := tb6 (List.mem_of_getElem? (i := 96) (by decide +kernel)) rfl
theorem fl_X12_67 : Cond.fieldLink RX12 67 "BasketCapModel" "bears" "[I" ∈ WS := tb6 (List.mem_of_getElem? (i := 97) (by decide +kernel)) rfl
theorem fl_X12_331 : Cond.fieldLink RX12 331 "BasketCapModel" "tradeWorth" "I" ∈ WS := tb6 (List.mem_of_getElem? (i := 98) (by decide +kernel)) rfl
theorem fl_X12_325 : Cond.fieldLink RX12 325 "BasketCapModel" "tradeUp" "I" ∈ WS := tb6 (List.mem_of_getElem? (i := 99) (by decide +kernel)) rfl
theorem fl_X12_334 : Cond.fieldLink RX12 334 "BasketCapModel" "tradeDown" "I" ∈ WS := tb6 (List.mem_of_getElem? (i := 100) (by decide +kernel)) rfl
theorem fl_X12_337 : Cond.fieldLink RX12 337 "BasketCapModel" "tradeBy" "I" ∈ WS := tb6 (List.mem_of_getElem? (i := 101) (by decide +kernel)) rfl
theorem fl_X12_70 : Cond.fieldLink RX12 70 "BasketCapModel" "ink" "[I" ∈ WS := tb6 (List.mem_of_getElem? (i := 102) (by decide +kernel)) rfl
theorem fl_X12_343 : Cond.fieldLink RX12 343 "BasketCapModel" "inked" "I" ∈ WS := tb6 (List.mem_of_getElem? (i := 103) (by decide +kernel)) rfl
theorem fl_X12_368 : Cond.fieldLink RX12 368 "BasketCapModel" "gameWorth" "I" ∈ WS := tb6 (List.mem_of_getElem? (i := 104) (by decide +kernel)) rfl
theorem fl_X12_356 : Cond.fieldLink RX12 356 "BasketCapModel" "gameService" "I" ∈ WS := tb6 (List.mem_of_getElem? (i := 105) (by decide +kernel)) rfl
theorem fl_X12_371 : Cond.fieldLink RX12 371 "BasketCapModel" "gamePrice" "I" ∈ WS := tb6 (List.mem_of_getElem? (i := 106) (by decide +kernel)) rfl
theorem fl_X12_374 : Cond.fieldLink RX12 374 "BasketCapModel" "gameFirst" "I" ∈ WS := tb6 (List.mem_of_getElem? (i := 107) (by decide +kernel)) rfl
theorem ml_L_175 : Cond.methodLink RL 175 yX12_thrown ∈ WS := tb6 (List.mem_of_getElem? (i := 212) (by decide +kernel)) rfl
theorem ml_L_27 : Cond.methodLink RL 27 yX12_feed ∈ WS := tb6 (List.mem_of_getElem? (i := 216) (by decide +kernel)) rfl
theorem ml_L_36 : Cond.methodLink RL 36 yX12_fault ∈ WS := tb6 (List.mem_of_getElem? (i := 220) (by decide +kernel)) rfl
theorem ml_L_40 : Cond.methodLink RL 40 yX12_where ∈ WS := tb6 (List.mem_of_getElem? (i := 224) (by decide +kernel)) rfl
theorem ml_L_31 : Cond.methodLink RL 31 yX12_text ∈ WS := tb6 (List.mem_of_getElem? (i := 228) (by decide +kernel)) rfl
theorem ml_X12_94 : Cond.methodLink RX12 94 yX12_in ∈ WS := tb6 (List.mem_of_getElem? (i := 232) (by decide +kernel)) rfl
theorem ml_X12_213 : Cond.methodLink RX12 213 yX12_refused ∈ WS := tb6 (List.mem_of_getElem? (i := 235) (by decide +kernel)) rfl
theorem ml_X12_147 : Cond.methodLink RX12 147 yX12_goOn ∈ WS := tb6 (List.mem_of_getElem? (i := 239) (by decide +kernel)) rfl
theorem ml_X12_104 : Cond.methodLink RX12 104 yX12_isLetterAt ∈ WS := tb7 (List.mem_of_getElem? (i := 3) (by decide +kernel)) rfl
theorem cl_X12_112 : Cond.constantLong RX12 112 (32) ∈ WS := tb7 (List.mem_of_getElem? (i := 7) (by decide +kernel)) rfl
theorem cl_X12_114 : Cond.constantLong RX12 114 (97) ∈ WS := tb7 (List.mem_of_getElem? (i := 8) (by decide +kernel)) rfl
theorem ml_X12_116 : Cond.methodLink RX12 116 yX12_isDigitAt ∈ WS := tb7 (List.mem_of_getElem? (i := 9) (by decide +kernel)) rfl
theorem ml_X12_217 : Cond.methodLink RX12 217 yX12_readLine ∈ WS := tb7 (List.mem_of_getElem? (i := 13) (by decide +kernel)) rfl
theorem ml_X12_139 : Cond.methodLink RX12 139 yX12_isWord ∈ WS := tb7 (List.mem_of_getElem? (i := 18) (by decide +kernel)) rfl
theorem ml_X12_135 : Cond.methodLink RX12 135 yX12_wordOf ∈ WS := tb7 (List.mem_of_getElem? (i := 22) (by decide +kernel)) rfl
theorem ml_X12_125 : Cond.methodLink RX12 125 yJ0_length_8abf5 ∈ WS := tb7 (List.mem_of_getElem? (i := 25) (by decide +kernel)) rfl
theorem ml_X12_131 : Cond.methodLink RX12 131 yJ0_charAt_5068e ∈ WS := tb7 (List.mem_of_getElem? (i := 26) (by decide +kernel)) rfl
theorem ml_X12_204 : Cond.methodLink RX12 204 yX12_readService ∈ WS := tb7 (List.mem_of_getElem? (i := 27) (by decide +kernel)) rfl
theorem ml_X12_143 : Cond.methodLink RX12 143 yX12_flaw ∈ WS := tb7 (List.mem_of_getElem? (i := 31) (by decide +kernel)) rfl
theorem ml_X12_191 : Cond.methodLink RX12 191 yX12_readName ∈ WS := tb7 (List.mem_of_getElem? (i := 35) (by decide +kernel)) rfl
theorem ml_X12_181 : Cond.methodLink RX12 181 yX12_isOwn ∈ WS := tb7 (List.mem_of_getElem? (i := 39) (by decide +kernel)) rfl
theorem ml_X12_197 : Cond.methodLink RX12 197 yX12_readTold ∈ WS := tb7 (List.mem_of_getElem? (i := 54) (by decide +kernel)) rfl
theorem ml_X12_173 : Cond.methodLink RX12 173 yX12_needs ∈ WS := tb7 (List.mem_of_getElem? (i := 58) (by decide +kernel)) rfl
theorem ml_X12_177 : Cond.methodLink RX12 177 yX12_readWhole ∈ WS := tb7 (List.mem_of_getElem? (i := 62) (by decide +kernel)) rfl
theorem ml_X12_207 : Cond.methodLink RX12 207 yX12_readBuyer ∈ WS := tb7 (List.mem_of_getElem? (i := 66) (by decide +kernel)) rfl
theorem ml_X12_194 : Cond.methodLink RX12 194 yX12_isSign ∈ WS := tb7 (List.mem_of_getElem? (i := 70) (by decide +kernel)) rfl
theorem ml_X12_210 : Cond.methodLink RX12 210 yX12_readRule ∈ WS := tb7 (List.mem_of_getElem? (i := 74) (by decide +kernel)) rfl
theorem ml_X12_233 : Cond.methodLink RX12 233 yX12_tells ∈ WS := tb7 (List.mem_of_getElem? (i := 78) (by decide +kernel)) rfl
theorem ml_L_44 : Cond.methodLink RL 44 yX12_about ∈ WS := tb7 (List.mem_of_getElem? (i := 82) (by decide +kernel)) rfl
theorem ml_X12_245 : Cond.methodLink RX12 245 yX12_weight ∈ WS := tb7 (List.mem_of_getElem? (i := 86) (by decide +kernel)) rfl
theorem ml_X12_236 : Cond.methodLink RX12 236 yX12_of ∈ WS := tb7 (List.mem_of_getElem? (i := 90) (by decide +kernel)) rfl
theorem ml_X12_239 : Cond.methodLink RX12 239 yX12_boughtAt ∈ WS := tb7 (List.mem_of_getElem? (i := 94) (by decide +kernel)) rfl
theorem ml_X12_248 : Cond.methodLink RX12 248 yX12_rate ∈ WS := tb7 (List.mem_of_getElem? (i := 98) (by decide +kernel)) rfl
theorem ml_X12_251 : Cond.methodLink RX12 251 yX12_base ∈ WS := tb7 (List.mem_of_getElem? (i := 102) (by decide +kernel)) rfl
theorem ml_X12_254 : Cond.methodLink RX12 254 yX12_dues ∈ WS := tb7 (List.mem_of_getElem? (i := 106) (by decide +kernel)) rfl
theorem ml_X12_260 : Cond.methodLink RX12 260 yX12_allowed ∈ WS := tb7 (List.mem_of_getElem? (i := 110) (by decide +kernel)) rfl
theorem ml_X12_257 : Cond.methodLink RX12 257 yX12_spent ∈ WS := tb7 (List.mem_of_getElem? (i := 114) (by decide +kernel)) rfl
theorem ml_X12_266 : Cond.methodLink RX12 266 yX12_isKept ∈ WS := tb7 (List.mem_of_getElem? (i := 118) (by decide +kernel)) rfl
theorem ml_X12_269 : Cond.methodLink RX12 269 yX12_off ∈ WS := tb7 (List.mem_of_getElem? (i := 122) (by decide +kernel)) rfl
theorem ml_L_48 : Cond.methodLink RL 48 yX12_service ∈ WS := tb7 (List.mem_of_getElem? (i := 126) (by decide +kernel)) rfl
theorem ml_X12_272 : Cond.methodLink RX12 272 yX12_isService ∈ WS := tb7 (List.mem_of_getElem? (i := 130) (by decide +kernel)) rfl
theorem ml_L_52 : Cond.methodLink RL 52 yX12_rule ∈ WS := tb7 (List.mem_of_getElem? (i := 134) (by decide +kernel)) rfl
theorem ml_L_56 : Cond.methodLink RL 56 yX12_carried ∈ WS := tb7 (List.mem_of_getElem? (i := 138) (by decide +kernel)) rfl
theorem ml_L_60 : Cond.methodLink RL 60 yX12_bought ∈ WS := tb7 (List.mem_of_getElem? (i := 142) (by decide +kernel)) rfl
theorem ml_X12_275 : Cond.methodLink RX12 275 yX12_isPrice ∈ WS := tb7 (List.mem_of_getElem? (i := 146) (by decide +kernel)) rfl
theorem ml_L_64 : Cond.methodLink RL 64 yX12_profit ∈ WS := tb7 (List.mem_of_getElem? (i := 149) (by decide +kernel)) rfl
theorem ml_X12_242 : Cond.methodLink RX12 242 yX12_profitAt ∈ WS := tb7 (List.mem_of_getElem? (i := 153) (by decide +kernel)) rfl
theorem ml_L_68 : Cond.methodLink RL 68 yX12_good ∈ WS := tb7 (List.mem_of_getElem? (i := 157) (by decide +kernel)) rfl
theorem ml_X12_263 : Cond.methodLink RX12 263 yX12_goodAt ∈ WS := tb7 (List.mem_of_getElem? (i := 161) (by decide +kernel)) rfl
theorem ml_L_72 : Cond.methodLink RL 72 yX12_most ∈ WS := tb7 (List.mem_of_getElem? (i := 165) (by decide +kernel)) rfl
theorem ml_X12_278 : Cond.methodLink RX12 278 yX12_isKeptBy ∈ WS := tb7 (List.mem_of_getElem? (i := 169) (by decide +kernel)) rfl
theorem ml_L_76 : Cond.methodLink RL 76 yX12_free ∈ WS := tb7 (List.mem_of_getElem? (i := 173) (by decide +kernel)) rfl
theorem ml_L_100 : Cond.methodLink RL 100 yX12_freely ∈ WS := tb7 (List.mem_of_getElem? (i := 177) (by decide +kernel)) rfl
theorem ml_L_128 : Cond.methodLink RL 128 yX12_gentle ∈ WS := tb7 (List.mem_of_getElem? (i := 181) (by decide +kernel)) rfl
theorem ml_X12_309 : Cond.methodLink RX12 309 yX12_findsGentle ∈ WS := tb7 (List.mem_of_getElem? (i := 185) (by decide +kernel)) rfl
theorem ml_X12_305 : Cond.methodLink RX12 305 yX12_finds ∈ WS := tb7 (List.mem_of_getElem? (i := 189) (by decide +kernel)) rfl
theorem ml_X12_298 : Cond.methodLink RX12 298 yX12_laysWorth ∈ WS := tb7 (List.mem_of_getElem? (i := 193) (by decide +kernel)) rfl
theorem ck_X12_282 : Cond.constant RX12 282 (-100000000) ∈ WS := tb7 (List.mem_of_getElem? (i := 197) (by decide +kernel)) rfl
theorem ml_X12_302 : Cond.methodLink RX12 302 yX12_burden ∈ WS := tb7 (List.mem_of_getElem? (i := 198) (by decide +kernel)) rfl
theorem ml_X12_294 : Cond.methodLink RX12 294 yX12_tries ∈ WS := tb7 (List.mem_of_getElem? (i := 202) (by decide +kernel)) rfl
theorem ml_X12_289 : Cond.methodLink RX12 289 yX12_isNear ∈ WS := tb7 (List.mem_of_getElem? (i := 206) (by decide +kernel)) rfl
theorem ml_X12_292 : Cond.methodLink RX12 292 yX12_bears ∈ WS := tb7 (List.mem_of_getElem? (i := 210) (by decide +kernel)) rfl
theorem ml_L_132 : Cond.methodLink RL 132 yX12_gentleOf ∈ WS := tb7 (List.mem_of_getElem? (i := 214) (by decide +kernel)) rfl
theorem ml_L_136 : Cond.methodLink RL 136 yX12_steady ∈ WS := tb7 (List.mem_of_getElem? (i := 218) (by decide +kernel)) rfl
theorem ml_X12_312 : Cond.methodLink RX12 312 yX12_findsSteady ∈ WS := tb7 (List.mem_of_getElem? (i := 222) (by decide +kernel)) rfl
theorem ml_L_140 : Cond.methodLink RL 140 yX12_steadyOf ∈ WS := tb7 (List.mem_of_getElem? (i := 226) (by decide +kernel)) rfl
theorem ml_L_112 : Cond.methodLink RL 112 yX12_buyer ∈ WS := tb7 (List.mem_of_getElem? (i := 230) (by decide +kernel)) rfl
theorem ml_X12_315 : Cond.methodLink RX12 315 yX12_isBuyer ∈ WS := tb7 (List.mem_of_getElem? (i := 234) (by decide +kernel)) rfl
theorem ml_L_116 : Cond.methodLink RL 116 yX12_units ∈ WS := tb7 (List.mem_of_getElem? (i := 238) (by decide +kernel)) rfl
theorem ml_L_120 : Cond.methodLink RL 120 yX12_hurt ∈ WS := tb8 (List.mem_of_getElem? (i := 2) (by decide +kernel)) rfl
theorem ml_L_124 : Cond.methodLink RL 124 yX12_hardest ∈ WS := tb8 (List.mem_of_getElem? (i := 6) (by decide +kernel)) rfl
theorem ml_L_144 : Cond.methodLink RL 144 yX12_level ∈ WS := tb8 (List.mem_of_getElem? (i := 10) (by decide +kernel)) rfl
theorem ml_X12_321 : Cond.methodLink RX12 321 yX12_part ∈ WS := tb8 (List.mem_of_getElem? (i := 14) (by decide +kernel)) rfl
theorem ml_X12_318 : Cond.methodLink RX12 318 yX12_common ∈ WS := tb8 (List.mem_of_getElem? (i := 18) (by decide +kernel)) rfl
theorem ml_L_164 : Cond.methodLink RL 164 yX12_share ∈ WS := tb8 (List.mem_of_getElem? (i := 21) (by decide +kernel)) rfl
theorem ml_L_160 : Cond.methodLink RL 160 yX12_gains ∈ WS := tb8 (List.mem_of_getElem? (i := 25) (by decide +kernel)) rfl
theorem ml_L_148 : Cond.methodLink RL 148 yX12_trade ∈ WS := tb8 (List.mem_of_getElem? (i := 29) (by decide +kernel)) rfl
theorem ml_X12_340 : Cond.methodLink RX12 340 yX12_trades ∈ WS := tb8 (List.mem_of_getElem? (i := 33) (by decide +kernel)) rfl
theorem ml_X12_328 : Cond.methodLink RX12 328 yX12_all ∈ WS := tb8 (List.mem_of_getElem? (i := 37) (by decide +kernel)) rfl
theorem ml_L_168 : Cond.methodLink RL 168 yX12_write ∈ WS := tb8 (List.mem_of_getElem? (i := 41) (by decide +kernel)) rfl
theorem ml_X12_346 : Cond.methodLink RX12 346 yX12_writes ∈ WS := tb8 (List.mem_of_getElem? (i := 45) (by decide +kernel)) rfl
theorem ml_L_174 : Cond.methodLink RL 174 yX12_octet ∈ WS := tb8 (List.mem_of_getElem? (i := 49) (by decide +kernel)) rfl
theorem ml_L_80 : Cond.methodLink RL 80 yX12_best ∈ WS := tb8 (List.mem_of_getElem? (i := 53) (by decide +kernel)) rfl
theorem ml_L_84 : Cond.methodLink RL 84 yX12_bestOf ∈ WS := tb8 (List.mem_of_getElem? (i := 57) (by decide +kernel)) rfl
theorem ml_L_88 : Cond.methodLink RL 88 yX12_fair ∈ WS := tb8 (List.mem_of_getElem? (i := 61) (by decide +kernel)) rfl
theorem ml_L_92 : Cond.methodLink RL 92 yX12_fairOf ∈ WS := tb8 (List.mem_of_getElem? (i := 65) (by decide +kernel)) rfl
theorem ml_L_96 : Cond.methodLink RL 96 yX12_rows ∈ WS := tb8 (List.mem_of_getElem? (i := 69) (by decide +kernel)) rfl
theorem ml_X12_352 : Cond.methodLink RX12 352 yX12_countsRows ∈ WS := tb8 (List.mem_of_getElem? (i := 73) (by decide +kernel)) rfl
theorem ml_L_104 : Cond.methodLink RL 104 yX12_game ∈ WS := tb8 (List.mem_of_getElem? (i := 77) (by decide +kernel)) rfl
theorem ml_X12_377 : Cond.methodLink RX12 377 yX12_plays ∈ WS := tb8 (List.mem_of_getElem? (i := 81) (by decide +kernel)) rfl
theorem ml_X12_359 : Cond.methodLink RX12 359 yX12_keepsAside ∈ WS := tb8 (List.mem_of_getElem? (i := 85) (by decide +kernel)) rfl
theorem ml_X12_362 : Cond.methodLink RX12 362 yX12_ends ∈ WS := tb8 (List.mem_of_getElem? (i := 89) (by decide +kernel)) rfl
theorem ml_X12_365 : Cond.methodLink RX12 365 yX12_putsBack ∈ WS := tb8 (List.mem_of_getElem? (i := 93) (by decide +kernel)) rfl
theorem ml_L_108 : Cond.methodLink RL 108 yX12_path ∈ WS := tb8 (List.mem_of_getElem? (i := 97) (by decide +kernel)) rfl
theorem ml_X12_380 : Cond.methodLink RX12 380 yX12_takesRow ∈ WS := tb8 (List.mem_of_getElem? (i := 101) (by decide +kernel)) rfl
theorem ml_X12_383 : Cond.methodLink RX12 383 yX12_isSame ∈ WS := tb8 (List.mem_of_getElem? (i := 105) (by decide +kernel)) rfl
theorem ml_L_152 : Cond.methodLink RL 152 yX12_reach ∈ WS := tb8 (List.mem_of_getElem? (i := 109) (by decide +kernel)) rfl
theorem ml_L_156 : Cond.methodLink RL 156 yX12_next ∈ WS := tb8 (List.mem_of_getElem? (i := 113) (by decide +kernel)) rfl
theorem ml_L_181 : Cond.methodLink RL 181 yX12_price ∈ WS := tb8 (List.mem_of_getElem? (i := 117) (by decide +kernel)) rfl
theorem ml_X12_389 : Cond.methodLink RX12 389 yX12_changes ∈ WS := tb8 (List.mem_of_getElem? (i := 121) (by decide +kernel)) rfl
theorem ml_X12_386 : Cond.methodLink RX12 386 yX12_remembers ∈ WS := tb8 (List.mem_of_getElem? (i := 125) (by decide +kernel)) rfl
theorem ml_L_186 : Cond.methodLink RL 186 yX12_lay ∈ WS := tb8 (List.mem_of_getElem? (i := 129) (by decide +kernel)) rfl
theorem ml_L_190 : Cond.methodLink RL 190 yX12_quality ∈ WS := tb8 (List.mem_of_getElem? (i := 133) (by decide +kernel)) rfl
theorem ml_L_194 : Cond.methodLink RL 194 yX12_become ∈ WS := tb8 (List.mem_of_getElem? (i := 137) (by decide +kernel)) rfl
theorem ml_L_198 : Cond.methodLink RL 198 yX12_year ∈ WS := tb8 (List.mem_of_getElem? (i := 141) (by decide +kernel)) rfl
theorem ml_L_202 : Cond.methodLink RL 202 yX12_undo ∈ WS := tb8 (List.mem_of_getElem? (i := 145) (by decide +kernel)) rfl
theorem ml_L_207 : Cond.methodLink RL 207 yX12_keep ∈ WS := tb8 (List.mem_of_getElem? (i := 149) (by decide +kernel)) rfl
theorem ml_X12_392 : Cond.methodLink RX12 392 yX12_granted ∈ WS := tb8 (List.mem_of_getElem? (i := 153) (by decide +kernel)) rfl
theorem ml_L_211 : Cond.methodLink RL 211 yX12_back ∈ WS := tb8 (List.mem_of_getElem? (i := 157) (by decide +kernel)) rfl
theorem ml_L_215 : Cond.methodLink RL 215 yX12_book ∈ WS := tb8 (List.mem_of_getElem? (i := 161) (by decide +kernel)) rfl
theorem ml_L_219 : Cond.methodLink RL 219 yX12_letter ∈ WS := tb8 (List.mem_of_getElem? (i := 165) (by decide +kernel)) rfl
theorem ml_L_223 : Cond.methodLink RL 223 yX12_bytes ∈ WS := tb8 (List.mem_of_getElem? (i := 169) (by decide +kernel)) rfl
theorem ml_L_227 : Cond.methodLink RL 227 yX12_trouble ∈ WS := tb8 (List.mem_of_getElem? (i := 173) (by decide +kernel)) rfl
theorem mt_max : Cond.static Lib.Math.max.name ∈ WS ∧ Cond.initialized "java/lang/Math" ∈ WS ∧ Cond.code Lib.Math.max.name Lib.Math.max.code 2 (some .int) ∈ WS := ⟨tb3 (List.mem_of_getElem? (i := 144) (by decide +kernel)) rfl, tb1 (List.mem_of_getElem? (i := 18) (by decide +kernel)) rfl, tb3 (List.mem_of_getElem? (i := 145) (by decide +kernel)) rfl⟩
theorem mt_min : Cond.static Lib.Math.min.name ∈ WS ∧ Cond.initialized "java/lang/Math" ∈ WS ∧ Cond.code Lib.Math.min.name Lib.Math.min.code 2 (some .int) ∈ WS := ⟨tb4 (List.mem_of_getElem? (i := 81) (by decide +kernel)) rfl, tb1 (List.mem_of_getElem? (i := 18) (by decide +kernel)) rfl, tb4 (List.mem_of_getElem? (i := 82) (by decide +kernel)) rfl⟩
theorem mt_abs : Cond.static Lib.Math.abs.name ∈ WS ∧ Cond.initialized "java/lang/Math" ∈ WS ∧ Cond.code Lib.Math.abs.name Lib.Math.abs.code 1 (some .int) ∈ WS := ⟨tb4 (List.mem_of_getElem? (i := 6) (by decide +kernel)) rfl, tb1 (List.mem_of_getElem? (i := 18) (by decide +kernel)) rfl, tb4 (List.mem_of_getElem? (i := 7) (by decide +kernel)) rfl⟩
theorem mt_copy : Cond.native arraycopyName ∈ WS ∧ Cond.static arraycopyName ∈ WS ∧ Cond.initialized "java/lang/System" ∈ WS := ⟨tb3 (List.mem_of_getElem? (i := 153) (by decide +kernel)) rfl, tb3 (List.mem_of_getElem? (i := 152) (by decide +kernel)) rfl, tb1 (List.mem_of_getElem? (i := 19) (by decide +kernel)) rfl⟩
