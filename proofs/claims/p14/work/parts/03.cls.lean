/-- the classes by number: name, fields, how many -/
def ab_cl : List vw_C := [(RX0, TX0, 10), (RX1, TX1, 10), (RX2, TX2, 3), (RX3, TX3, 14), (RX4, TX4, 9), (RX5, TX5, 11), (RX6, TX6, 3), (RX7, TX7, 12), (RX8, TX8, 9), (RX9, TX9, 17), (RX10, TX10, 70)]
def ab_N (ci : Nat) : Nat := match ci with
  | 0 => 10
  | 1 => 10
  | 2 => 3
  | 3 => 14
  | 4 => 9
  | 5 => 11
  | 6 => 3
  | 7 => 12
  | 8 => 9
  | 9 => 17
  | _ => 70
def ab_ty (ci : Nat) : Nat → FieldType := match ci with
  | 0 => tyX0
  | 1 => tyX1
  | 2 => tyX2
  | 3 => tyX3
  | 4 => tyX4
  | 5 => tyX5
  | 6 => tyX6
  | 7 => tyX7
  | 8 => tyX8
  | 9 => tyX9
  | _ => tyX10
def ab_tb : List Cond := lw_tbl.filter goodWord
theorem ab_tb_of {w : Cond} {i : Nat} (h : lw_tbl[i]? = some w) (hg : goodWord w = true) : w ∈ ab_tb := List.mem_filter.mpr ⟨List.mem_of_getElem? h, hg⟩
theorem ab_tb_good : GoodIn ab_tb ab_tb := fun w h => ⟨h, good_of_word (List.mem_filter.mp h).2⟩
theorem ab_pl {ws : List Cond} (ps : List Nat) (hp : ws = ps.filterMap (fun i => lw_tbl[i]?)) (hg : ws.all goodWord = true) : ∀ w ∈ ws, w ∈ ab_tb := fun w h => by
  have h2 := (List.all_eq_true.mp hg) w h
  rw [hp] at h
  obtain ⟨i, -, hi⟩ := List.mem_filterMap.mp h
  exact ab_tb_of hi h2
theorem ab_lay_0 : ∀ w ∈ u_ws RX0 TX0 10, w ∈ ab_tb := ab_pl [247, 249, 251, 253, 255, 257, 259, 261, 263, 265] (by decide +kernel) (by decide +kernel)
theorem ab_ini_0 : Cond.initialized RX0 ∈ ab_tb ∧ Cond.instantiable RX0 10 ∈ ab_tb := ⟨ab_tb_of (i := 103) (by decide +kernel) rfl, ab_tb_of (i := 224) (by decide +kernel) rfl⟩
theorem ab_lay_1 : ∀ w ∈ u_ws RX1 TX1 10, w ∈ ab_tb := ab_pl [291, 293, 295, 297, 299, 301, 303, 305, 307, 309] (by decide +kernel) (by decide +kernel)
theorem ab_ini_1 : Cond.initialized RX1 ∈ ab_tb ∧ Cond.instantiable RX1 10 ∈ ab_tb := ⟨ab_tb_of (i := 105) (by decide +kernel) rfl, ab_tb_of (i := 275) (by decide +kernel) rfl⟩
theorem ab_lay_2 : ∀ w ∈ u_ws RX2 TX2 3, w ∈ ab_tb := ab_pl [399, 401, 403] (by decide +kernel) (by decide +kernel)
theorem ab_ini_2 : Cond.initialized RX2 ∈ ab_tb ∧ Cond.instantiable RX2 3 ∈ ab_tb := ⟨ab_tb_of (i := 107) (by decide +kernel) rfl, ab_tb_of (i := 390) (by decide +kernel) rfl⟩
theorem ab_lay_3 : ∀ w ∈ u_ws RX3 TX3 14, w ∈ ab_tb := ab_pl [459, 461, 463, 465, 467, 469, 471, 473, 475, 477, 479, 481, 483, 485] (by decide +kernel) (by decide +kernel)
theorem ab_ini_3 : Cond.initialized RX3 ∈ ab_tb ∧ Cond.instantiable RX3 14 ∈ ab_tb := ⟨ab_tb_of (i := 108) (by decide +kernel) rfl, ab_tb_of (i := 409) (by decide +kernel) rfl⟩
theorem ab_lay_4 : ∀ w ∈ u_ws RX4 TX4 9, w ∈ ab_tb := ab_pl [145, 147, 149, 151, 153, 155, 157, 159, 161] (by decide +kernel) (by decide +kernel)
theorem ab_ini_4 : Cond.initialized RX4 ∈ ab_tb ∧ Cond.instantiable RX4 9 ∈ ab_tb := ⟨ab_tb_of (i := 101) (by decide +kernel) rfl, ab_tb_of (i := 128) (by decide +kernel) rfl⟩
theorem ab_lay_5 : ∀ w ∈ u_ws RX5 TX5 11, w ∈ ab_tb := ab_pl [366, 368, 370, 372, 374, 376, 378, 380, 382, 384, 386] (by decide +kernel) (by decide +kernel)
theorem ab_ini_5 : Cond.initialized RX5 ∈ ab_tb ∧ Cond.instantiable RX5 11 ∈ ab_tb := ⟨ab_tb_of (i := 106) (by decide +kernel) rfl, ab_tb_of (i := 346) (by decide +kernel) rfl⟩
theorem ab_lay_6 : ∀ w ∈ u_ws RX6 TX6 3, w ∈ ab_tb := ab_pl [498, 500, 502] (by decide +kernel) (by decide +kernel)
theorem ab_ini_6 : Cond.initialized RX6 ∈ ab_tb ∧ Cond.instantiable RX6 3 ∈ ab_tb := ⟨ab_tb_of (i := 109) (by decide +kernel) rfl, ab_tb_of (i := 488) (by decide +kernel) rfl⟩
theorem ab_lay_7 : ∀ w ∈ u_ws RX7 TX7 12, w ∈ ab_tb := ab_pl [197, 199, 201, 203, 205, 207, 209, 211, 213, 215, 217, 219] (by decide +kernel) (by decide +kernel)
theorem ab_ini_7 : Cond.initialized RX7 ∈ ab_tb ∧ Cond.instantiable RX7 12 ∈ ab_tb := ⟨ab_tb_of (i := 102) (by decide +kernel) rfl, ab_tb_of (i := 166) (by decide +kernel) rfl⟩
theorem ab_lay_8 : ∀ w ∈ u_ws RX8 TX8 9, w ∈ ab_tb := ab_pl [326, 328, 330, 332, 334, 336, 338, 340, 342] (by decide +kernel) (by decide +kernel)
theorem ab_ini_8 : Cond.initialized RX8 ∈ ab_tb ∧ Cond.instantiable RX8 9 ∈ ab_tb := ⟨ab_tb_of (i := 104) (by decide +kernel) rfl, ab_tb_of (i := 269) (by decide +kernel) rfl⟩
theorem ab_lay_9 : ∀ w ∈ u_ws RX9 TX9 17, w ∈ ab_tb := ab_pl [522, 524, 526, 528, 530, 532, 534, 536, 538, 540, 542, 544, 546, 548, 550, 552, 554] (by decide +kernel) (by decide +kernel)
theorem ab_ini_9 : Cond.initialized RX9 ∈ ab_tb ∧ Cond.instantiable RX9 17 ∈ ab_tb := ⟨ab_tb_of (i := 100) (by decide +kernel) rfl, ab_tb_of (i := 120) (by decide +kernel) rfl⟩
theorem ab_lay_10 : ∀ w ∈ u_ws RX10 TX10 70, w ∈ ab_tb := ab_pl [1257, 1259, 1261, 1263, 1265, 1267, 1269, 1271, 1273, 1275, 1277, 1279, 1281, 1283, 1285, 1287, 1289, 1291, 1293, 1295, 1297, 1299, 1301, 1303, 1305, 1307, 1309, 1311, 1313, 1315, 1317, 1319, 1321, 1323, 1325, 1327, 1329, 1331, 1333, 1335, 1337, 1339, 1341, 1343, 1345, 1347, 1349, 1351, 1353, 1355, 1357, 1359, 1361, 1363, 1365, 1367, 1369, 1371, 1373, 1375, 1377, 1379, 1381, 1383, 1385, 1387, 1389, 1391, 1393, 1395] (by decide +kernel) (by decide +kernel)
theorem ab_ini_10 : Cond.initialized RX10 ∈ ab_tb ∧ Cond.instantiable RX10 70 ∈ ab_tb := ⟨ab_tb_of (i := 110) (by decide +kernel) rfl, ab_tb_of (i := 1182) (by decide +kernel) rfl⟩
theorem ab_cl_ok {ci : Nat} {C : String} {T : u_T} {N : Nat} (h : ab_cl[ci]? = some (C, T, N)) : (∀ w ∈ u_ws C T N, w ∈ ab_tb) ∧ (∀ k, k < N → parseFieldDescriptor (T k).2.2.1 = some (ab_ty ci k)) ∧ (∀ a, a < N → ∀ b, b < N → a ≠ b → (T a).2.1 ≠ (T b).2.1) ∧ (Cond.initialized C ∈ ab_tb ∧ Cond.instantiable C N ∈ ab_tb) ∧ N = ab_N ci := by
  match ci, h with
  | 0, h => cases h; exact ⟨ab_lay_0, tyX0_ok, nmX0, ab_ini_0, rfl⟩
  | 1, h => cases h; exact ⟨ab_lay_1, tyX1_ok, nmX1, ab_ini_1, rfl⟩
  | 2, h => cases h; exact ⟨ab_lay_2, tyX2_ok, nmX2, ab_ini_2, rfl⟩
  | 3, h => cases h; exact ⟨ab_lay_3, tyX3_ok, nmX3, ab_ini_3, rfl⟩
  | 4, h => cases h; exact ⟨ab_lay_4, tyX4_ok, nmX4, ab_ini_4, rfl⟩
  | 5, h => cases h; exact ⟨ab_lay_5, tyX5_ok, nmX5, ab_ini_5, rfl⟩
  | 6, h => cases h; exact ⟨ab_lay_6, tyX6_ok, nmX6, ab_ini_6, rfl⟩
  | 7, h => cases h; exact ⟨ab_lay_7, tyX7_ok, nmX7, ab_ini_7, rfl⟩
  | 8, h => cases h; exact ⟨ab_lay_8, tyX8_ok, nmX8, ab_ini_8, rfl⟩
  | 9, h => cases h; exact ⟨ab_lay_9, tyX9_ok, nmX9, ab_ini_9, rfl⟩
  | 10, h => cases h; exact ⟨ab_lay_10, tyX10_ok, nmX10, ab_ini_10, rfl⟩
  | k + 11, h => simp [ab_cl] at h
