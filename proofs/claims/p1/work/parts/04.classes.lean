theorem tk_nm_0 : ∀ a, a < 10 → ∀ b, b < 10 → a ≠ b → (tc_0 a).2.1 ≠ (tc_0 b).2.1 := by decide +kernel
theorem tk_ty_0 : ∀ k, k < 10 → parseFieldDescriptor (tc_0 k).2.2.1 = some (tt_0 k) := by decide +kernel
theorem tk_ws_0 : ∀ k, k < 10 → tb_w (([489, 491, 493, 495, 497, 499, 501, 503, 505, 507] : List Nat).getD k 0) (u_lay "GameText" tc_0 k) = true := by decide +kernel
theorem tk_nm_1 : ∀ a, a < 7 → ∀ b, b < 7 → a ≠ b → (tc_1 a).2.1 ≠ (tc_1 b).2.1 := by decide +kernel
theorem tk_ty_1 : ∀ k, k < 7 → parseFieldDescriptor (tc_1 k).2.2.1 = some (tt_1 k) := by decide +kernel
theorem tk_ws_1 : ∀ k, k < 7 → tb_w (([58, 60, 62, 64, 66, 68, 70] : List Nat).getD k 0) (u_lay "GameText$Words" tc_1 k) = true := by decide +kernel
theorem tk_nm_2 : ∀ a, a < 12 → ∀ b, b < 12 → a ≠ b → (tc_2 a).2.1 ≠ (tc_2 b).2.1 := by decide +kernel
theorem tk_ty_2 : ∀ k, k < 12 → parseFieldDescriptor (tc_2 k).2.2.1 = some (tt_2 k) := by decide +kernel
theorem tk_ws_2 : ∀ k, k < 12 → tb_w (([183, 185, 187, 189, 191, 193, 195, 197, 199, 201, 203, 205] : List Nat).getD k 0) (u_lay "GameText$Text" tc_2 k) = true := by decide +kernel
theorem tk_nm_3 : ∀ a, a < 9 → ∀ b, b < 9 → a ≠ b → (tc_3 a).2.1 ≠ (tc_3 b).2.1 := by decide +kernel
theorem tk_ty_3 : ∀ k, k < 9 → parseFieldDescriptor (tc_3 k).2.2.1 = some (tt_3 k) := by decide +kernel
theorem tk_ws_3 : ∀ k, k < 9 → tb_w (([126, 128, 130, 132, 134, 136, 138, 140, 142] : List Nat).getD k 0) (u_lay "GameText$Code" tc_3 k) = true := by decide +kernel
theorem tk_nm_4 : ∀ a, a < 17 → ∀ b, b < 17 → a ≠ b → (tc_4 a).2.1 ≠ (tc_4 b).2.1 := by decide +kernel
theorem tk_ty_4 : ∀ k, k < 17 → parseFieldDescriptor (tc_4 k).2.2.1 = some (tt_4 k) := by decide +kernel
theorem tk_ws_4 : ∀ k, k < 17 → tb_w (([231, 233, 235, 237, 239, 241, 243, 245, 247, 249, 251, 253, 255, 257, 259, 261, 263] : List Nat).getD k 0) (u_lay "GameText$Parser" tc_4 k) = true := by decide +kernel
theorem tk_nm_5 : ∀ a, a < 9 → ∀ b, b < 9 → a ≠ b → (tc_5 a).2.1 ≠ (tc_5 b).2.1 := by decide +kernel
theorem tk_ty_5 : ∀ k, k < 9 → parseFieldDescriptor (tc_5 k).2.2.1 = some (tt_5 k) := by decide +kernel
theorem tk_ws_5 : ∀ k, k < 9 → tb_w (([285, 287, 289, 291, 293, 295, 297, 299, 301] : List Nat).getD k 0) (u_lay "GameText$Machine" tc_5 k) = true := by decide +kernel
theorem tk_nm_6 : ∀ a, a < 13 → ∀ b, b < 13 → a ≠ b → (tc_6 a).2.1 ≠ (tc_6 b).2.1 := by decide +kernel
theorem tk_ty_6 : ∀ k, k < 13 → parseFieldDescriptor (tc_6 k).2.2.1 = some (tt_6 k) := by decide +kernel
theorem tk_ws_6 : ∀ k, k < 13 → tb_w (([353, 355, 357, 359, 361, 363, 365, 367, 369, 371, 373, 375, 377] : List Nat).getD k 0) (u_lay "GameText$Checker" tc_6 k) = true := by decide +kernel
theorem tk_nm_7 : ∀ a, a < 6 → ∀ b, b < 6 → a ≠ b → (tc_7 a).2.1 ≠ (tc_7 b).2.1 := by decide +kernel
theorem tk_ty_7 : ∀ k, k < 6 → parseFieldDescriptor (tc_7 k).2.2.1 = some (tt_7 k) := by decide +kernel
theorem tk_ws_7 : ∀ k, k < 6 → tb_w (([326, 328, 330, 332, 334, 336] : List Nat).getD k 0) (u_lay "GameText$Names" tc_7 k) = true := by decide +kernel
theorem tk_nm_8 : ∀ a, a < 13 → ∀ b, b < 13 → a ≠ b → (tc_8 a).2.1 ≠ (tc_8 b).2.1 := by decide +kernel
theorem tk_ty_8 : ∀ k, k < 13 → parseFieldDescriptor (tc_8 k).2.2.1 = some (tt_8 k) := by decide +kernel
theorem tk_ws_8 : ∀ k, k < 13 → tb_w (([412, 414, 416, 418, 420, 422, 424, 426, 428, 430, 432, 434, 436] : List Nat).getD k 0) (u_lay "GameText$Graph" tc_8 k) = true := by decide +kernel
theorem tk_nm_9 : ∀ a, a < 10 → ∀ b, b < 10 → a ≠ b → (tc_9 a).2.1 ≠ (tc_9 b).2.1 := by decide +kernel
theorem tk_ty_9 : ∀ k, k < 10 → parseFieldDescriptor (tc_9 k).2.2.1 = some (tt_9 k) := by decide +kernel
theorem tk_ws_9 : ∀ k, k < 10 → tb_w (([458, 460, 462, 464, 466, 468, 470, 472, 474, 476] : List Nat).getD k 0) (u_lay "GameText$Explorer" tc_9 k) = true := by decide +kernel
theorem tk_nm_10 : ∀ a, a < 45 → ∀ b, b < 45 → a ≠ b → (tc_10 a).2.1 ≠ (tc_10 b).2.1 := by decide +kernel
theorem tk_ty_10 : ∀ k, k < 45 → parseFieldDescriptor (tc_10 k).2.2.1 = some (tt_10 k) := by decide +kernel
theorem tk_ws_10 : ∀ k, k < 45 → tb_w (([1405, 1407, 1409, 1411, 1413, 1415, 1417, 1419, 1421, 1423, 1425, 1427, 1429, 1431, 1433, 1435, 1437, 1439, 1441, 1443, 1445, 1447, 1449, 1451, 1453, 1455, 1457, 1459, 1461, 1463, 1465, 1467, 1469, 1471, 1473, 1475, 1477, 1479, 1481, 1483, 1485, 1487, 1489, 1491, 1493] : List Nat).getD k 0) (u_lay "GameTextModel" tc_10 k) = true := by decide +kernel
theorem tk_nm_11 : ∀ a, a < 2 → ∀ b, b < 2 → a ≠ b → (tc_11 a).2.1 ≠ (tc_11 b).2.1 := by decide +kernel
theorem tk_ty_11 : ∀ k, k < 2 → parseFieldDescriptor (tc_11 k).2.2.1 = some (tt_11 k) := by decide +kernel
theorem tk_ws_11 : ∀ k, k < 2 → tb_w (([1224, 1226] : List Nat).getD k 0) (u_lay "GameTextModel$Numbers" tc_11 k) = true := by decide +kernel
theorem tk_nm_12 : ∀ a, a < 30 → ∀ b, b < 30 → a ≠ b → (tc_12 a).2.1 ≠ (tc_12 b).2.1 := by decide +kernel
theorem tk_ty_12 : ∀ k, k < 30 → parseFieldDescriptor (tc_12 k).2.2.1 = some (tt_12 k) := by decide +kernel
theorem tk_ws_12 : ∀ k, k < 30 → tb_w (([1297, 1299, 1301, 1303, 1305, 1307, 1309, 1311, 1313, 1315, 1317, 1319, 1321, 1323, 1325, 1327, 1329, 1331, 1333, 1335, 1337, 1339, 1341, 1343, 1345, 1347, 1349, 1351, 1353, 1355] : List Nat).getD k 0) (u_lay "GameTextModel$Game" tc_12 k) = true := by decide +kernel
/-- a class of the table: its words, types and names -/
def tk_clP (C : String) (T : u_T) (N : Nat) : Prop := (∀ w ∈ u_ws C T N, w ∈ tb_T) ∧ (∃ ty0 : Nat → FieldType, ∀ k, k < N → parseFieldDescriptor (T k).2.2.1 = some (ty0 k)) ∧ ∀ a, a < N → ∀ b, b < N → a ≠ b → (T a).2.1 ≠ (T b).2.1
theorem tk_ws {C : String} {T : u_T} {N : Nat} {ps : List Nat} (h : ∀ k, k < N → tb_w (ps.getD k 0) (u_lay C T k) = true) : ∀ w ∈ u_ws C T N, w ∈ tb_T := by
  intro w hw
  obtain ⟨k, hk, rfl⟩ := List.mem_map.mp hw
  exact tb_w_of (h k (List.mem_range.mp hk))
theorem tk_cl : ∀ q ∈ tb_cl, tk_clP q.1 q.2.1 q.2.2 := by
  intro q hq
  unfold tb_cl at hq
  simp only [List.mem_cons, List.not_mem_nil, or_false] at hq
  rcases hq with rfl | rfl | rfl | rfl | rfl | rfl | rfl | rfl | rfl | rfl | rfl | rfl | rfl
  · exact ⟨tk_ws tk_ws_0, ⟨tt_0, tk_ty_0⟩, tk_nm_0⟩
  · exact ⟨tk_ws tk_ws_1, ⟨tt_1, tk_ty_1⟩, tk_nm_1⟩
  · exact ⟨tk_ws tk_ws_2, ⟨tt_2, tk_ty_2⟩, tk_nm_2⟩
  · exact ⟨tk_ws tk_ws_3, ⟨tt_3, tk_ty_3⟩, tk_nm_3⟩
  · exact ⟨tk_ws tk_ws_4, ⟨tt_4, tk_ty_4⟩, tk_nm_4⟩
  · exact ⟨tk_ws tk_ws_5, ⟨tt_5, tk_ty_5⟩, tk_nm_5⟩
  · exact ⟨tk_ws tk_ws_6, ⟨tt_6, tk_ty_6⟩, tk_nm_6⟩
  · exact ⟨tk_ws tk_ws_7, ⟨tt_7, tk_ty_7⟩, tk_nm_7⟩
  · exact ⟨tk_ws tk_ws_8, ⟨tt_8, tk_ty_8⟩, tk_nm_8⟩
  · exact ⟨tk_ws tk_ws_9, ⟨tt_9, tk_ty_9⟩, tk_nm_9⟩
  · exact ⟨tk_ws tk_ws_10, ⟨tt_10, tk_ty_10⟩, tk_nm_10⟩
  · exact ⟨tk_ws tk_ws_11, ⟨tt_11, tk_ty_11⟩, tk_nm_11⟩
  · exact ⟨tk_ws tk_ws_12, ⟨tt_12, tk_ty_12⟩, tk_nm_12⟩
