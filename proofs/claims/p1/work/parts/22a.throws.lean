/-! what the tables say of the throws and of the catches -/
def tt_a (ws : List Cond) (ps : List Nat) : Bool := (ws.zip ps).all (fun q => tb_w q.2 q.1 || (decide (q.1 ∈ vt_ws) || decide (q.1 ∈ vt_xs))) && Nat.ble ws.length ps.length
theorem tt_a_of {ws : List Cond} {ps : List Nat} (h : tt_a ws ps = true) : ∀ w ∈ ws, w ∈ tb_T ∨ w ∈ vt_ws ∨ w ∈ vt_xs := by
  obtain ⟨h1, h2⟩ := Bool.and_eq_true_iff.mp h
  have h2 := Nat.le_of_ble_eq_true h2
  intro w hw
  obtain ⟨i, hi, rfl⟩ := List.getElem_of_mem hw
  have h3 := List.all_eq_true.mp h1 (ws[i], ps[i]'(Nat.lt_of_lt_of_le hi h2)) (List.mem_of_getElem? (i := i) (by
    rw [List.getElem?_eq_getElem (by rw [List.length_zip]; omega), List.getElem_zip]))
  rcases Bool.or_eq_true_iff.mp h3 with h4 | h4
  · exact Or.inl (tb_w_of h4)
  · rcases Bool.or_eq_true_iff.mp h4 with h5 | h5
    · exact Or.inr (Or.inl (of_decide_eq_true h5))
    · exact Or.inr (Or.inr (of_decide_eq_true h5))
theorem tt_ty : ∀ y, y < 230 → (tb_at y).2.2.2.2.2.2.1 ≠ [] → y ∈ ([105, 107, 126] : List Nat) := by decide +kernel
theorem tt_cy : ∀ y, y < 230 → (tb_at y).2.2.2.2.2.2.2 ≠ [] → y ∈ ([104, 106, 125] : List Nat) := by decide +kernel
theorem tt_len : tb_all.length = 230 := by decide +kernel
theorem tt_lt {y : Nat} (h : tb_at y ≠ tb_0) : y < 230 := by
  rcases Nat.lt_or_ge y 230 with h1 | h1
  · exact h1
  · exact absurd (by unfold tb_at; rw [List.getElem?_eq_none (by rw [tt_len]; exact h1)]; rfl) h
theorem tt_th {y pc : Nat} {E : String} (h : vz_Th P0 y pc = some E) : y ∈ ([105, 107, 126] : List Nat) ∧ (pc, E) ∈ (tb_at y).2.2.2.2.2.2.1 := by
  have hm := vz_lk_mem (show vz_lk (tb_at y).2.2.2.2.2.2.1 pc = some E from h)
  exact ⟨tt_ty y (tt_lt fun e => by rw [e] at hm; cases hm) (fun e => by rw [e] at hm; cases hm), hm⟩
theorem tt_ca {y pc : Nat} {t : String × Nat × Nat} (h : vz_Ca P0 y pc = some t) : y ∈ ([104, 106, 125] : List Nat) ∧ (pc, t) ∈ (tb_at y).2.2.2.2.2.2.2 := by
  have hm := vz_lk_mem (show vz_lk (tb_at y).2.2.2.2.2.2.2 pc = some t from h)
  exact ⟨tt_cy y (tt_lt fun e => by rw [e] at hm; cases hm) (fun e => by rw [e] at hm; cases hm), hm⟩
theorem tt_w_105_10 : tt_a (Bundle.ownAtoms "GameText" 94 "java/lang/IllegalArgumentException" ["java/lang/RuntimeException", "java/lang/Exception"]) [17, 1032, 1041, 1045, 1048, 1050, 1033, 1034, 34, 35, 1035, 1040, 1046, 1066, 1022, 1067, 1024, 1068, 1026, 1036, 0, 1038, 0, 1028, 1062, 1063, 1065, 1028, 1053, 1054, 1055, 1056, 1014, 1056, 1057, 1058, 1059, 1016, 1059, 1060, 1061, 1062, 1018, 1052, 1011, 1012, 1019, 1020, 1021, 1023, 1025, 1027, 0, 0, 1031, 1030, 1029] = true := by decide +kernel
theorem tt_d_105_10 : decode prog_1_method_3_code 10 = .ok (.new 90, 3) ∧ decode prog_1_method_3_code 13 = .ok (.dup, 1) ∧ decode prog_1_method_3_code 14 = .ok (.ldc 92, 2) ∧ decode prog_1_method_3_code 16 = .ok (.invokespecial 94, 3) ∧ decode prog_1_method_3_code 19 = .ok (.athrow, 1) := by decide +kernel
theorem tt_w_105_32 : tt_a (Bundle.ownAtoms "GameText" 94 "java/lang/IllegalArgumentException" ["java/lang/RuntimeException", "java/lang/Exception"]) [17, 1032, 1041, 1045, 1048, 1050, 1033, 1034, 34, 35, 1035, 1040, 1046, 1066, 1022, 1067, 1024, 1068, 1026, 1036, 0, 1038, 0, 1028, 1062, 1063, 1065, 1028, 1053, 1054, 1055, 1056, 1014, 1056, 1057, 1058, 1059, 1016, 1059, 1060, 1061, 1062, 1018, 1052, 1011, 1012, 1019, 1020, 1021, 1023, 1025, 1027, 0, 0, 1031, 1030, 1029] = true := by decide +kernel
theorem tt_d_105_32 : decode prog_1_method_3_code 32 = .ok (.new 90, 3) ∧ decode prog_1_method_3_code 35 = .ok (.dup, 1) ∧ decode prog_1_method_3_code 36 = .ok (.ldc 97, 2) ∧ decode prog_1_method_3_code 38 = .ok (.invokespecial 94, 3) ∧ decode prog_1_method_3_code 41 = .ok (.athrow, 1) := by decide +kernel
def tt_P (y pc : Nat) (E : String) : Prop := vz_hd P0 y = [] ∧ ∃ (ixn ixl ixi : Nat) (names : List String), decode (vz_bc P0 y) pc = .ok (.new ixn, 3) ∧ decode (vz_bc P0 y) (pc + 3) = .ok (.dup, 1) ∧ decode (vz_bc P0 y) (pc + 3 + 1) = .ok (.ldc ixl, 2) ∧ decode (vz_bc P0 y) (pc + 3 + 1 + 2) = .ok (.invokespecial ixi, 3) ∧ decode (vz_bc P0 y) (pc + 3 + 1 + 2 + 3) = .ok (.athrow, 1) ∧ names.length = 2 ∧ Bundle.fit E = true ∧ (∀ n ∈ names, Bundle.fit n = true) ∧ Cond.classLink (vz_own P0 y) ixn E ∈ tb_T ∧ Cond.instantiable E 6 ∈ tb_T ∧ Cond.initialized E ∈ tb_T ∧ ∀ w ∈ Bundle.ownAtoms (vz_own P0 y) ixi E names, w ∈ tb_T ∨ w ∈ vt_ws ∨ w ∈ vt_xs
theorem tt_t_105 : ∀ q ∈ tE_105.2.2.2.2.2.2.1, tt_P 105 q.1 q.2 := List.forall_mem_cons.mpr ⟨⟨rfl, 90, 92, 94, ["java/lang/RuntimeException", "java/lang/Exception"], tt_d_105_10.1, tt_d_105_10.2.1, tt_d_105_10.2.2.1, tt_d_105_10.2.2.2.1, tt_d_105_10.2.2.2.2, rfl, by decide +kernel, by decide +kernel, tb_w_of (p := 1010) (by decide +kernel), tb_w_of (p := 1011) (by decide +kernel), tb_w_of (p := 20) (by decide +kernel), tt_a_of tt_w_105_10⟩, List.forall_mem_cons.mpr ⟨⟨rfl, 90, 97, 94, ["java/lang/RuntimeException", "java/lang/Exception"], tt_d_105_32.1, tt_d_105_32.2.1, tt_d_105_32.2.2.1, tt_d_105_32.2.2.2.1, tt_d_105_32.2.2.2.2, rfl, by decide +kernel, by decide +kernel, tb_w_of (p := 1010) (by decide +kernel), tb_w_of (p := 1011) (by decide +kernel), tb_w_of (p := 20) (by decide +kernel), tt_a_of tt_w_105_32⟩, fun _ h => absurd h List.not_mem_nil⟩⟩
theorem tt_w_107_7 : tt_a (Bundle.ownAtoms "GameText" 130 "java/lang/IllegalStateException" ["java/lang/RuntimeException", "java/lang/Exception"]) [17, 1032, 1041, 1045, 1048, 1050, 1033, 1034, 34, 35, 1035, 1040, 1046, 1066, 1022, 1067, 1024, 1068, 1026, 1036, 0, 1038, 0, 1028, 1062, 1063, 1065, 1028, 1097, 1098, 1099, 1056, 1014, 1056, 1057, 1058, 1059, 1016, 1059, 1060, 1061, 1062, 1018, 1096, 1087, 1088, 1089, 1043, 1090, 1091, 1092, 1093, 0, 0, 1031, 1030, 1094] = true := by decide +kernel
theorem tt_d_107_7 : decode prog_1_method_8_code 7 = .ok (.new 126, 3) ∧ decode prog_1_method_8_code 10 = .ok (.dup, 1) ∧ decode prog_1_method_8_code 11 = .ok (.ldc 128, 2) ∧ decode prog_1_method_8_code 13 = .ok (.invokespecial 130, 3) ∧ decode prog_1_method_8_code 16 = .ok (.athrow, 1) := by decide +kernel
theorem tt_t_107 : ∀ q ∈ tE_107.2.2.2.2.2.2.1, tt_P 107 q.1 q.2 := List.forall_mem_cons.mpr ⟨⟨rfl, 126, 128, 130, ["java/lang/RuntimeException", "java/lang/Exception"], tt_d_107_7.1, tt_d_107_7.2.1, tt_d_107_7.2.2.1, tt_d_107_7.2.2.2.1, tt_d_107_7.2.2.2.2, rfl, by decide +kernel, by decide +kernel, tb_w_of (p := 1086) (by decide +kernel), tb_w_of (p := 1087) (by decide +kernel), tb_w_of (p := 26) (by decide +kernel), tt_a_of tt_w_107_7⟩, fun _ h => absurd h List.not_mem_nil⟩
theorem tt_w_126_26 : tt_a (Bundle.ownAtoms "GameText" 153 "java/lang/IndexOutOfBoundsException" ["java/lang/RuntimeException", "java/lang/Exception"]) [17, 1032, 1041, 1045, 1048, 1050, 1033, 1034, 34, 35, 1035, 1040, 1046, 1066, 1022, 1067, 1024, 1068, 1026, 1036, 0, 1038, 0, 1028, 1062, 1063, 1065, 1028, 1202, 1203, 1204, 1056, 1014, 1056, 1057, 1058, 1059, 1016, 1059, 1060, 1061, 1062, 1018, 1201, 1192, 1193, 1194, 1044, 1195, 1196, 1197, 1198, 0, 0, 1031, 1030, 1199] = true := by decide +kernel
theorem tt_d_126_26 : decode prog_1_method_11_code 26 = .ok (.new 149, 3) ∧ decode prog_1_method_11_code 29 = .ok (.dup, 1) ∧ decode prog_1_method_11_code 30 = .ok (.ldc 151, 2) ∧ decode prog_1_method_11_code 32 = .ok (.invokespecial 153, 3) ∧ decode prog_1_method_11_code 35 = .ok (.athrow, 1) := by decide +kernel
theorem tt_t_126 : ∀ q ∈ tE_126.2.2.2.2.2.2.1, tt_P 126 q.1 q.2 := List.forall_mem_cons.mpr ⟨⟨rfl, 149, 151, 153, ["java/lang/RuntimeException", "java/lang/Exception"], tt_d_126_26.1, tt_d_126_26.2.1, tt_d_126_26.2.2.1, tt_d_126_26.2.2.2.1, tt_d_126_26.2.2.2.2, rfl, by decide +kernel, by decide +kernel, tb_w_of (p := 1191) (by decide +kernel), tb_w_of (p := 1192) (by decide +kernel), tb_w_of (p := 27) (by decide +kernel), tt_a_of tt_w_126_26⟩, fun _ h => absurd h List.not_mem_nil⟩
theorem tg_T : vz_gT P0 tb_T := by
  intro y pc E h
  obtain ⟨h1, h2⟩ := tt_th h
  simp only [List.mem_cons, List.not_mem_nil, or_false] at h1
  rcases h1 with rfl | rfl | rfl
  · exact tt_t_105 (pc, E) h2
  · exact tt_t_107 (pc, E) h2
  · exact tt_t_126 (pc, E) h2
def tt_tx : List (Nat × Nat × Nat) := [(105, 10, 92), (105, 32, 97), (107, 7, 128), (126, 26, 151)]
theorem tt_x_104 : ∀ q ∈ tE_104.2.2.2.2.2.2.2, (∃ ix y2 n, decode (vz_bc P0 104) q.1 = .ok (.invokevirtual ix, 3) ∧ vz_Cl P0 104 ix = some (1, y2, n) ∧ Cond.methodLink (vz_own P0 104) ix (vz_mn P0 y2) ∈ tb_T) ∧ ∃ (a b h k : Nat), vz_hd P0 104 = [(a, b, h, k)] ∧ a ≤ q.1 ∧ q.1 < b ∧ k ≠ 0 ∧ Cond.classLink (vz_own P0 104) k q.2.1 ∈ tb_T ∧ q.2.2.2 < vz_ml P0 104 ∧ ((∃ j : Fin 4, (j : Nat) = q.2.2.2 ∧ decode (vz_bc P0 104) h = .ok (.astore_n j, 1) ∧ q.2.2.1 = h + 1) ∨ (decode (vz_bc P0 104) h = .ok (.astore q.2.2.2, 2) ∧ q.2.2.1 = h + 2)) :=
  List.forall_mem_cons.mpr ⟨⟨⟨7, 105, 1, by decide +kernel, rfl, tb_w_of (p := 1006) (by decide +kernel)⟩, 0, 9, 12, 13, rfl, by decide, by decide, by decide, tb_w_of (p := 1005) (by decide +kernel), by decide +kernel, Or.inl ⟨3, rfl, by decide +kernel, rfl⟩⟩, fun _ h => absurd h List.not_mem_nil⟩
theorem tt_x_106 : ∀ q ∈ tE_106.2.2.2.2.2.2.2, (∃ ix y2 n, decode (vz_bc P0 106) q.1 = .ok (.invokevirtual ix, 3) ∧ vz_Cl P0 106 ix = some (1, y2, n) ∧ Cond.methodLink (vz_own P0 106) ix (vz_mn P0 y2) ∈ tb_T) ∧ ∃ (a b h k : Nat), vz_hd P0 106 = [(a, b, h, k)] ∧ a ≤ q.1 ∧ q.1 < b ∧ k ≠ 0 ∧ Cond.classLink (vz_own P0 106) k q.2.1 ∈ tb_T ∧ q.2.2.2 < vz_ml P0 106 ∧ ((∃ j : Fin 4, (j : Nat) = q.2.2.2 ∧ decode (vz_bc P0 106) h = .ok (.astore_n j, 1) ∧ q.2.2.1 = h + 1) ∨ (decode (vz_bc P0 106) h = .ok (.astore q.2.2.2, 2) ∧ q.2.2.1 = h + 2)) :=
  List.forall_mem_cons.mpr ⟨⟨⟨15, 107, 0, by decide +kernel, rfl, tb_w_of (p := 1082) (by decide +kernel)⟩, 0, 8, 11, 19, rfl, by decide, by decide, by decide, tb_w_of (p := 1081) (by decide +kernel), by decide +kernel, Or.inl ⟨2, rfl, by decide +kernel, rfl⟩⟩, fun _ h => absurd h List.not_mem_nil⟩
theorem tt_x_125 : ∀ q ∈ tE_125.2.2.2.2.2.2.2, (∃ ix y2 n, decode (vz_bc P0 125) q.1 = .ok (.invokevirtual ix, 3) ∧ vz_Cl P0 125 ix = some (1, y2, n) ∧ Cond.methodLink (vz_own P0 125) ix (vz_mn P0 y2) ∈ tb_T) ∧ ∃ (a b h k : Nat), vz_hd P0 125 = [(a, b, h, k)] ∧ a ≤ q.1 ∧ q.1 < b ∧ k ≠ 0 ∧ Cond.classLink (vz_own P0 125) k q.2.1 ∈ tb_T ∧ q.2.2.2 < vz_ml P0 125 ∧ ((∃ j : Fin 4, (j : Nat) = q.2.2.2 ∧ decode (vz_bc P0 125) h = .ok (.astore_n j, 1) ∧ q.2.2.1 = h + 1) ∨ (decode (vz_bc P0 125) h = .ok (.astore q.2.2.2, 2) ∧ q.2.2.1 = h + 2)) :=
  List.forall_mem_cons.mpr ⟨⟨⟨21, 126, 2, by decide +kernel, rfl, tb_w_of (p := 1187) (by decide +kernel)⟩, 0, 10, 13, 25, rfl, by decide, by decide, by decide, tb_w_of (p := 1186) (by decide +kernel), by decide +kernel, Or.inr ⟨by decide +kernel, rfl⟩⟩, fun _ h => absurd h List.not_mem_nil⟩
theorem tg_X : vz_gX P0 tb_T := by
  intro y pc t h
  obtain ⟨h1, h2⟩ := tt_ca h
  simp only [List.mem_cons, List.not_mem_nil, or_false] at h1
  rcases h1 with rfl | rfl | rfl
  · exact tt_x_104 (pc, t) h2
  · exact tt_x_106 (pc, t) h2
  · exact tt_x_125 (pc, t) h2
