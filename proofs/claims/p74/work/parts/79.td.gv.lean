theorem q_mem_T : ∀ (l : List Cond) (ps : List Nat), l = ps.filterMap (fun i => q_tat q_D i) → l.all goodWord = true → ∀ w ∈ l, w ∈ q_T q_D := by
  intro l ps hl hg w hw
  have h2 := List.all_eq_true.mp hg w hw
  rw [hl] at hw
  obtain ⟨i, -, hi⟩ := List.mem_filterMap.mp hw
  exact q_T_at hi h2
theorem q_gv_cl : ∀ (ci : Nat) (C : String) (T : u_T) (N : Nat), (q_gC q_D)[ci]? = some (C, T, N) → (∀ w ∈ u_ws C T N, w ∈ q_T q_D) ∧ (∀ k, k < N → parseFieldDescriptor (T k).2.2.1 = some (q_gY q_D ci k)) ∧ (∀ a, a < N → ∀ b, b < N → a ≠ b → (T a).2.1 ≠ (T b).2.1) ∧ Cond.instantiable C N ∈ q_T q_D ∧ Cond.initialized C ∈ q_T q_D := by
  intro ci C T N h
  match ci, h with
  | 0, h => cases h; exact ⟨q_mem_T _ [1195, 1197, 1199] (by decide +kernel) (by decide +kernel), tyX0_ok, nmX0, q_T_at (pos := 1187) (by decide +kernel) rfl, q_T_at (pos := 1005) (by decide +kernel) rfl⟩
  | 1, h => cases h; exact ⟨q_mem_T _ [1215, 1217, 1219, 1221, 1223, 1225] (by decide +kernel) (by decide +kernel), tyX1_ok, nmX1, q_T_at (pos := 1203) (by decide +kernel) rfl, q_T_at (pos := 1006) (by decide +kernel) rfl⟩
  | 2, h => cases h; exact ⟨q_mem_T _ [2043, 2045] (by decide +kernel) (by decide +kernel), tyX2_ok, nmX2, q_T_at (pos := 2036) (by decide +kernel) rfl, q_T_at (pos := 1009) (by decide +kernel) rfl⟩
  | 3, h => cases h; exact ⟨q_mem_T _ [2001, 2003, 2005, 2007, 2009, 2011, 2013] (by decide +kernel) (by decide +kernel), tyX3_ok, nmX3, q_T_at (pos := 1229) (by decide +kernel) rfl, q_T_at (pos := 1007) (by decide +kernel) rfl⟩
  | 4, h => cases h; exact ⟨q_mem_T _ [2026, 2028, 2030, 2032] (by decide +kernel) (by decide +kernel), tyX4_ok, nmX4, q_T_at (pos := 2017) (by decide +kernel) rfl, q_T_at (pos := 1008) (by decide +kernel) rfl⟩
  | 5, h => cases h; exact ⟨q_mem_T _ [1060, 1062, 1064, 1066, 1068, 1070, 1072] (by decide +kernel) (by decide +kernel), tyX5_ok, nmX5, q_T_at (pos := 1046) (by decide +kernel) rfl, q_T_at (pos := 1003) (by decide +kernel) rfl⟩
  | 6, h => cases h; exact ⟨q_mem_T _ [2061, 2063, 2065] (by decide +kernel) (by decide +kernel), tyX6_ok, nmX6, q_T_at (pos := 2048) (by decide +kernel) rfl, q_T_at (pos := 1010) (by decide +kernel) rfl⟩
  | 7, h => cases h; exact ⟨q_mem_T _ [1039, 1041] (by decide +kernel) (by decide +kernel), tyX7_ok, nmX7, q_T_at (pos := 1029) (by decide +kernel) rfl, q_T_at (pos := 1002) (by decide +kernel) rfl⟩
  | 8, h => cases h; exact ⟨q_mem_T _ [1145, 1147, 1149, 1151, 1153, 1155, 1157, 1159, 1161, 1163, 1165, 1167, 1169, 1171, 1173, 1175, 1177, 1179] (by decide +kernel) (by decide +kernel), tyX8_ok, nmX8, q_T_at (pos := 1076) (by decide +kernel) rfl, q_T_at (pos := 1004) (by decide +kernel) rfl⟩
  | 9, h => cases h; exact ⟨q_mem_T _ [2081, 2083, 2085, 2087, 2089, 2091, 2093, 2095, 2097, 2099, 2101, 2103] (by decide +kernel) (by decide +kernel), tyX9_ok, nmX9, q_T_at (pos := 1021) (by decide +kernel) rfl, q_T_at (pos := 1001) (by decide +kernel) rfl⟩
  | 10, h => cases h; exact ⟨q_mem_T _ [6123, 6125, 6127, 6129, 6131, 6133, 6135, 6137, 6139, 6141, 6143, 6145, 6147, 6149, 6151, 6153, 6155, 6157, 6159, 6161, 6163, 6165, 6167, 6169, 6171, 6173, 6175, 6177, 6179, 6181, 6183, 6185, 6187, 6189, 6191, 6193, 6195, 6197, 6199, 6201, 6203] (by decide +kernel) (by decide +kernel), tyX10_ok, nmX10, q_T_at (pos := 6078) (by decide +kernel) rfl, q_T_at (pos := 1011) (by decide +kernel) rfl⟩
  | k + 11, h => simp [q_gC, q_D, vwCl] at h
theorem q_gv : q_GV q_D := ⟨q_gv_cl, q_mem_T q_sys [3043, 3042, 1018, 1026, 1027] (by decide +kernel) (by decide +kernel), q_mem_T s_all [2171, 2175, 2181, 2185, 2188, 2191, 2196, 1014, 1015, 1016, 2169, 2170, 2173, 2174, 2179, 2180, 2183, 2184, 2187, 2190, 2195, 2172, 2176, 2182, 2186, 2189, 2192, 2194, 9141, 9142] (by decide +kernel) (by decide +kernel)⟩
theorem q_lwT : ∀ w ∈ q_T q_D, w ∈ lw_tbl := by
  intro w hw
  have h := (List.mem_filter.mp hw).1
  simpa [q_gT, q_D, q_dT, lw_tbl, tables_1] using h
