theorem mem_ps {big ws : List Cond} (ps : List Nat) (hp : ws = ps.filterMap (fun i => big[i]?)) : ∀ w ∈ ws, w ∈ big := fun w hw => by
  rw [hp] at hw
  obtain ⟨i, -, hi⟩ := List.mem_filterMap.mp hw
  exact List.mem_of_getElem? hi
set_option maxRecDepth 20000 in
theorem wsL_law0_r1_in : ∀ w ∈ wsL_law0_r1, w ∈ lw_tbl := mem_ps [102, 103, 77, 1184, 1185, 85, 1612, 104, 105, 106, 107, 108, 109, 147, 336, 148, 337, 110, 111, 78, 338, 180, 339, 149] (by decide +kernel)
set_option maxRecDepth 20000 in
theorem wsL_law0_r2_in : ∀ w ∈ wsL_law0_r2, w ∈ lw_tbl := mem_ps [340, 341, 182, 80, 342, 213, 214, 81, 343, 282, 283, 83, 344, 113, 114, 115, 116, 150, 118, 151, 120, 121, 79, 152] (by decide +kernel)
set_option maxRecDepth 20000 in
theorem wsL_law0_r3_in : ∀ w ∈ wsL_law0_r3, w ∈ lw_tbl := mem_ps [123, 124, 125, 126, 127, 129, 131, 184, 185, 186, 189, 215, 216, 217, 218, 219, 253, 259, 221, 82, 223, 224, 225, 226] (by decide +kernel)
set_option maxRecDepth 20000 in
theorem wsL_law0_r4_in : ∀ w ∈ wsL_law0_r4, w ∈ lw_tbl := mem_ps [229, 284, 285, 286, 287, 288, 289, 84, 309, 313, 307, 314, 315, 316, 291, 292, 293, 294, 1186, 1187, 1188, 1189, 1191, 1193] (by decide +kernel)
set_option maxRecDepth 20000 in
theorem wsL_law0_r5_in : ∀ w ∈ wsL_law0_r5, w ∈ lw_tbl := mem_ps [1194, 1195, 1196, 1197, 1198, 1199, 1201, 1202, 1203, 1204, 1205, 1206, 1207, 1208, 1209, 1214, 1216, 1218, 1219, 1220, 1221, 1222, 1223, 1224] (by decide +kernel)
set_option maxRecDepth 20000 in
theorem wsL_law0_r6_in : ∀ w ∈ wsL_law0_r6, w ∈ lw_tbl := mem_ps [1225, 1226, 1232, 1234, 1235, 1236, 1237, 1238, 1240, 1241, 1242, 1243, 1244, 373, 374, 76, 375, 376, 377, 378, 379, 380, 381, 89] (by decide +kernel)
