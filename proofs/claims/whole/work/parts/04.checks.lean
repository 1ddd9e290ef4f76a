-- THE STATIC CHECKS OF AN ITEM
def ax_fl_0 : List (Nat × Nat × Nat × Nat × Nat) := [(95, 5, 11, 5, 0), (96, 5, 19, 5, 1), (97, 8, 73, 5, 1), (98, 5, 27, 5, 2), (99, 8, 96, 5, 2), (100, 5, 15, 5, 3), (101, 8, 99, 5, 3), (102, 5, 30, 5, 4), (103, 5, 36, 5, 5), (104, 5, 224, 5, 6), (105, 5, 60, 5, 7), (106, 5, 196, 5, 8), (107, 5, 207, 5, 9), (142, 7, 9, 7, 0), (143, 4, 58, 7, 0), (144, 1, 73, 7, 0), (145, 8, 109, 7, 0), (146, 7, 15, 7, 1), (147, 1, 78, 7, 1), (148, 8, 116, 7, 1)]
def ax_fl_1 : List (Nat × Nat × Nat × Nat × Nat) := [(149, 4, 97, 7, 1), (150, 7, 18, 7, 2), (151, 4, 65, 7, 2), (152, 1, 90, 7, 2), (153, 6, 61, 7, 2), (154, 8, 129, 7, 2), (155, 7, 22, 7, 3), (156, 1, 81, 7, 3), (157, 8, 132, 7, 3), (158, 4, 104, 7, 3), (159, 7, 25, 7, 4), (160, 1, 84, 7, 4), (161, 8, 275, 7, 4), (162, 7, 28, 7, 5), (163, 1, 87, 7, 5), (164, 8, 164, 7, 5), (179, 4, 12, 4, 0), (180, 4, 18, 4, 1), (181, 4, 22, 4, 2), (182, 4, 25, 4, 3)]
def ax_fl_2 : List (Nat × Nat × Nat × Nat × Nat) := [(183, 4, 28, 4, 4), (184, 4, 31, 4, 5), (185, 4, 34, 4, 6), (186, 4, 37, 4, 7), (187, 4, 86, 4, 8), (188, 4, 79, 4, 9), (216, 3, 11, 3, 0), (217, 3, 22, 3, 1), (218, 3, 15, 3, 2), (219, 8, 278, 3, 2), (220, 3, 19, 3, 3), (236, 0, 11, 0, 0), (237, 0, 15, 0, 1), (252, 6, 11, 6, 0), (253, 6, 15, 6, 1), (254, 6, 18, 6, 2), (255, 6, 22, 6, 3), (256, 6, 25, 6, 4), (257, 6, 31, 6, 5), (258, 6, 35, 6, 6)]
def ax_fl_3 : List (Nat × Nat × Nat × Nat × Nat) := [(259, 6, 39, 6, 7), (260, 6, 42, 6, 8), (261, 6, 45, 6, 9), (262, 8, 284, 6, 9), (263, 6, 49, 6, 10), (301, 2, 9, 2, 0), (302, 2, 13, 2, 1), (303, 2, 16, 2, 2), (304, 2, 19, 2, 3), (305, 2, 23, 2, 4), (306, 5, 43, 2, 4), (307, 2, 26, 2, 5), (308, 1, 101, 2, 5), (309, 5, 153, 2, 5), (324, 1, 9, 1, 0), (325, 5, 106, 1, 0), (326, 1, 15, 1, 1), (327, 8, 106, 1, 1), (328, 5, 110, 1, 1), (329, 4, 131, 1, 1)]
def ax_fl_4 : List (Nat × Nat × Nat × Nat × Nat) := [(330, 1, 19, 1, 2), (331, 5, 120, 1, 2), (332, 1, 22, 1, 3), (333, 5, 150, 1, 3), (334, 1, 25, 1, 4), (335, 8, 123, 1, 4), (336, 5, 138, 1, 4), (337, 4, 155, 1, 4), (338, 1, 28, 1, 5), (339, 8, 126, 1, 5), (340, 5, 141, 1, 5), (341, 1, 31, 1, 6), (342, 1, 37, 1, 7), (343, 5, 39, 1, 7), (344, 1, 41, 1, 8), (345, 5, 48, 1, 8), (346, 1, 51, 1, 9), (347, 4, 50, 1, 9), (348, 8, 93, 1, 9), (349, 6, 53, 1, 9)]
def ax_fl_5 : List (Nat × Nat × Nat × Nat × Nat) := [(350, 5, 92, 1, 9), (351, 1, 54, 1, 10), (352, 5, 144, 1, 10), (353, 1, 57, 1, 11), (354, 5, 135, 1, 11), (355, 1, 44, 1, 12), (356, 5, 164, 1, 12), (357, 4, 111, 1, 12), (358, 8, 272, 1, 12), (359, 1, 60, 1, 13), (360, 5, 170, 1, 13), (361, 1, 63, 1, 14), (362, 5, 51, 1, 14), (363, 8, 287, 1, 14), (364, 1, 66, 1, 15), (365, 5, 161, 1, 15), (366, 1, 70, 1, 16), (367, 5, 167, 1, 16), (403, 8, 10, 8, 0), (404, 8, 19, 8, 1)]
def ax_fl_6 : List (Nat × Nat × Nat × Nat × Nat) := [(405, 8, 26, 8, 2), (406, 8, 33, 8, 3), (407, 8, 40, 8, 4), (408, 8, 47, 8, 5), (409, 8, 51, 8, 6), (410, 8, 90, 8, 7), (411, 8, 58, 8, 8), (412, 8, 62, 8, 9), (413, 8, 238, 8, 10), (1177, 9, 7, 9, 0), (1178, 9, 139, 9, 1), (1179, 9, 179, 9, 2), (1180, 9, 13, 9, 3), (1181, 9, 146, 9, 4), (1182, 9, 149, 9, 5), (1183, 9, 166, 9, 6), (1184, 9, 156, 9, 7), (1185, 9, 163, 9, 8), (1186, 9, 159, 9, 9), (1187, 9, 17, 9, 10)]
def ax_fl_7 : List (Nat × Nat × Nat × Nat × Nat) := [(1188, 9, 21, 9, 11), (1189, 9, 24, 9, 12), (1190, 9, 27, 9, 13), (1191, 9, 30, 9, 14), (1192, 9, 33, 9, 15), (1193, 9, 36, 9, 16), (1194, 9, 39, 9, 17), (1195, 9, 42, 9, 18), (1196, 9, 45, 9, 19), (1197, 9, 248, 9, 20), (1198, 9, 251, 9, 21), (1199, 9, 264, 9, 22), (1200, 9, 355, 9, 23), (1201, 9, 267, 9, 24), (1202, 9, 261, 9, 25), (1203, 9, 49, 9, 26), (1204, 9, 52, 9, 27), (1205, 9, 55, 9, 28), (1206, 9, 58, 9, 29), (1207, 9, 61, 9, 30)]
def ax_fl_8 : List (Nat × Nat × Nat × Nat × Nat) := [(1208, 9, 64, 9, 31), (1209, 9, 67, 9, 32), (1210, 9, 70, 9, 33), (1211, 9, 73, 9, 34), (1212, 9, 76, 9, 35), (1213, 9, 79, 9, 36), (1214, 9, 238, 9, 37), (1215, 9, 324, 9, 38), (1216, 9, 340, 9, 39), (1217, 9, 346, 9, 40), (1218, 9, 318, 9, 41), (1219, 9, 304, 9, 42), (1220, 9, 82, 9, 43), (1221, 9, 336, 9, 44), (1222, 9, 343, 9, 45), (1223, 9, 85, 9, 46), (1224, 9, 88, 9, 47), (1225, 9, 91, 9, 48), (1226, 9, 94, 9, 49), (1227, 9, 367, 9, 50)]
def ax_fl_9 : List (Nat × Nat × Nat × Nat × Nat) := [(1228, 9, 370, 9, 51), (1229, 9, 97, 9, 52), (1230, 9, 100, 9, 53), (1231, 9, 103, 9, 54), (1232, 9, 106, 9, 55), (1233, 9, 376, 9, 56), (1234, 9, 447, 9, 57), (1235, 9, 109, 9, 58), (1236, 9, 112, 9, 59), (1237, 9, 115, 9, 60), (1238, 9, 118, 9, 61), (1239, 9, 121, 9, 62), (1240, 9, 124, 9, 63), (1241, 9, 373, 9, 64), (1242, 9, 474, 9, 65), (1243, 9, 127, 9, 66), (1244, 9, 130, 9, 67), (1245, 9, 133, 9, 68), (1246, 9, 136, 9, 69)]
def ax_fl : List (Nat × Nat × Nat × Nat) := [(5, 11, 5, 0), (5, 19, 5, 1), (8, 73, 5, 1), (5, 27, 5, 2), (8, 96, 5, 2), (5, 15, 5, 3), (8, 99, 5, 3), (5, 30, 5, 4), (5, 36, 5, 5), (5, 224, 5, 6), (5, 60, 5, 7), (5, 196, 5, 8), (5, 207, 5, 9), (7, 9, 7, 0), (4, 58, 7, 0), (1, 73, 7, 0), (8, 109, 7, 0), (7, 15, 7, 1), (1, 78, 7, 1), (8, 116, 7, 1), (4, 97, 7, 1), (7, 18, 7, 2), (4, 65, 7, 2), (1, 90, 7, 2), (6, 61, 7, 2), (8, 129, 7, 2), (7, 22, 7, 3), (1, 81, 7, 3), (8, 132, 7, 3), (4, 104, 7, 3), (7, 25, 7, 4), (1, 84, 7, 4), (8, 275, 7, 4), (7, 28, 7, 5), (1, 87, 7, 5), (8, 164, 7, 5), (4, 12, 4, 0), (4, 18, 4, 1), (4, 22, 4, 2), (4, 25, 4, 3), (4, 28, 4, 4), (4, 31, 4, 5), (4, 34, 4, 6), (4, 37, 4, 7), (4, 86, 4, 8), (4, 79, 4, 9), (3, 11, 3, 0), (3, 22, 3, 1), (3, 15, 3, 2), (8, 278, 3, 2), (3, 19, 3, 3), (0, 11, 0, 0), (0, 15, 0, 1), (6, 11, 6, 0), (6, 15, 6, 1), (6, 18, 6, 2), (6, 22, 6, 3), (6, 25, 6, 4), (6, 31, 6, 5), (6, 35, 6, 6), (6, 39, 6, 7), (6, 42, 6, 8), (6, 45, 6, 9), (8, 284, 6, 9), (6, 49, 6, 10), (2, 9, 2, 0), (2, 13, 2, 1), (2, 16, 2, 2), (2, 19, 2, 3), (2, 23, 2, 4), (5, 43, 2, 4), (2, 26, 2, 5), (1, 101, 2, 5), (5, 153, 2, 5), (1, 9, 1, 0), (5, 106, 1, 0), (1, 15, 1, 1), (8, 106, 1, 1), (5, 110, 1, 1), (4, 131, 1, 1), (1, 19, 1, 2), (5, 120, 1, 2), (1, 22, 1, 3), (5, 150, 1, 3), (1, 25, 1, 4), (8, 123, 1, 4), (5, 138, 1, 4), (4, 155, 1, 4), (1, 28, 1, 5), (8, 126, 1, 5), (5, 141, 1, 5), (1, 31, 1, 6), (1, 37, 1, 7), (5, 39, 1, 7), (1, 41, 1, 8), (5, 48, 1, 8), (1, 51, 1, 9), (4, 50, 1, 9), (8, 93, 1, 9), (6, 53, 1, 9), (5, 92, 1, 9), (1, 54, 1, 10), (5, 144, 1, 10), (1, 57, 1, 11), (5, 135, 1, 11), (1, 44, 1, 12), (5, 164, 1, 12), (4, 111, 1, 12), (8, 272, 1, 12), (1, 60, 1, 13), (5, 170, 1, 13), (1, 63, 1, 14), (5, 51, 1, 14), (8, 287, 1, 14), (1, 66, 1, 15), (5, 161, 1, 15), (1, 70, 1, 16), (5, 167, 1, 16), (8, 10, 8, 0), (8, 19, 8, 1), (8, 26, 8, 2), (8, 33, 8, 3), (8, 40, 8, 4), (8, 47, 8, 5), (8, 51, 8, 6), (8, 90, 8, 7), (8, 58, 8, 8), (8, 62, 8, 9), (8, 238, 8, 10), (9, 7, 9, 0), (9, 139, 9, 1), (9, 179, 9, 2), (9, 13, 9, 3), (9, 146, 9, 4), (9, 149, 9, 5), (9, 166, 9, 6), (9, 156, 9, 7), (9, 163, 9, 8), (9, 159, 9, 9), (9, 17, 9, 10), (9, 21, 9, 11), (9, 24, 9, 12), (9, 27, 9, 13), (9, 30, 9, 14), (9, 33, 9, 15), (9, 36, 9, 16), (9, 39, 9, 17), (9, 42, 9, 18), (9, 45, 9, 19), (9, 248, 9, 20), (9, 251, 9, 21), (9, 264, 9, 22), (9, 355, 9, 23), (9, 267, 9, 24), (9, 261, 9, 25), (9, 49, 9, 26), (9, 52, 9, 27), (9, 55, 9, 28), (9, 58, 9, 29), (9, 61, 9, 30), (9, 64, 9, 31), (9, 67, 9, 32), (9, 70, 9, 33), (9, 73, 9, 34), (9, 76, 9, 35), (9, 79, 9, 36), (9, 238, 9, 37), (9, 324, 9, 38), (9, 340, 9, 39), (9, 346, 9, 40), (9, 318, 9, 41), (9, 304, 9, 42), (9, 82, 9, 43), (9, 336, 9, 44), (9, 343, 9, 45), (9, 85, 9, 46), (9, 88, 9, 47), (9, 91, 9, 48), (9, 94, 9, 49), (9, 367, 9, 50), (9, 370, 9, 51), (9, 97, 9, 52), (9, 100, 9, 53), (9, 103, 9, 54), (9, 106, 9, 55), (9, 376, 9, 56), (9, 447, 9, 57), (9, 109, 9, 58), (9, 112, 9, 59), (9, 115, 9, 60), (9, 118, 9, 61), (9, 121, 9, 62), (9, 124, 9, 63), (9, 373, 9, 64), (9, 474, 9, 65), (9, 127, 9, 66), (9, 130, 9, 67), (9, 133, 9, 68), (9, 136, 9, 69)]
def ax_flc (q : Nat × Nat × Nat × Nat) : Cond := .fieldLink (ax_R q.1) q.2.1 (ax_T q.2.2.1 q.2.2.2).1 (ax_T q.2.2.1 q.2.2.2).2.1 (ax_T q.2.2.1 q.2.2.2).2.2.1
theorem ax_flk_0 : ∀ q ∈ ax_fl_0, lw_tbl[q.1]? = some (ax_flc q.2) := by decide +kernel
theorem ax_flk_1 : ∀ q ∈ ax_fl_1, lw_tbl[q.1]? = some (ax_flc q.2) := by decide +kernel
theorem ax_flk_2 : ∀ q ∈ ax_fl_2, lw_tbl[q.1]? = some (ax_flc q.2) := by decide +kernel
theorem ax_flk_3 : ∀ q ∈ ax_fl_3, lw_tbl[q.1]? = some (ax_flc q.2) := by decide +kernel
theorem ax_flk_4 : ∀ q ∈ ax_fl_4, lw_tbl[q.1]? = some (ax_flc q.2) := by decide +kernel
theorem ax_flk_5 : ∀ q ∈ ax_fl_5, lw_tbl[q.1]? = some (ax_flc q.2) := by decide +kernel
theorem ax_flk_6 : ∀ q ∈ ax_fl_6, lw_tbl[q.1]? = some (ax_flc q.2) := by decide +kernel
theorem ax_flk_7 : ∀ q ∈ ax_fl_7, lw_tbl[q.1]? = some (ax_flc q.2) := by decide +kernel
theorem ax_flk_8 : ∀ q ∈ ax_fl_8, lw_tbl[q.1]? = some (ax_flc q.2) := by decide +kernel
theorem ax_flk_9 : ∀ q ∈ ax_fl_9, lw_tbl[q.1]? = some (ax_flc q.2) := by decide +kernel
theorem ax_fl_eq : ax_fl = (ax_fl_0 ++ (ax_fl_1 ++ (ax_fl_2 ++ (ax_fl_3 ++ (ax_fl_4 ++ (ax_fl_5 ++ (ax_fl_6 ++ (ax_fl_7 ++ (ax_fl_8 ++ (ax_fl_9)))))))))).map (fun q => q.2) := by decide +kernel
theorem ax_fl_ok : ∀ q ∈ ax_fl, ax_flc q ∈ ax_tb := by
  intro q hq
  rw [ax_fl_eq] at hq
  obtain ⟨q5, h5, rfl⟩ := List.mem_map.mp hq
  refine ax_mem q5.1 ?_ rfl
  rcases List.mem_append.mp h5 with h | h5
  · exact ax_flk_0 q5 h
  rcases List.mem_append.mp h5 with h | h5
  · exact ax_flk_1 q5 h
  rcases List.mem_append.mp h5 with h | h5
  · exact ax_flk_2 q5 h
  rcases List.mem_append.mp h5 with h | h5
  · exact ax_flk_3 q5 h
  rcases List.mem_append.mp h5 with h | h5
  · exact ax_flk_4 q5 h
  rcases List.mem_append.mp h5 with h | h5
  · exact ax_flk_5 q5 h
  rcases List.mem_append.mp h5 with h | h5
  · exact ax_flk_6 q5 h
  rcases List.mem_append.mp h5 with h | h5
  · exact ax_flk_7 q5 h
  rcases List.mem_append.mp h5 with h | h5
  · exact ax_flk_8 q5 h
  exact ax_flk_9 q5 h5
def ax_ki : List (Nat × Nat × Int) := [(16, 227, 65536), (11, 110, 55232), (11, 76, 56320), (12, 265, 1431655765), (12, 266, 858993459), (12, 267, 252645135), (8, 248, 100000), (9, 450, 1000000), (9, 477, 100000)]
def ax_kl : List (Nat × Nat × Int) := [(5, 64, 123581014175598), (5, 114, 28518), (5, 123, 426836649331), (5, 125, 1852143475), (5, 69, 461414299507), (5, 74, 512970879609), (5, 191, 7237492), (5, 203, 28530), (5, 205, 6385252), (5, 211, 1667330661), (5, 213, 461414299502), (5, 215, 6840691), (5, 217, 448546567013), (5, 219, 6578553), (5, 80, 444301539187), (5, 82, 1700885349), (5, 87, 1685217655), (9, 182, 123581014175598), (9, 184, 28518), (9, 186, 426836649331), (9, 188, 1852143475), (9, 190, 461414299507), (9, 192, 512970879609), (9, 194, 444301539187), (9, 196, 1700885349), (9, 198, 1685217655), (9, 200, 1667330661), (9, 202, 461414299502), (9, 204, 6840691), (9, 206, 448546567013), (9, 208, 6578553), (9, 210, 6385252), (9, 212, 28530), (9, 214, 7237492)]

theorem ax_ki_ok : ∀ q ∈ ax_ki, (Cond.constant (ax_R q.1) q.2.1 (Int32.ofInt q.2.2) ∈ ax_tb) ∧ -2147483648 ≤ q.2.2 ∧ q.2.2 < 2147483648 := by decide +kernel
theorem ax_kl_ok : ∀ q ∈ ax_kl, (Cond.constantLong (ax_R q.1) q.2.1 (Int64.ofInt q.2.2) ∈ ax_tb) ∧ -9223372036854775808 ≤ q.2.2 ∧ q.2.2 < 9223372036854775808 := by decide +kernel
/-- each object's cells lie where their offsets say -/
def ax_layB (k : Nat) : Bool := !decide ((ax_kd k).1 = 0) || (decide ((ax_kd k).2 < 10) && (List.range (ax_F (ax_kd k).2).length).all fun j => !decide ((ax_fd (ax_kd k).2 j).1 = 4) || (decide (ax_kd (k + (ax_fd (ax_kd k).2 j).2.1) = (ax_fd (ax_kd k).2 j).2.2) && decide ((ax_fd (ax_kd k).2 j).2.2.1 ≤ 4)))
theorem ax_layA : (List.range ax_N).all ax_layB = true := by decide +kernel
theorem ax_lay {k c j : Nat} (h : ax_kd k = (0, c)) : c < 10 ∧ (j < (ax_F c).length → (ax_fd c j).1 = 4 → (ax_kd (k + (ax_fd c j).2.1) = (ax_fd c j).2.2 ∧ (ax_fd c j).2.2.1 ≤ 4)) := by
  have hk : k < ax_N := ax_kd_lt (by rw [h]; exact Nat.zero_le _)
  have h1 := List.all_eq_true.mp ax_layA k (List.mem_range.mpr hk)
  unfold ax_layB at h1
  simp only [h, decide_true, Bool.not_true, Bool.false_or, Bool.and_eq_true, decide_eq_true_eq] at h1
  refine ⟨h1.1, fun hj h4 => ?_⟩
  have h2 := List.all_eq_true.mp h1.2 j (List.mem_range.mpr hj)
  simp only [h4, decide_true, Bool.not_true, Bool.false_or, Bool.and_eq_true, decide_eq_true_eq] at h2
  exact h2
theorem ax_kd4 : ∀ k, k < ax_N → (ax_kd k).1 ≤ 4 := by decide +kernel
theorem ax_cl : ∀ c, c < 10 → vwCl[c]? = some (ax_R c, ax_T c, (ax_F c).length) := by
  intro c hc
  rcases (show c = 0 ∨ c = 1 ∨ c = 2 ∨ c = 3 ∨ c = 4 ∨ c = 5 ∨ c = 6 ∨ c = 7 ∨ c = 8 ∨ c = 9 by omega) with rfl | rfl | rfl | rfl | rfl | rfl | rfl | rfl | rfl | rfl <;> rfl
theorem ax_tyok : ∀ c, c < 10 → ∀ k, k < (ax_F c).length → parseFieldDescriptor (ax_T c k).2.2.1 = some (ax_ty c k) := by
  intro c hc
  rcases (show c = 0 ∨ c = 1 ∨ c = 2 ∨ c = 3 ∨ c = 4 ∨ c = 5 ∨ c = 6 ∨ c = 7 ∨ c = 8 ∨ c = 9 by omega) with rfl | rfl | rfl | rfl | rfl | rfl | rfl | rfl | rfl | rfl
  · exact tyX0_ok
  · exact tyX1_ok
  · exact tyX2_ok
  · exact tyX3_ok
  · exact tyX4_ok
  · exact tyX5_ok
  · exact tyX6_ok
  · exact tyX7_ok
  · exact tyX8_ok
  · exact tyX9_ok
theorem ax_nm : ∀ c, c < 10 → ∀ a, a < (ax_F c).length → ∀ b, b < (ax_F c).length → a ≠ b → (ax_T c a).2.1 ≠ (ax_T c b).2.1 := by
  intro c hc
  rcases (show c = 0 ∨ c = 1 ∨ c = 2 ∨ c = 3 ∨ c = 4 ∨ c = 5 ∨ c = 6 ∨ c = 7 ∨ c = 8 ∨ c = 9 by omega) with rfl | rfl | rfl | rfl | rfl | rfl | rfl | rfl | rfl | rfl
  · exact nmX0
  · exact nmX1
  · exact nmX2
  · exact nmX3
  · exact nmX4
  · exact nmX5
  · exact nmX6
  · exact nmX7
  · exact nmX8
  · exact nmX9
theorem ax_ws : ∀ c, c < 10 → ∀ w ∈ u_ws (ax_R c) (ax_T c) (ax_F c).length, w ∈ ax_tb := by
  intro c hc
  rcases (show c = 0 ∨ c = 1 ∨ c = 2 ∨ c = 3 ∨ c = 4 ∨ c = 5 ∨ c = 6 ∨ c = 7 ∨ c = 8 ∨ c = 9 by omega) with rfl | rfl | rfl | rfl | rfl | rfl | rfl | rfl | rfl | rfl
  · exact ax_inX0
  · exact ax_inX1
  · exact ax_inX2
  · exact ax_inX3
  · exact ax_inX4
  · exact ax_inX5
  · exact ax_inX6
  · exact ax_inX7
  · exact ax_inX8
  · exact ax_inX9
/-- the fields that are written, and their types -/
def ax_tyc (ty : Nat) (f : FieldType) : Bool := match ty with
  | 0 => decide (f = .int)
  | 1 => decide (f = .boolean)
  | 2 => decide (f = .long)
  | 3 => decide (f = .char)
  | 5 => (match f with
    | .object _ => true
    | _ => false)
  | _ => true
theorem ax_wrt : ∀ c, c < 10 → ∀ j, j < (ax_F c).length → ax_tyc (ax_fd c j).1 (ax_ty c j) = true ∧ ((ax_fd c j).1 ≠ 4 → (ax_T c j).2.2.2 = false) := by decide +kernel
def ax_ln (i : Instr) : Nat := match i with
  | .bipush _ => 2
  | .sipush _ => 3
  | .ldc _ => 2
  | .ldc_w _ => 3
  | .ldc2_w _ => 3
  | .iload _ => 2
  | .aload _ => 2
  | .istore _ => 2
  | .astore _ => 2
  | .iinc _ _ => 3
  | .goto _ => 3
  | .ifCond _ _ => 3
  | .if_icmp _ _ => 3
  | .getfield _ => 3
  | .putfield _ => 3
  | .getstatic _ => 3
  | .invokevirtual _ => 3
  | .invokestatic _ => 3
  | _ => 1
def ax_chI (oc nL pc : Nat) (calls : List (Instr × Nat)) (it : Item) : Bool := match it.1 with
  | .iconst x => decide (-1 ≤ x ∧ x ≤ 5)
  | .bipush x => decide (-128 ≤ x ∧ x ≤ 127)
  | .sipush x => decide (-32768 ≤ x ∧ x ≤ 32767)
  | .ldc i => (match it.2.2.1 with
    | [] => decide ((oc, i, ax_kv it.2.2.2) ∈ ax_ki)
    | _ => decide (oc = 5 ∧ i = 239))
  | .ldc_w i => decide ((oc, i, ax_kv it.2.2.2) ∈ ax_ki)
  | .ldc2_w i => decide ((oc, i, ax_kv it.2.2.2) ∈ ax_kl)
  | .lconst n => decide (ax_kv it.2.2.2 = (n.val : Int))
  | .istore k => decide (k < nL)
  | .istore_n k => decide (k.val < nL)
  | .astore k => decide (k < nL)
  | .astore_n k => decide (k.val < nL)
  | .iinc k n => decide (k < nL ∧ -32768 ≤ n ∧ n ≤ 32767)
  | .goto off => decide ((pc : Int) + off = (ax_tg it.2.2.1 : Nat))
  | .ifCond _ off => decide ((pc : Int) + off = (ax_tg it.2.2.1 : Nat))
  | .if_icmp _ off => decide ((pc : Int) + off = (ax_tg it.2.2.1 : Nat))
  | .tableswitch d lo hi offs => decide (offs.size = (hi - lo + 1).toNat ∧ lo ≤ hi ∧ it.2.2.2 = ((List.range offs.size).map fun (i : Nat) => (lo + (i : Int), ((pc : Int) + offs.getD i 0).toNat)) ++ [(0, ((pc : Int) + d).toNat)] ∧ 0 ≤ (pc : Int) + d ∧ ∀ i, i < offs.size → 0 ≤ (pc : Int) + offs.getD i 0)
  | .lookupswitch d ps => decide ((ps.toList.zip (ps.toList.drop 1)).all (fun (a, next) => a.1 < next.1) = true ∧ it.2.2.2 = (ps.toList.map fun q => (q.1, ((pc : Int) + q.2).toNat)) ++ [(0, ((pc : Int) + d).toNat)] ∧ 0 ≤ (pc : Int) + d ∧ ∀ q ∈ ps.toList, 0 ≤ (pc : Int) + q.2)
  | .getfield i => (match it.2.2.1 with
    | [ci, j, ty, o, t, n] => decide (ci < 10 ∧ j < (ax_F ci).length ∧ ax_fd ci j = (ty, o, t, n) ∧ (oc, i, ci, j) ∈ ax_fl)
    | [0] => decide (oc = 14 ∧ i = 15)
    | [1] => decide (oc = 14 ∧ i = 9)
    | _ => true)
  | .putfield i => (match it.2.2.1 with
    | [ci, j, ty, o, t, n] => decide (ci < 10 ∧ j < (ax_F ci).length ∧ ax_fd ci j = (ty, o, t, n) ∧ (oc, i, ci, j) ∈ ax_fl)
    | _ => true)
  | .getstatic i => (match it.2.2.1 with
    | [0] => decide (oc = 5 ∧ i = 221)
    | [1] => decide (oc = 14 ∧ i = 38)
    | _ => true)
  | .invokevirtual _ => calls.any (fun q => decide (q.1 = it.1) && Nat.beq q.2 (ax_tg it.2.2.1))
  | .invokestatic _ => calls.any (fun q => decide (q.1 = it.1) && Nat.beq q.2 (ax_tg it.2.2.1))
  | _ => true
def ax_sws (i : Instr) : Bool := match i with
  | .tableswitch _ _ _ _ => true
  | .lookupswitch _ _ => true
  | _ => false
def ax_ch (oc nL : Nat) (cc : ByteArray) (calls : List (Instr × Nat)) (pc : Nat) (it : Item) : Bool :=
  decide (decode cc pc = .ok (it.1, it.2.1)) && ((ax_sws it.1 || Nat.beq it.2.1 (ax_ln it.1)) && ax_chI oc nL pc calls it)
def ax_chB (oc nL : Nat) (cc : ByteArray) (calls : List (Instr × Nat)) : Nat → List Item → Bool
  | _, [] => true
  | pc, it :: r => ax_ch oc nL cc calls pc it && ax_chB oc nL cc calls (pc + it.2.1) r
