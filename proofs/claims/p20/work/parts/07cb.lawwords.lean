theorem wsL_law_x0 : ∀ w ∈ (vx_atS RX5 44 "java/lang/IllegalArgumentException" ["java/lang/RuntimeException", "java/lang/Exception"]).filter goodWord, w ∈ lw_tbl := by decide +kernel
theorem wsL_law_x1 : ∀ w ∈ (vx_atS RX5 58 "java/lang/IllegalStateException" ["java/lang/RuntimeException", "java/lang/Exception"]).filter goodWord, w ∈ lw_tbl := by decide +kernel
theorem wsL_law_x2 : ∀ w ∈ (vx_atS RX5 131 "java/lang/IndexOutOfBoundsException" ["java/lang/RuntimeException", "java/lang/Exception"]).filter goodWord, w ∈ lw_tbl := by decide +kernel
theorem wsL_law_in : ∀ w ∈ wsL_law, w ∈ lw_tbl := fun w h => (List.mem_append.mp h).elim (fun h => (List.mem_append.mp h).elim (fun h => (List.mem_append.mp h).elim (fun h => wsL_law_in0 w h) (fun h => wsL_law_x0 w h)) (fun h => wsL_law_x1 w h)) (fun h => wsL_law_x2 w h)
theorem inlX0 : ∀ w ∈ wsX00, w ∈ wsL_law := fun _ h => List.mem_append_left _ (List.mem_append_left _ (List.mem_append_left _ (List.mem_append_left _ (List.mem_append_right _ h))))
theorem inX0 : ∀ w ∈ wsX00, w ∈ lw_tbl := fun w h => wsL_law_in w (inlX0 w h)
theorem inX1 : ∀ w ∈ wsX10, w ∈ lw_tbl := by decide +kernel
theorem inlX2 : ∀ w ∈ wsX20, w ∈ wsL_law := fun _ h => List.mem_append_left _ (List.mem_append_left _ (List.mem_append_left _ (List.mem_append_left _ (List.mem_append_left _ (List.mem_append_left _ (List.mem_append_left _ (List.mem_append_left _ (List.mem_append_right _ h))))))))
theorem inX2 : ∀ w ∈ wsX20, w ∈ lw_tbl := fun w h => wsL_law_in w (inlX2 w h)
theorem inlX3 : ∀ w ∈ wsX30, w ∈ wsL_law := fun _ h => List.mem_append_left _ (List.mem_append_left _ (List.mem_append_left _ (List.mem_append_left _ (List.mem_append_left _ (List.mem_append_left _ (List.mem_append_right _ h))))))
theorem inX3 : ∀ w ∈ wsX30, w ∈ lw_tbl := fun w h => wsL_law_in w (inlX3 w h)
theorem inlX4 : ∀ w ∈ wsX40, w ∈ wsL_law := fun _ h => List.mem_append_left _ (List.mem_append_left _ (List.mem_append_left _ (List.mem_append_left _ (List.mem_append_left _ (List.mem_append_right _ h)))))
theorem inX4 : ∀ w ∈ wsX40, w ∈ lw_tbl := fun w h => wsL_law_in w (inlX4 w h)
theorem inlX5 : ∀ w ∈ wsX50, w ∈ wsL_law := fun _ h => List.mem_append_left _ (List.mem_append_left _ (List.mem_append_left _ (List.mem_append_left _ (List.mem_append_left _ (List.mem_append_left _ (List.mem_append_left _ (List.mem_append_left _ (List.mem_append_left _ (List.mem_append_left _ (List.mem_append_right _ h))))))))))
theorem inX5 : ∀ w ∈ wsX50, w ∈ lw_tbl := fun w h => wsL_law_in w (inlX5 w h)
theorem inX6 : ∀ w ∈ wsX60, w ∈ lw_tbl := by decide +kernel
theorem inlX7 : ∀ w ∈ wsX70, w ∈ wsL_law := fun _ h => List.mem_append_left _ (List.mem_append_left _ (List.mem_append_left _ (List.mem_append_left _ (List.mem_append_left _ (List.mem_append_left _ (List.mem_append_left _ (List.mem_append_left _ (List.mem_append_left _ (List.mem_append_right _ h)))))))))
theorem inX7 : ∀ w ∈ wsX70, w ∈ lw_tbl := fun w h => wsL_law_in w (inlX7 w h)
theorem inX8 : ∀ w ∈ wsX80, w ∈ lw_tbl := by decide +kernel
theorem inJx145de : ∀ w ∈ wsJx145de0, w ∈ lw_tbl := by decide +kernel
theorem inJx8e188 : ∀ w ∈ wsJx8e1880, w ∈ lw_tbl := by decide +kernel
theorem inJxab1ab : ∀ w ∈ wsJxab1ab0, w ∈ lw_tbl := by decide +kernel
theorem inJ9 : ∀ w ∈ wsJ90, w ∈ lw_tbl := by decide +kernel
theorem inJ0 : ∀ w ∈ wsJ00, w ∈ lw_tbl := by decide +kernel
theorem inJ10 : ∀ w ∈ wsJ100, w ∈ lw_tbl := by decide +kernel
theorem inJxa1e45 : ∀ w ∈ wsJxa1e450, w ∈ lw_tbl := by decide +kernel
theorem inJxc12de : ∀ w ∈ wsJxc12de0, w ∈ lw_tbl := by decide +kernel
theorem inlJx4a65c : ∀ w ∈ wsJx4a65c0, w ∈ wsL_law := fun _ h => List.mem_append_left _ (List.mem_append_left _ (List.mem_append_left _ (List.mem_append_left _ (List.mem_append_left _ (List.mem_append_left _ (List.mem_append_left _ (List.mem_append_right _ h)))))))
theorem inJx4a65c : ∀ w ∈ wsJx4a65c0, w ∈ lw_tbl := fun w h => wsL_law_in w (inlJx4a65c w h)
theorem inJ7 : ∀ w ∈ wsJ70, w ∈ lw_tbl := by decide +kernel
theorem inJx5ef63 : ∀ w ∈ wsJx5ef630, w ∈ lw_tbl := by decide +kernel
theorem inJxbd725 : ∀ w ∈ wsJxbd7250, w ∈ lw_tbl := by decide +kernel
theorem inJ15 : ∀ w ∈ wsJ150, w ∈ lw_tbl := by decide +kernel
theorem inJxf0a74 : ∀ w ∈ wsJxf0a740, w ∈ lw_tbl := by decide +kernel
theorem inJxa66e6 : ∀ w ∈ wsJxa66e60, w ∈ lw_tbl := by decide +kernel
theorem inJ8 : ∀ w ∈ wsJ80, w ∈ lw_tbl := by decide +kernel
theorem inJ3 : ∀ w ∈ wsJ30, w ∈ lw_tbl := by decide +kernel
set_option maxRecDepth 20000 in
theorem kw64 : GoodIn wsL_law0 wsX5_init_r1 := goodIn_r _ [12, 13, 14, 15, 16, 17, 18, 19, 20, 21, 22, 23, 24, 25, 26, 27, 28, 29, 30, 31, 32, 33, 34, 35] (by decide +kernel) (by decide +kernel)
set_option maxRecDepth 20000 in
theorem kw65 : GoodIn wsL_law0 wsX5_init_r2 := goodIn_r _ [36, 37, 38, 39, 40, 41, 42, 43, 44, 45, 46, 47, 48] (by decide +kernel) (by decide +kernel)
set_option maxRecDepth 20000 in
theorem kw66 : GoodIn wsL_law0 wsX20 := goodIn_r _ [459, 460] (by decide +kernel) (by decide +kernel)
set_option maxRecDepth 20000 in
theorem kw67 : GoodIn wsL_law0 wsX50 := goodIn_r _ [443, 444, 445, 446, 447, 448] (by decide +kernel) (by decide +kernel)
set_option maxRecDepth 20000 in
theorem kw68 : GoodIn wsL_law0 wsJx4a65c0 := goodIn_r _ [461, 462, 463] (by decide +kernel) (by decide +kernel)
set_option maxRecDepth 20000 in
theorem kw69 : GoodIn wsL_law0 [Cond.code yX5_init cX5_init 1 none] := goodIn_r _ [11] (by decide +kernel) (by decide +kernel)
theorem ggL_law_X5_init : GoodIn wsL_law wsX5_init := (goodIn_app (kL0 kw69) (goodIn_app (goodIn_app (goodIn_app (goodIn_app (kL0 kw64) (kL0 kw65)) (kL0 kw66)) (kL0 kw67)) (kL0 kw68)))
set_option maxRecDepth 20000 in
theorem gL_law_X5_init : GoodIn wsL_law (wsX5_init) := ggL_law_X5_init
set_option maxRecDepth 20000 in
theorem kw70 : GoodIn wsL_law0 wsL_build_r1 := goodIn_r _ [53, 54, 55, 6, 4, 56, 57, 58, 13, 14, 59, 60, 61, 62, 63, 64, 65, 66, 67, 68, 69, 51, 70, 71] (by decide +kernel) (by decide +kernel)
set_option maxRecDepth 20000 in
theorem kw71 : GoodIn wsL_law0 wsL_build_r2 := goodIn_r _ [72, 73, 74, 75, 76, 77, 78, 2, 79, 80, 81, 82, 83, 18, 84, 85, 86, 87, 88, 89, 21, 90, 91, 92] (by decide +kernel) (by decide +kernel)
set_option maxRecDepth 20000 in
theorem kw72 : GoodIn wsL_law0 wsL_build_r3 := goodIn_r _ [17, 93, 94, 31, 95, 96, 97, 98, 99, 100, 101, 102, 103, 104, 105, 20, 106, 107, 108, 109, 110, 111, 112, 113] (by decide +kernel) (by decide +kernel)
set_option maxRecDepth 20000 in
theorem kw73 : GoodIn wsL_law0 wsL_build_r4 := goodIn_r _ [34, 35, 36, 37, 38, 39, 40, 41, 42, 43, 44, 45, 46, 47, 114, 115, 116, 117, 118, 119, 120, 121, 122, 123] (by decide +kernel) (by decide +kernel)
set_option maxRecDepth 20000 in
theorem kw74 : GoodIn wsL_law0 wsL_build_r5 := goodIn_r _ [124, 125, 126, 127, 128, 129, 130, 131, 132, 133, 134, 135, 136, 137, 138, 139, 140, 141, 142, 143, 144, 145, 146, 147] (by decide +kernel) (by decide +kernel)
set_option maxRecDepth 20000 in
theorem kw75 : GoodIn wsL_law0 wsL_build_r6 := goodIn_r _ [148, 149, 150, 151, 152, 153, 154, 155, 156, 157, 158, 159, 160, 161, 162, 163, 164, 165, 166, 167, 168, 169, 95, 171] (by decide +kernel) (by decide +kernel)
set_option maxRecDepth 20000 in
theorem kw76 : GoodIn wsL_law0 wsL_build_r7 := goodIn_r _ [172, 173, 174, 175, 176, 177, 178, 179, 180, 181, 182, 183, 184, 185, 186, 187, 188, 189, 190, 191, 192, 193, 194, 195] (by decide +kernel) (by decide +kernel)
set_option maxRecDepth 20000 in
theorem kw77 : GoodIn wsL_law0 wsL_build_r8 := goodIn_r _ [196, 197, 198, 199, 200, 201, 202, 203, 204, 205, 206, 207, 208, 209, 210, 211, 212, 213, 214, 215, 216, 217, 218, 219] (by decide +kernel) (by decide +kernel)
set_option maxRecDepth 20000 in
theorem kw78 : GoodIn wsL_law0 wsL_build_r9 := goodIn_r _ [220, 221, 32, 222, 223, 224, 225, 226, 227, 228, 229, 230, 231, 232, 233, 234, 235, 236, 237, 238, 239, 240, 241, 242] (by decide +kernel) (by decide +kernel)
set_option maxRecDepth 20000 in
theorem kw79 : GoodIn wsL_law0 wsL_build_r10 := goodIn_r _ [243, 244, 245] (by decide +kernel) (by decide +kernel)
set_option maxRecDepth 20000 in
theorem kw80 : GoodIn wsL_law0 wsX70 := goodIn_r _ [449, 450, 451, 452, 453, 454, 455, 456, 457, 458] (by decide +kernel) (by decide +kernel)
set_option maxRecDepth 20000 in
theorem kw81 : GoodIn wsL_law0 wsX30 := goodIn_r _ [464, 465, 466, 467, 468, 469, 470, 471, 472, 473] (by decide +kernel) (by decide +kernel)
set_option maxRecDepth 20000 in
theorem kw82 : GoodIn wsL_law0 wsX40 := goodIn_r _ [474, 475, 476, 477, 478, 479, 480, 481, 482, 483, 484] (by decide +kernel) (by decide +kernel)
set_option maxRecDepth 20000 in
theorem kw83 : GoodIn wsL_law0 [Cond.code yL_build cL_build 11 (some (.object "TubePostLaw$Sim"))] := goodIn_r _ [52] (by decide +kernel) (by decide +kernel)
theorem ggL_law_L_build : GoodIn wsL_law wsL_build := (goodIn_app (kL0 kw83) (goodIn_app (goodIn_app (goodIn_app (goodIn_app (goodIn_app (goodIn_app (goodIn_app (goodIn_app (goodIn_app (goodIn_app (kL0 kw70) (goodIn_app (kL0 kw71) (goodIn_app (kL0 kw72) (goodIn_app (kL0 kw73) (goodIn_app (kL0 kw74) (goodIn_app (kL0 kw75) (goodIn_app (kL0 kw76) (goodIn_app (kL0 kw77) (goodIn_app (kL0 kw78) (kL0 kw79)))))))))) (kL0 kw80)) (kL0 kw67)) (kL0 kw66)) (kL0 kw68)) (kL0 kw81)) (kL0 kw82)) (goodIn_sub (fun _ h => List.mem_append_left _ (List.mem_append_left _ (List.mem_append_right _ h))) (by decide +kernel))) (goodIn_sub (fun _ h => List.mem_append_left _ (List.mem_append_right _ h)) (by decide +kernel))) (goodIn_sub (fun _ h => List.mem_append_right _ h) (by decide +kernel))))
set_option maxRecDepth 20000 in
theorem gL_law_L_build : GoodIn wsL_law (va_wsS RL 46 yL_build wsL_build) := goodIn_app (goodIn_of _ (by decide +kernel)) ggL_law_L_build
set_option maxRecDepth 20000 in
theorem kw84 : GoodIn wsL_law0 wsX5_time_r1 := goodIn_r _ [18, 250, 202, 203, 204, 2, 205, 206, 207, 208, 209, 17, 210, 211, 31, 98, 88, 89, 21, 90, 91, 212, 172, 173] (by decide +kernel) (by decide +kernel)
set_option maxRecDepth 20000 in
theorem kw85 : GoodIn wsL_law0 wsX5_time_r2 := goodIn_r _ [174, 175, 176, 177, 178, 179, 180, 181, 182, 183, 184, 185, 186, 37, 251, 252, 253, 254, 255, 256, 257, 258, 32, 219] (by decide +kernel) (by decide +kernel)
set_option maxRecDepth 20000 in
theorem kw86 : GoodIn wsL_law0 wsX5_time_r3 := goodIn_r _ [260, 261, 148, 262, 263, 97, 264, 265, 102, 108, 171, 266, 267, 268, 269, 270, 271, 272] (by decide +kernel) (by decide +kernel)
set_option maxRecDepth 20000 in
theorem kw87 : GoodIn wsL_law0 [Cond.code yX5_time cX5_time 4 (some .int)] := goodIn_r _ [249] (by decide +kernel) (by decide +kernel)
theorem ggL_law_X5_time : GoodIn wsL_law wsX5_time := (goodIn_app (kL0 kw87) (goodIn_app (goodIn_app (goodIn_app (goodIn_app (goodIn_app (goodIn_app (goodIn_app (kL0 kw84) (goodIn_app (kL0 kw85) (kL0 kw86))) (kL0 kw67)) (kL0 kw66)) (kL0 kw68)) (kL0 kw81)) (kL0 kw82)) (goodIn_sub (fun _ h => List.mem_append_right _ h) (by decide +kernel))))
set_option maxRecDepth 20000 in
theorem gL_law_X5_time : GoodIn wsL_law (wsV RL 54 RX5 yX5_time wsX5_time) := goodIn_app (goodIn_of _ (by decide +kernel)) ggL_law_X5_time
set_option maxRecDepth 20000 in
theorem kw88 : GoodIn wsL_law0 [.constant RL 8 (790386105)] := goodIn_r _ [71] (by decide +kernel) (by decide +kernel)
set_option maxRecDepth 20000 in
theorem kw89 : GoodIn wsL_law0 [Cond.code yL_cell cL_cell 2 (some .int)] := goodIn_r _ [70] (by decide +kernel) (by decide +kernel)
theorem ggL_law_L_cell : GoodIn wsL_law wsL_cell := (goodIn_app (kL0 kw89) (kL0 kw88))
set_option maxRecDepth 20000 in
theorem gL_law_L_cell : GoodIn wsL_law (va_wsS RL 12 yL_cell wsL_cell) := goodIn_app (goodIn_of _ (by decide +kernel)) ggL_law_L_cell
set_option maxRecDepth 20000 in
theorem kw90 : GoodIn wsL_law0 [.constant RL 7 (2147483647)] := goodIn_r _ [75] (by decide +kernel) (by decide +kernel)
set_option maxRecDepth 20000 in
theorem kw91 : GoodIn wsL_law0 [Cond.code yL_below cL_below 2 (some .int)] := goodIn_r _ [74] (by decide +kernel) (by decide +kernel)
theorem ggL_law_L_below : GoodIn wsL_law wsL_below := (goodIn_app (kL0 kw91) (kL0 kw90))
set_option maxRecDepth 20000 in
theorem gL_law_L_below : GoodIn wsL_law (va_wsS RL 18 yL_below wsL_below) := goodIn_app (goodIn_of _ (by decide +kernel)) ggL_law_L_below
set_option maxRecDepth 20000 in
theorem kw92 : GoodIn wsL_law0 wsX5_station_r1 := goodIn_r _ [206, 207, 202, 203, 204, 2, 205, 18, 208, 209, 17, 210, 211, 31, 98, 88, 89, 21, 90, 91, 212, 172, 173, 174] (by decide +kernel) (by decide +kernel)
set_option maxRecDepth 20000 in
theorem kw93 : GoodIn wsL_law0 wsX5_station_r2 := goodIn_r _ [175, 176, 177, 178, 179, 180, 181, 182, 183, 184, 185, 186, 37, 87] (by decide +kernel) (by decide +kernel)
set_option maxRecDepth 20000 in
theorem kw94 : GoodIn wsL_law0 [Cond.code yX5_station cX5_station 4 (some .int)] := goodIn_r _ [276] (by decide +kernel) (by decide +kernel)
theorem ggL_law_X5_station : GoodIn wsL_law wsX5_station := (goodIn_app (kL0 kw94) (goodIn_app (goodIn_app (goodIn_app (goodIn_app (goodIn_app (goodIn_app (kL0 kw92) (kL0 kw93)) (kL0 kw81)) (kL0 kw67)) (kL0 kw66)) (kL0 kw68)) (goodIn_sub (fun _ h => List.mem_append_right _ h) (by decide +kernel))))
set_option maxRecDepth 20000 in
theorem gL_law_X5_station : GoodIn wsL_law (wsV RL 57 RX5 yX5_station wsX5_station) := goodIn_app (goodIn_of _ (by decide +kernel)) ggL_law_X5_station
set_option maxRecDepth 20000 in
theorem kw95 : GoodIn wsL_law0 wsX5_count_r1 := goodIn_r _ [206, 207, 24, 18, 22, 23, 25, 26, 87, 88, 89, 21, 90, 91, 281, 282, 283, 2, 284, 285, 286, 287, 288, 289] (by decide +kernel) (by decide +kernel)
set_option maxRecDepth 20000 in
theorem kw96 : GoodIn wsL_law0 wsX5_count_r2 := goodIn_r _ [212, 172, 173, 174, 175, 176, 177, 178, 179, 180, 181, 182, 183, 184, 185, 186, 37, 290, 221, 291, 292, 233, 293, 294] (by decide +kernel) (by decide +kernel)
set_option maxRecDepth 20000 in
theorem kw97 : GoodIn wsL_law0 wsX5_count_r3 := goodIn_r _ [295, 296, 297, 298] (by decide +kernel) (by decide +kernel)
set_option maxRecDepth 20000 in
theorem kw98 : GoodIn wsL_law0 wsX00 := goodIn_r _ [485, 486, 487, 488, 489, 490, 491, 492, 493] (by decide +kernel) (by decide +kernel)
set_option maxRecDepth 20000 in
theorem kw99 : GoodIn wsL_law0 [Cond.code yX5_count cX5_count 2 (some .int)] := goodIn_r _ [280] (by decide +kernel) (by decide +kernel)
theorem ggL_law_X5_count : GoodIn wsL_law wsX5_count := (goodIn_app (kL0 kw99) (goodIn_app (goodIn_app (goodIn_app (goodIn_app (goodIn_app (goodIn_app (goodIn_app (kL0 kw95) (goodIn_app (kL0 kw96) (kL0 kw97))) (kL0 kw67)) (kL0 kw66)) (kL0 kw68)) (kL0 kw82)) (kL0 kw98)) (goodIn_sub (fun _ h => List.mem_append_right _ h) (by decide +kernel))))
set_option maxRecDepth 20000 in
theorem gL_law_X5_count : GoodIn wsL_law (wsV RL 60 RX5 yX5_count wsX5_count) := goodIn_app (goodIn_of _ (by decide +kernel)) ggL_law_X5_count
set_option maxRecDepth 20000 in
theorem kw100 : GoodIn wsL_law0 wsX5_send_r1 := goodIn_r _ [80, 81, 82, 83, 23, 202, 203, 204, 2, 205, 206, 207, 18, 208, 209, 17, 210, 211, 31, 98, 88, 89, 21, 90] (by decide +kernel) (by decide +kernel)
set_option maxRecDepth 20000 in
theorem kw101 : GoodIn wsL_law0 wsX5_send_r2 := goodIn_r _ [91, 212, 172, 173, 174, 175, 176, 177, 178, 179, 180, 181, 182, 183, 184, 185, 186, 37, 84, 85, 86, 303, 304, 305] (by decide +kernel) (by decide +kernel)
set_option maxRecDepth 20000 in
theorem kw102 : GoodIn wsL_law0 wsX5_send_r3 := goodIn_r _ [306, 307, 97, 308, 309, 107, 103, 310, 281, 282, 283, 284, 25, 87, 311, 312, 313, 314, 315, 316, 317, 24, 318, 319] (by decide +kernel) (by decide +kernel)
set_option maxRecDepth 20000 in
theorem kw103 : GoodIn wsL_law0 wsX5_send_r4 := goodIn_r _ [320, 13, 14, 321, 322, 323, 324, 325, 326, 327, 328, 329, 330, 115, 116, 117, 118, 119, 120, 121, 122, 123, 124, 125] (by decide +kernel) (by decide +kernel)
set_option maxRecDepth 20000 in
theorem kw104 : GoodIn wsL_law0 wsX5_send_r5 := goodIn_r _ [126, 127, 128, 129, 130, 131, 36, 132, 133, 134, 135, 136, 137, 138, 139, 140, 141, 142, 143, 144, 145, 146, 147, 148] (by decide +kernel) (by decide +kernel)
set_option maxRecDepth 20000 in
theorem kw105 : GoodIn wsL_law0 wsX5_send_r6 := goodIn_r _ [149, 150, 151, 152, 153, 154, 155, 156, 157, 158, 159, 160, 161, 162, 163, 164, 165, 331, 332, 333, 334, 335, 336, 337] (by decide +kernel) (by decide +kernel)
set_option maxRecDepth 20000 in
theorem kw106 : GoodIn wsL_law0 wsX5_send_r7 := goodIn_r _ [338, 339, 340, 341, 342, 343, 344, 345, 346, 347] (by decide +kernel) (by decide +kernel)
set_option maxRecDepth 20000 in
theorem kw107 : GoodIn wsL_law0 [Cond.code yX5_send cX5_send 6 (some .int)] := goodIn_r _ [302] (by decide +kernel) (by decide +kernel)
theorem ggL_law_X5_send : GoodIn wsL_law wsX5_send := (goodIn_app (kL0 kw107) (goodIn_app (goodIn_app (goodIn_app (goodIn_app (goodIn_app (goodIn_app (goodIn_app (goodIn_app (goodIn_app (kL0 kw100) (goodIn_app (kL0 kw101) (goodIn_app (kL0 kw102) (goodIn_app (kL0 kw103) (goodIn_app (kL0 kw104) (goodIn_app (kL0 kw105) (kL0 kw106))))))) (kL0 kw67)) (kL0 kw66)) (kL0 kw68)) (kL0 kw81)) (kL0 kw98)) (goodIn_sub (fun _ h => List.mem_append_left _ (List.mem_append_left _ (List.mem_append_right _ h))) (by decide +kernel))) (goodIn_sub (fun _ h => List.mem_append_left _ (List.mem_append_right _ h)) (by decide +kernel))) (goodIn_sub (fun _ h => List.mem_append_right _ h) (by decide +kernel))))
set_option maxRecDepth 20000 in
theorem gL_law_X5_send : GoodIn wsL_law (wsV RL 64 RX5 yX5_send wsX5_send) := goodIn_app (goodIn_of _ (by decide +kernel)) ggL_law_X5_send
set_option maxRecDepth 20000 in
theorem kw108 : GoodIn wsL_law0 wsX5_run_r1 := goodIn_r _ [80, 81, 25, 24, 84, 85, 2, 86, 352, 353, 354, 355, 22, 356, 87, 88, 89, 21, 90, 91, 212, 172, 173, 174] (by decide +kernel) (by decide +kernel)
set_option maxRecDepth 20000 in
theorem kw109 : GoodIn wsL_law0 wsX5_run_r2 := goodIn_r _ [175, 176, 177, 178, 179, 180, 181, 182, 183, 184, 185, 186, 37, 357, 358, 359, 360, 361, 362, 363, 364, 365, 18] (by decide +kernel) (by decide +kernel)
set_option maxRecDepth 20000 in
theorem kw110 : GoodIn wsL_law0 wsX5_run_r3 := goodIn_r _ [289, 208, 366, 17, 367, 368, 32, 98, 369, 370, 371, 372, 221, 373, 374, 230, 228, 231, 237, 238, 239, 240, 166, 167] (by decide +kernel) (by decide +kernel)
set_option maxRecDepth 20000 in
theorem kw111 : GoodIn wsL_law0 wsX5_run_r4 := goodIn_r _ [168, 169, 31, 95, 171, 209, 210, 211, 375, 376, 377, 378, 303, 304, 305, 306, 23, 307, 97, 308, 309, 107, 103, 310] (by decide +kernel) (by decide +kernel)
set_option maxRecDepth 20000 in
theorem kw112 : GoodIn wsL_law0 wsX5_run_r5 := goodIn_r _ [281, 282, 283, 284, 311, 312, 313, 314, 315, 316, 317, 318, 319, 320, 13, 14, 321, 322, 323, 324, 325, 326, 327, 328] (by decide +kernel) (by decide +kernel)
set_option maxRecDepth 20000 in
theorem kw113 : GoodIn wsL_law0 wsX5_run_r6 := goodIn_r _ [329, 330, 115, 116, 117, 118, 119, 120, 121, 122, 123, 124, 125, 126, 127, 128, 129, 130, 131, 36, 132, 133, 134, 135] (by decide +kernel) (by decide +kernel)
set_option maxRecDepth 20000 in
theorem kw114 : GoodIn wsL_law0 wsX5_run_r7 := goodIn_r _ [136, 137, 138, 139, 140, 141, 142, 143, 144, 145, 146, 147, 148, 149, 150, 151, 152, 153, 154, 155, 156, 157, 158, 159] (by decide +kernel) (by decide +kernel)
set_option maxRecDepth 20000 in
theorem kw115 : GoodIn wsL_law0 wsX5_run_r8 := goodIn_r _ [160, 161, 162, 163, 164, 165, 331, 332, 333, 334, 335, 336, 337, 338, 339, 340, 341, 342, 343, 344, 345, 346, 347, 379] (by decide +kernel) (by decide +kernel)
set_option maxRecDepth 20000 in
theorem kw116 : GoodIn wsL_law0 wsX5_run_r9 := goodIn_r _ [380, 381, 382, 383, 384, 385, 386, 315, 290, 291, 292, 233, 293, 294, 295, 296, 297, 298, 388, 389, 390, 391, 26, 392] (by decide +kernel) (by decide +kernel)
set_option maxRecDepth 20000 in
theorem kw117 : GoodIn wsL_law0 wsX5_run_r10 := goodIn_r _ [393, 394, 395, 396, 397, 398, 399, 400, 401, 402, 403, 404, 405, 406, 407, 408, 409, 410, 411, 412, 413, 414, 258, 219] (by decide +kernel) (by decide +kernel)
set_option maxRecDepth 20000 in
theorem kw118 : GoodIn wsL_law0 wsX5_run_r11 := goodIn_r _ [254, 255, 256, 257, 260, 261, 262, 263, 264, 265, 102, 108, 266, 267, 268, 269, 270, 271, 272, 415, 416, 417, 234, 229] (by decide +kernel) (by decide +kernel)
set_option maxRecDepth 20000 in
theorem kw119 : GoodIn wsL_law0 wsX5_run_r12 := goodIn_r _ [236, 418, 419, 420, 421, 422] (by decide +kernel) (by decide +kernel)
set_option maxRecDepth 20000 in
theorem kw120 : GoodIn wsL_law0 [Cond.code yX5_run cX5_run 4 (some .int)] := goodIn_r _ [351] (by decide +kernel) (by decide +kernel)
theorem ggL_law_X5_run : GoodIn wsL_law wsX5_run := (goodIn_app (kL0 kw120) (goodIn_app (goodIn_app (goodIn_app (goodIn_app (goodIn_app (goodIn_app (goodIn_app (goodIn_app (kL0 kw108) (goodIn_app (kL0 kw109) (goodIn_app (kL0 kw110) (goodIn_app (kL0 kw111) (goodIn_app (kL0 kw112) (goodIn_app (kL0 kw113) (goodIn_app (kL0 kw114) (goodIn_app (kL0 kw115) (goodIn_app (kL0 kw116) (goodIn_app (kL0 kw117) (goodIn_app (kL0 kw118) (kL0 kw119)))))))))))) (kL0 kw67)) (kL0 kw68)) (kL0 kw66)) (kL0 kw82)) (kL0 kw81)) (kL0 kw98)) (goodIn_sub (fun _ h => List.mem_append_left _ (List.mem_append_left _ (List.mem_append_right _ h))) (by decide +kernel))))
