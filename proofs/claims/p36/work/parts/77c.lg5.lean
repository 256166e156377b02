/-! words of the law's callees among the callers' -/
set_option maxRecDepth 20000 in
theorem ggL_same_X7_all : GoodIn wsL_same wsX7_all := goodIn_ca (goodIn_r _ [6, 7, 8, 9, 10, 11, 12, 13, 5, 14, 15, 16, 17, 18, 19, 20, 21, 22, 23, 24, 25, 26, 27, 28, 29, 30, 31, 32, 33, 34, 35, 36, 37, 38, 39, 40, 41, 42, 43, 44, 45, 46, 47, 48, 49, 50, 51, 52, 53, 54, 55, 56, 57, 261, 262, 263, 264, 265, 266, 267, 268, 269, 270, 271, 272, 273, 274, 275, 276, 277, 278, 279, 280, 281, 282, 283, 284, 285, 286, 287, 288, 289, 290] (by decide +kernel) (by decide +kernel)) (goodIn_sub (fun _ h => List.mem_cons_of_mem _ (List.mem_append_right _ h)) (by decide +kernel))
set_option maxRecDepth 20000 in
theorem gL_same_X7_all : GoodIn wsL_same (wsV RL 135 RX7 yX7_all wsX7_all) := goodIn_app (goodIn_of _ (by decide +kernel)) ggL_same_X7_all
set_option maxRecDepth 20000 in
theorem ggL_same_X7_ofSuit : GoodIn wsL_same wsX7_ofSuit := goodIn_ca (goodIn_r _ [61, 7, 8, 62, 63, 64, 65, 66, 67, 68, 69, 70, 71, 72, 73, 5, 74, 27, 28, 29, 30, 31, 32, 33, 34, 75, 76, 77, 35, 36, 37, 38, 39, 40, 41, 42, 43, 44, 45, 46, 47, 48, 49, 50, 51, 78, 79, 80, 81, 82, 83, 84, 85, 86, 87, 55, 88, 89, 90, 91, 92, 93, 94, 95, 96, 97, 98, 99, 100, 101, 102, 103, 104, 105, 106, 107, 108, 109, 110, 111, 112, 113, 114, 115, 116, 117, 118, 119, 120, 121, 17, 18, 19, 20, 21, 22, 122, 123, 124, 125, 126, 127, 128, 129, 130, 131, 11, 12, 13, 14, 15, 132, 276, 277, 278, 279, 280, 281, 282, 283, 284, 285, 286, 287, 288, 289, 290, 261, 262, 263, 264, 265, 266, 267, 268, 269, 270, 271, 272, 273, 274, 275, 291, 292, 293, 294, 295, 296, 297, 298, 299, 300, 301] (by decide +kernel) (by decide +kernel)) (goodIn_sub (fun _ h => List.mem_cons_of_mem _ (List.mem_append_right _ h)) (by decide +kernel))
set_option maxRecDepth 20000 in
theorem gL_same_X7_ofSuit : GoodIn wsL_same (wsV RL 138 RX7 yX7_ofSuit wsX7_ofSuit) := goodIn_app (goodIn_of _ (by decide +kernel)) ggL_same_X7_ofSuit
set_option maxRecDepth 20000 in
theorem ggL_same_L_had : GoodIn wsL_same wsL_had := goodIn_r _ [136] (by decide +kernel) (by decide +kernel)
set_option maxRecDepth 20000 in
theorem gL_same_L_had : GoodIn wsL_same (va_wsS RL 61 yL_had wsL_had) := goodIn_app (goodIn_of _ (by decide +kernel)) ggL_same_L_had
set_option maxRecDepth 20000 in
theorem ggL_same_X7_ofFirm : GoodIn wsL_same wsX7_ofFirm := goodIn_ca (goodIn_r _ [140, 7, 8, 141, 142, 143, 144, 145, 146, 147, 5, 148, 149, 75, 76, 77, 302, 303, 304, 305, 306, 307, 308, 261, 262, 263, 264, 265, 266, 267, 268, 269, 270, 271, 272] (by decide +kernel) (by decide +kernel)) (goodIn_sub (fun _ h => List.mem_cons_of_mem _ (List.mem_append_right _ h)) (by decide +kernel))
set_option maxRecDepth 20000 in
theorem gL_same_X7_ofFirm : GoodIn wsL_same (wsV RL 141 RX7 yX7_ofFirm wsX7_ofFirm) := goodIn_app (goodIn_of _ (by decide +kernel)) ggL_same_X7_ofFirm
set_option maxRecDepth 20000 in
theorem ggL_same_X7_got : GoodIn wsL_same wsX7_got := goodIn_ca (goodIn_r _ [153, 7, 8, 154, 155, 156, 157, 158, 159, 5, 160, 161, 75, 76, 77, 309, 310, 311, 312, 313, 314, 315, 261, 262, 263, 264, 265, 266, 267, 268, 269, 270, 271, 272] (by decide +kernel) (by decide +kernel)) (goodIn_sub (fun _ h => List.mem_cons_of_mem _ (List.mem_append_right _ h)) (by decide +kernel))
set_option maxRecDepth 20000 in
theorem gL_same_X7_got : GoodIn wsL_same (wsV RL 144 RX7 yX7_got wsX7_got) := goodIn_app (goodIn_of _ (by decide +kernel)) ggL_same_X7_got
set_option maxRecDepth 20000 in
theorem ggL_same_X7_ofClaim : GoodIn wsL_same wsX7_ofClaim := goodIn_ca (goodIn_r _ [165, 7, 8, 166, 167, 168, 169, 170, 171, 29, 30, 31, 32, 33, 34, 75, 76, 5, 77, 35, 36, 37, 38, 39, 40, 41, 42, 43, 44, 45, 46, 47, 48, 49, 50, 51, 261, 262, 263, 264, 265, 266, 267, 268, 269, 270, 271, 272, 316, 317, 318, 319, 273, 274, 275] (by decide +kernel) (by decide +kernel)) (goodIn_sub (fun _ h => List.mem_cons_of_mem _ (List.mem_append_right _ h)) (by decide +kernel))
set_option maxRecDepth 20000 in
theorem gL_same_X7_ofClaim : GoodIn wsL_same (wsV RL 147 RX7 yX7_ofClaim wsX7_ofClaim) := goodIn_app (goodIn_of _ (by decide +kernel)) ggL_same_X7_ofClaim
set_option maxRecDepth 20000 in
theorem ggL_same_L_low : GoodIn wsL_same wsL_low := goodIn_r _ [174, 175] (by decide +kernel) (by decide +kernel)
set_option maxRecDepth 20000 in
theorem gL_same_L_low : GoodIn wsL_same (va_wsS RL 89 yL_low wsL_low) := goodIn_app (goodIn_of _ (by decide +kernel)) ggL_same_L_low
set_option maxRecDepth 20000 in
theorem ggL_same_X7_due : GoodIn wsL_same wsX7_due := goodIn_ca (goodIn_r _ [179, 71, 72, 73, 5, 74, 27, 28, 29, 30, 31, 32, 33, 34, 75, 76, 77, 7, 8, 35, 36, 37, 38, 39, 40, 41, 42, 43, 44, 45, 46, 47, 48, 49, 50, 51, 180, 181, 182, 183, 83, 84, 184, 185, 186, 55, 187, 89, 96, 97, 98, 99, 100, 101, 102, 103, 104, 105, 106, 107, 108, 109, 110, 111, 112, 113, 114, 115, 116, 117, 118, 93, 119, 120, 121, 17, 18, 19, 20, 21, 22, 122, 123, 124, 125, 66, 126, 127, 128, 129, 130, 64, 131, 11, 12, 13, 14, 15, 132, 188, 189, 190, 191, 166, 167, 169, 192, 193, 194, 195, 168, 196, 171, 170, 197, 198, 199, 200, 201, 202, 203, 204, 205, 206, 207, 208, 261, 262, 263, 264, 265, 266, 267, 268, 269, 270, 271, 272, 273, 274, 275, 276, 277, 278, 279, 280, 281, 282, 283, 284, 285, 286, 287, 288, 289, 290, 291, 292, 293, 294, 295, 296, 297, 298, 299, 300, 301, 316, 317, 318, 319] (by decide +kernel) (by decide +kernel)) (goodIn_sub (fun _ h => List.mem_cons_of_mem _ (List.mem_append_right _ h)) (by decide +kernel))
set_option maxRecDepth 20000 in
theorem gL_same_X7_due : GoodIn wsL_same (wsV RL 150 RX7 yX7_due wsX7_due) := goodIn_app (goodIn_of _ (by decide +kernel)) ggL_same_X7_due
set_option maxRecDepth 20000 in
theorem ggL_same_L_due : GoodIn wsL_same wsL_due := goodIn_r _ [211, 212, 213, 214, 135, 215, 1, 216, 217, 218, 219, 220, 221, 133, 134, 136, 222, 223, 224, 225, 226, 227, 175] (by decide +kernel) (by decide +kernel)
set_option maxRecDepth 20000 in
theorem gL_same_L_due : GoodIn wsL_same (va_wsS RL 118 yL_due wsL_due) := goodIn_app (goodIn_of _ (by decide +kernel)) ggL_same_L_due
set_option maxRecDepth 20000 in
theorem ggL_same_L_hundredths : GoodIn wsL_same wsL_hundredths := goodIn_r _ [230, 216, 217, 135, 218, 219, 220, 221, 133, 134, 136, 222, 223, 224, 225, 226, 227, 175] (by decide +kernel) (by decide +kernel)
set_option maxRecDepth 20000 in
theorem gL_same_L_hundredths : GoodIn wsL_same (va_wsS RL 85 yL_hundredths wsL_hundredths) := goodIn_app (goodIn_of _ (by decide +kernel)) ggL_same_L_hundredths
set_option maxRecDepth 20000 in
theorem ggL_same_X7_sees : GoodIn wsL_same wsX7_sees := goodIn_ca (goodIn_r _ [234, 62, 9, 75, 76, 5, 77, 7, 8, 71, 72, 73, 74, 27, 28, 29, 30, 31, 32, 33, 34, 35, 36, 37, 38, 39, 40, 41, 42, 43, 44, 45, 46, 47, 48, 49, 50, 51, 52, 53, 54, 55, 56, 57, 276, 277, 278, 279, 280, 281, 282, 283, 284, 285, 286, 287, 288, 289, 290, 261, 262, 263, 264, 265, 266, 267, 268, 269, 270, 271, 272, 273, 274, 275] (by decide +kernel) (by decide +kernel)) (goodIn_sub (fun _ h => List.mem_cons_of_mem _ (List.mem_append_right _ h)) (by decide +kernel))
set_option maxRecDepth 20000 in
theorem gL_same_X7_sees : GoodIn wsL_same (wsV RL 152 RX7 yX7_sees wsX7_sees) := goodIn_app (goodIn_of _ (by decide +kernel)) ggL_same_X7_sees
set_option maxRecDepth 20000 in
theorem ggL_same_X7_covers : GoodIn wsL_same wsX7_covers := goodIn_ca (goodIn_r _ [238, 71, 72, 73, 5, 74, 27, 28, 29, 30, 31, 32, 33, 34, 75, 76, 77, 7, 8, 35, 36, 37, 38, 39, 40, 41, 42, 43, 44, 45, 46, 47, 48, 49, 50, 51, 239, 240, 241, 242, 83, 84, 101, 102, 103, 55, 104, 105, 106, 107, 108, 109, 110, 111, 112, 113, 114, 115, 116, 117, 118, 93, 119, 120, 121, 17, 18, 19, 20, 21, 22, 261, 262, 263, 264, 265, 266, 267, 268, 269, 270, 271, 272, 273, 274, 275, 276, 277, 278, 279, 280, 281, 282, 283, 284, 285, 286, 287, 288, 289, 290, 291, 292, 293, 294, 295, 296, 297, 298, 299, 300, 301] (by decide +kernel) (by decide +kernel)) (goodIn_sub (fun _ h => List.mem_cons_of_mem _ (List.mem_append_right _ h)) (by decide +kernel))
set_option maxRecDepth 20000 in
theorem gL_same_X7_covers : GoodIn wsL_same (wsV RL 155 RX7 yX7_covers wsX7_covers) := goodIn_app (goodIn_of _ (by decide +kernel)) ggL_same_X7_covers
set_option maxRecDepth 20000 in
theorem ggL_same_L_day : GoodIn wsL_same wsL_day := goodIn_r _ [221, 133, 134, 135, 136, 222, 223, 224] (by decide +kernel) (by decide +kernel)
set_option maxRecDepth 20000 in
theorem gL_same_L_day : GoodIn wsL_same (va_wsS RL 68 yL_day wsL_day) := goodIn_app (goodIn_of _ (by decide +kernel)) ggL_same_L_day
set_option maxRecDepth 20000 in
theorem ggL_same_X7_bars : GoodIn wsL_same wsX7_bars := goodIn_ca (goodIn_r _ [246, 71, 72, 73, 5, 74, 27, 28, 29, 30, 31, 32, 33, 34, 75, 76, 77, 7, 8, 35, 36, 37, 38, 39, 40, 41, 42, 43, 44, 45, 46, 47, 48, 49, 50, 51, 239, 240, 241, 242, 83, 84, 96, 97, 98, 99, 100, 101, 102, 103, 55, 104, 105, 106, 107, 108, 109, 110, 111, 112, 113, 114, 115, 116, 117, 118, 93, 119, 120, 121, 17, 18, 19, 20, 21, 22, 122, 123, 124, 125, 66, 126, 127, 128, 129, 130, 64, 131, 11, 12, 13, 14, 15, 132, 261, 262, 263, 264, 265, 266, 267, 268, 269, 270, 271, 272, 273, 274, 275, 276, 277, 278, 279, 280, 281, 282, 283, 284, 285, 286, 287, 288, 289, 290, 291, 292, 293, 294, 295, 296, 297, 298, 299, 300, 301] (by decide +kernel) (by decide +kernel)) (goodIn_sub (fun _ h => List.mem_cons_of_mem _ (List.mem_append_right _ h)) (by decide +kernel))
set_option maxRecDepth 20000 in
theorem gL_same_X7_bars : GoodIn wsL_same (wsV RL 158 RX7 yX7_bars wsX7_bars) := goodIn_app (goodIn_of _ (by decide +kernel)) ggL_same_X7_bars
set_option maxRecDepth 20000 in
theorem ggL_same_L_bar : GoodIn wsL_same wsL_bar := goodIn_r _ [218, 219, 220, 135, 221, 133, 134, 136, 222, 223, 224, 225, 226, 227, 175] (by decide +kernel) (by decide +kernel)
set_option maxRecDepth 20000 in
theorem gL_same_L_bar : GoodIn wsL_same (va_wsS RL 77 yL_bar wsL_bar) := goodIn_app (goodIn_of _ (by decide +kernel)) ggL_same_L_bar
set_option maxRecDepth 20000 in
theorem ggL_same_X7_first : GoodIn wsL_same wsX7_first := goodIn_ca (goodIn_r _ [250, 239, 240, 241, 5, 242, 83, 84, 29, 30, 31, 32, 33, 34, 75, 76, 77, 7, 8, 35, 36, 37, 38, 39, 40, 41, 42, 43, 44, 45, 46, 47, 48, 49, 50, 51, 122, 123, 124, 125, 27, 28, 66, 101, 102, 103, 55, 104, 105, 106, 107, 108, 109, 110, 111, 112, 113, 114, 115, 116, 117, 118, 93, 119, 120, 121, 17, 18, 19, 20, 21, 22, 261, 262, 263, 264, 265, 266, 267, 268, 269, 270, 271, 272, 273, 274, 275, 276, 277, 278, 279, 280, 281, 282, 283, 284, 285, 286, 287, 288, 289, 290, 291, 292, 293, 294, 295, 296, 297, 298, 299, 300, 301] (by decide +kernel) (by decide +kernel)) (goodIn_sub (fun _ h => List.mem_cons_of_mem _ (List.mem_append_right _ h)) (by decide +kernel))
set_option maxRecDepth 20000 in
theorem gL_same_X7_first : GoodIn wsL_same (wsV RL 161 RX7 yX7_first wsX7_first) := goodIn_app (goodIn_of _ (by decide +kernel)) ggL_same_X7_first
set_option maxRecDepth 20000 in
theorem ggL_same_L_first : GoodIn wsL_same wsL_first := goodIn_r _ [227, 175, 219, 220, 135, 221, 133, 134, 136, 222, 223, 224] (by decide +kernel) (by decide +kernel)
set_option maxRecDepth 20000 in
theorem gL_same_L_first : GoodIn wsL_same (va_wsS RL 72 yL_first wsL_first) := goodIn_app (goodIn_of _ (by decide +kernel)) ggL_same_L_first
set_option maxRecDepth 20000 in
theorem ggL_same_X7_firstAnew : GoodIn wsL_same wsX7_firstAnew := goodIn_ca (goodIn_r _ [254, 255, 256, 239, 240, 241, 5, 242, 83, 84, 29, 30, 31, 32, 33, 34, 75, 76, 77, 7, 8, 35, 36, 37, 38, 39, 40, 41, 42, 43, 44, 45, 46, 47, 48, 49, 50, 51, 257, 258, 259, 260, 27, 28, 66, 101, 102, 103, 55, 104, 105, 106, 107, 108, 109, 110, 111, 112, 113, 114, 115, 116, 117, 118, 93, 119, 120, 121, 17, 18, 19, 20, 21, 22, 261, 262, 263, 264, 265, 266, 267, 268, 269, 270, 271, 272, 273, 274, 275, 276, 277, 278, 279, 280, 281, 282, 283, 284, 285, 286, 287, 288, 289, 290, 291, 292, 293, 294, 295, 296, 297, 298, 299, 300, 301] (by decide +kernel) (by decide +kernel)) (goodIn_sub (fun _ h => List.mem_cons_of_mem _ (List.mem_append_right _ h)) (by decide +kernel))
set_option maxRecDepth 20000 in
theorem gL_same_X7_firstAnew : GoodIn wsL_same (wsV RL 163 RX7 yX7_firstAnew wsX7_firstAnew) := goodIn_app (goodIn_of _ (by decide +kernel)) ggL_same_X7_firstAnew
