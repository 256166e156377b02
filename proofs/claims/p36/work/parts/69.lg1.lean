/-! words of the law's readers among each other's -/
set_option maxRecDepth 20000 in
theorem ggL_day_L_had : GoodIn wsL_day wsL_had := goodIn_r _ [4] (by decide +kernel) (by decide +kernel)
set_option maxRecDepth 20000 in
theorem gL_day_L_had : GoodIn wsL_day (va_wsS RL 61 yL_had wsL_had) := goodIn_app (goodIn_of _ (by decide +kernel)) ggL_day_L_had
set_option maxRecDepth 20000 in
theorem ggL_day_L_ones : GoodIn wsL_day wsL_ones := goodIn_r _ [7] (by decide +kernel) (by decide +kernel)
set_option maxRecDepth 20000 in
theorem gL_day_L_ones : GoodIn wsL_day (va_wsS RL 65 yL_ones wsL_ones) := goodIn_app (goodIn_of _ (by decide +kernel)) ggL_day_L_ones
set_option maxRecDepth 20000 in
theorem ggL_first_L_day : GoodIn wsL_first wsL_day := goodIn_r _ [5, 6, 7, 4, 8, 9, 10, 11] (by decide +kernel) (by decide +kernel)
set_option maxRecDepth 20000 in
theorem gL_first_L_day : GoodIn wsL_first (va_wsS RL 68 yL_day wsL_day) := goodIn_app (goodIn_of _ (by decide +kernel)) ggL_first_L_day
set_option maxRecDepth 20000 in
theorem ggL_bar_L_day : GoodIn wsL_bar wsL_day := goodIn_r _ [4, 5, 6, 3, 7, 8, 9, 10] (by decide +kernel) (by decide +kernel)
set_option maxRecDepth 20000 in
theorem gL_bar_L_day : GoodIn wsL_bar (va_wsS RL 68 yL_day wsL_day) := goodIn_app (goodIn_of _ (by decide +kernel)) ggL_bar_L_day
set_option maxRecDepth 20000 in
theorem ggL_bar_L_first : GoodIn wsL_bar wsL_first := goodIn_r _ [13, 14, 1, 2, 3, 4, 5, 6, 7, 8, 9, 10] (by decide +kernel) (by decide +kernel)
set_option maxRecDepth 20000 in
theorem gL_bar_L_first : GoodIn wsL_bar (va_wsS RL 72 yL_first wsL_first) := goodIn_app (goodIn_of _ (by decide +kernel)) ggL_bar_L_first
set_option maxRecDepth 20000 in
theorem ggL_bar_L_ones : GoodIn wsL_bar wsL_ones := goodIn_r _ [10] (by decide +kernel) (by decide +kernel)
set_option maxRecDepth 20000 in
theorem gL_bar_L_ones : GoodIn wsL_bar (va_wsS RL 65 yL_ones wsL_ones) := goodIn_app (goodIn_of _ (by decide +kernel)) ggL_bar_L_ones
set_option maxRecDepth 20000 in
theorem ggL_counts_L_bar : GoodIn wsL_counts wsL_bar := goodIn_r _ [5, 6, 7, 4, 8, 9, 10, 11, 12, 13, 14, 15, 16, 17, 18] (by decide +kernel) (by decide +kernel)
set_option maxRecDepth 20000 in
theorem gL_counts_L_bar : GoodIn wsL_counts (va_wsS RL 77 yL_bar wsL_bar) := goodIn_app (goodIn_of _ (by decide +kernel)) ggL_counts_L_bar
set_option maxRecDepth 20000 in
theorem ggL_counts_L_day : GoodIn wsL_counts wsL_day := goodIn_r _ [8, 9, 10, 4, 11, 12, 13, 14] (by decide +kernel) (by decide +kernel)
set_option maxRecDepth 20000 in
theorem gL_counts_L_day : GoodIn wsL_counts (va_wsS RL 68 yL_day wsL_day) := goodIn_app (goodIn_of _ (by decide +kernel)) ggL_counts_L_day
set_option maxRecDepth 20000 in
theorem ggL_due_L_counts : GoodIn wsL_due wsL_counts := goodIn_r _ [5, 6, 7, 8, 4, 9, 10, 11, 12, 13, 14, 15, 16, 17, 18, 19, 20, 21, 22] (by decide +kernel) (by decide +kernel)
set_option maxRecDepth 20000 in
theorem gL_due_L_counts : GoodIn wsL_due (va_wsS RL 81 yL_counts wsL_counts) := goodIn_app (goodIn_of _ (by decide +kernel)) ggL_due_L_counts
set_option maxRecDepth 20000 in
theorem ggL_hundredths_L_bar : GoodIn wsL_hundredths wsL_bar := goodIn_r _ [4, 5, 6, 3, 7, 8, 9, 10, 11, 12, 13, 14, 15, 16, 17] (by decide +kernel) (by decide +kernel)
set_option maxRecDepth 20000 in
theorem gL_hundredths_L_bar : GoodIn wsL_hundredths (va_wsS RL 77 yL_bar wsL_bar) := goodIn_app (goodIn_of _ (by decide +kernel)) ggL_hundredths_L_bar
set_option maxRecDepth 20000 in
theorem ggL_wins_L_hundredths : GoodIn wsL_wins wsL_hundredths := goodIn_r _ [4, 5, 6, 3, 7, 8, 9, 10, 11, 12, 13, 14, 15, 16, 17, 18, 19, 20] (by decide +kernel) (by decide +kernel)
set_option maxRecDepth 20000 in
theorem gL_wins_L_hundredths : GoodIn wsL_wins (va_wsS RL 85 yL_hundredths wsL_hundredths) := goodIn_app (goodIn_of _ (by decide +kernel)) ggL_wins_L_hundredths
set_option maxRecDepth 20000 in
theorem ggL_wins_L_bar : GoodIn wsL_wins wsL_bar := goodIn_r _ [7, 8, 9, 3, 10, 11, 12, 13, 14, 15, 16, 17, 18, 19, 20] (by decide +kernel) (by decide +kernel)
set_option maxRecDepth 20000 in
theorem gL_wins_L_bar : GoodIn wsL_wins (va_wsS RL 77 yL_bar wsL_bar) := goodIn_app (goodIn_of _ (by decide +kernel)) ggL_wins_L_bar
set_option maxRecDepth 20000 in
theorem ggL_wins_L_counts : GoodIn wsL_wins wsL_counts := goodIn_r _ [23, 24, 5, 6, 3, 7, 8, 9, 10, 11, 12, 13, 14, 15, 16, 17, 18, 19, 20] (by decide +kernel) (by decide +kernel)
set_option maxRecDepth 20000 in
theorem gL_wins_L_counts : GoodIn wsL_wins (va_wsS RL 81 yL_counts wsL_counts) := goodIn_app (goodIn_of _ (by decide +kernel)) ggL_wins_L_counts
