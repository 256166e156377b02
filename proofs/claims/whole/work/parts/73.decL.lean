set_option maxRecDepth 20000 in
theorem ggL_fund_X7_fund : GoodIn wsL_fund wsX7_fund := goodIn_ca (goodIn_ca (goodIn_ca (goodIn_r _ [8, 9, 10, 11, 12, 13, 14, 15, 7, 16, 17, 18, 19, 20, 21, 22, 23, 24, 25, 26, 27, 28, 29, 30, 31, 32, 33, 34, 35, 36, 37, 38, 39, 40, 41, 42, 43, 44, 45, 46, 47, 48, 49, 50, 51, 52, 53, 54] (by decide +kernel) (by decide +kernel)) (goodIn_sub (fun _ h => List.mem_cons_of_mem _ (List.mem_append_left _ (List.mem_append_left _ (List.mem_append_right _ h)))) (by decide +kernel))) (goodIn_sub (fun _ h => List.mem_cons_of_mem _ (List.mem_append_left _ (List.mem_append_right _ h))) (by decide +kernel))) (goodIn_sub (fun _ h => List.mem_cons_of_mem _ (List.mem_append_right _ h)) (by decide +kernel))
set_option maxRecDepth 20000 in
theorem gL_fund_X7_fund : GoodIn wsL_fund (wsV RL 7 RX7 yX7_fund wsX7_fund) := goodIn_app (goodIn_of _ (by decide +kernel)) ggL_fund_X7_fund
theorem dL_fund_0 : decode cL_fund 0 = .ok (.aload_n 3, 1) := by decide +kernel
theorem dL_fund_1 : decode cL_fund 1 = .ok (.iconst 0, 1) := by decide +kernel
theorem dL_fund_2 : decode cL_fund 2 = .ok (.aload_n 0, 1) := by decide +kernel
theorem dL_fund_3 : decode cL_fund 3 = .ok (.iload_n 1, 1) := by decide +kernel
theorem dL_fund_4 : decode cL_fund 4 = .ok (.iload_n 2, 1) := by decide +kernel
theorem dL_fund_5 : decode cL_fund 5 = .ok (.invokevirtual 7, 3) := by decide +kernel
theorem dL_fund_8 : decode cL_fund 8 = .ok (.i2l, 1) := by decide +kernel
theorem dL_fund_9 : decode cL_fund 9 = .ok (.lastore, 1) := by decide +kernel
theorem dL_fund_10 : decode cL_fund 10 = .ok (.goto 15, 3) := by decide +kernel
theorem dL_fund_13 : decode cL_fund 13 = .ok (.astore 4, 2) := by decide +kernel
theorem dL_fund_15 : decode cL_fund 15 = .ok (.iconst 1, 1) := by decide +kernel
theorem dL_fund_16 : decode cL_fund 16 = .ok (.ireturn, 1) := by decide +kernel
theorem dL_fund_17 : decode cL_fund 17 = .ok (.astore 4, 2) := by decide +kernel
theorem dL_fund_19 : decode cL_fund 19 = .ok (.iconst 2, 1) := by decide +kernel
theorem dL_fund_20 : decode cL_fund 20 = .ok (.ireturn, 1) := by decide +kernel
theorem dL_fund_21 : decode cL_fund 21 = .ok (.astore 4, 2) := by decide +kernel
theorem dL_fund_23 : decode cL_fund 23 = .ok (.iconst 3, 1) := by decide +kernel
theorem dL_fund_24 : decode cL_fund 24 = .ok (.ireturn, 1) := by decide +kernel
theorem dL_fund_25 : decode cL_fund 25 = .ok (.iconst 0, 1) := by decide +kernel
theorem dL_fund_26 : decode cL_fund 26 = .ok (.ireturn, 1) := by decide +kernel
set_option maxRecDepth 20000 in
theorem ggL_scheme_X7_scheme : GoodIn wsL_scheme wsX7_scheme := goodIn_ca (goodIn_ca (goodIn_ca (goodIn_r _ [8, 9, 10, 11, 12, 13, 14, 15, 7, 16, 17, 18, 19, 20, 21, 22, 23, 24, 25, 26, 27, 28, 29, 30, 31, 32, 33, 34, 35, 36, 37, 38, 39, 40, 41, 42, 43, 44, 45, 46, 47, 48, 49, 50, 51, 52, 53, 54, 55, 56, 57, 58, 59, 60, 61, 62, 63, 64, 65, 66, 67, 68, 69, 70, 71, 72, 73, 74, 75, 76, 77, 78, 79, 80, 81, 82, 83, 84, 85, 86, 87, 88, 89, 90, 91, 92, 93, 94, 95, 96, 97, 98, 99, 100, 101, 102, 103, 104, 105, 106, 107, 108, 109, 110, 111, 112, 113, 114, 115, 116, 117, 118, 119, 120, 121, 122, 123, 124, 125, 126, 127, 128, 129, 130] (by decide +kernel) (by decide +kernel)) (goodIn_sub (fun _ h => List.mem_cons_of_mem _ (List.mem_append_left _ (List.mem_append_left _ (List.mem_append_right _ h)))) (by decide +kernel))) (goodIn_sub (fun _ h => List.mem_cons_of_mem _ (List.mem_append_left _ (List.mem_append_right _ h))) (by decide +kernel))) (goodIn_sub (fun _ h => List.mem_cons_of_mem _ (List.mem_append_right _ h)) (by decide +kernel))
set_option maxRecDepth 20000 in
theorem gL_scheme_X7_scheme : GoodIn wsL_scheme (wsV RL 19 RX7 yX7_scheme wsX7_scheme) := goodIn_app (goodIn_of _ (by decide +kernel)) ggL_scheme_X7_scheme
theorem dL_scheme_0 : decode cL_scheme 0 = .ok (.aload 4, 2) := by decide +kernel
theorem dL_scheme_2 : decode cL_scheme 2 = .ok (.iconst 0, 1) := by decide +kernel
theorem dL_scheme_3 : decode cL_scheme 3 = .ok (.aload_n 0, 1) := by decide +kernel
theorem dL_scheme_4 : decode cL_scheme 4 = .ok (.iload_n 1, 1) := by decide +kernel
theorem dL_scheme_5 : decode cL_scheme 5 = .ok (.iload_n 2, 1) := by decide +kernel
theorem dL_scheme_6 : decode cL_scheme 6 = .ok (.iload_n 3, 1) := by decide +kernel
theorem dL_scheme_7 : decode cL_scheme 7 = .ok (.invokevirtual 19, 3) := by decide +kernel
theorem dL_scheme_10 : decode cL_scheme 10 = .ok (.i2l, 1) := by decide +kernel
theorem dL_scheme_11 : decode cL_scheme 11 = .ok (.lastore, 1) := by decide +kernel
theorem dL_scheme_12 : decode cL_scheme 12 = .ok (.goto 15, 3) := by decide +kernel
theorem dL_scheme_15 : decode cL_scheme 15 = .ok (.astore 5, 2) := by decide +kernel
theorem dL_scheme_17 : decode cL_scheme 17 = .ok (.iconst 1, 1) := by decide +kernel
theorem dL_scheme_18 : decode cL_scheme 18 = .ok (.ireturn, 1) := by decide +kernel
theorem dL_scheme_19 : decode cL_scheme 19 = .ok (.astore 5, 2) := by decide +kernel
theorem dL_scheme_21 : decode cL_scheme 21 = .ok (.iconst 2, 1) := by decide +kernel
theorem dL_scheme_22 : decode cL_scheme 22 = .ok (.ireturn, 1) := by decide +kernel
theorem dL_scheme_23 : decode cL_scheme 23 = .ok (.astore 5, 2) := by decide +kernel
theorem dL_scheme_25 : decode cL_scheme 25 = .ok (.iconst 3, 1) := by decide +kernel
theorem dL_scheme_26 : decode cL_scheme 26 = .ok (.ireturn, 1) := by decide +kernel
theorem dL_scheme_27 : decode cL_scheme 27 = .ok (.iconst 0, 1) := by decide +kernel
theorem dL_scheme_28 : decode cL_scheme 28 = .ok (.ireturn, 1) := by decide +kernel
set_option maxRecDepth 20000 in
theorem ggL_claim_X7_claim : GoodIn wsL_claim wsX7_claim := goodIn_ca (goodIn_ca (goodIn_ca (goodIn_r _ [8, 9, 10, 11, 12, 13, 14, 15, 16, 17, 18, 19, 20, 21, 22, 7, 23, 24, 25, 26, 27, 28, 29, 30, 31, 32, 33, 34, 35, 36, 37, 38, 39, 40, 41, 42, 43, 44, 45, 46, 47, 48, 49, 50, 51, 52, 53, 54, 55, 56, 57, 58, 59, 60, 61, 62, 63, 64, 65, 66, 67, 68, 69, 70, 71, 72, 73, 74, 75, 76, 77, 78, 79, 80, 81, 82, 83, 84, 85, 86, 87, 88, 89, 90, 91, 92, 93, 94, 95, 96, 97, 98, 99, 100, 101, 102, 103, 104, 105, 106, 107, 108, 109, 110, 111, 112, 113, 114, 115, 116, 117, 118, 119, 120, 121] (by decide +kernel) (by decide +kernel)) (goodIn_sub (fun _ h => List.mem_cons_of_mem _ (List.mem_append_left _ (List.mem_append_left _ (List.mem_append_right _ h)))) (by decide +kernel))) (goodIn_sub (fun _ h => List.mem_cons_of_mem _ (List.mem_append_left _ (List.mem_append_right _ h))) (by decide +kernel))) (goodIn_sub (fun _ h => List.mem_cons_of_mem _ (List.mem_append_right _ h)) (by decide +kernel))
set_option maxRecDepth 20000 in
theorem gL_claim_X7_claim : GoodIn wsL_claim (wsV RL 23 RX7 yX7_claim wsX7_claim) := goodIn_app (goodIn_of _ (by decide +kernel)) ggL_claim_X7_claim
theorem dL_claim_0 : decode cL_claim 0 = .ok (.aload_n 3, 1) := by decide +kernel
theorem dL_claim_1 : decode cL_claim 1 = .ok (.iconst 0, 1) := by decide +kernel
theorem dL_claim_2 : decode cL_claim 2 = .ok (.aload_n 0, 1) := by decide +kernel
theorem dL_claim_3 : decode cL_claim 3 = .ok (.iload_n 1, 1) := by decide +kernel
theorem dL_claim_4 : decode cL_claim 4 = .ok (.iload_n 2, 1) := by decide +kernel
theorem dL_claim_5 : decode cL_claim 5 = .ok (.invokevirtual 23, 3) := by decide +kernel
theorem dL_claim_8 : decode cL_claim 8 = .ok (.i2l, 1) := by decide +kernel
theorem dL_claim_9 : decode cL_claim 9 = .ok (.lastore, 1) := by decide +kernel
theorem dL_claim_10 : decode cL_claim 10 = .ok (.goto 15, 3) := by decide +kernel
theorem dL_claim_13 : decode cL_claim 13 = .ok (.astore 4, 2) := by decide +kernel
theorem dL_claim_15 : decode cL_claim 15 = .ok (.iconst 1, 1) := by decide +kernel
theorem dL_claim_16 : decode cL_claim 16 = .ok (.ireturn, 1) := by decide +kernel
theorem dL_claim_17 : decode cL_claim 17 = .ok (.astore 4, 2) := by decide +kernel
theorem dL_claim_19 : decode cL_claim 19 = .ok (.iconst 2, 1) := by decide +kernel
theorem dL_claim_20 : decode cL_claim 20 = .ok (.ireturn, 1) := by decide +kernel
theorem dL_claim_21 : decode cL_claim 21 = .ok (.astore 4, 2) := by decide +kernel
theorem dL_claim_23 : decode cL_claim 23 = .ok (.iconst 3, 1) := by decide +kernel
theorem dL_claim_24 : decode cL_claim 24 = .ok (.ireturn, 1) := by decide +kernel
theorem dL_claim_25 : decode cL_claim 25 = .ok (.iconst 0, 1) := by decide +kernel
theorem dL_claim_26 : decode cL_claim 26 = .ok (.ireturn, 1) := by decide +kernel
set_option maxRecDepth 20000 in
theorem ggL_sample_X7_sample : GoodIn wsL_sample wsX7_sample := goodIn_ca (goodIn_ca (goodIn_r _ [7, 8, 9, 10, 11, 12, 6, 13, 14, 15, 16, 17, 18, 19, 20, 21, 22, 23, 24, 25, 26, 27, 28, 29, 30, 31, 32, 33, 34, 35, 36, 37, 38, 39, 40, 41, 42, 43, 44, 45, 46, 47, 48, 49, 50, 51, 52, 53, 54, 55, 56, 57, 58, 59, 60, 61, 62, 63, 64, 65, 66, 67, 68, 69, 70, 71, 72, 73, 74, 75] (by decide +kernel) (by decide +kernel)) (goodIn_sub (fun _ h => List.mem_cons_of_mem _ (List.mem_append_left _ (List.mem_append_right _ h))) (by decide +kernel))) (goodIn_sub (fun _ h => List.mem_cons_of_mem _ (List.mem_append_right _ h)) (by decide +kernel))
set_option maxRecDepth 20000 in
theorem gL_sample_X7_sample : GoodIn wsL_sample (wsV RL 26 RX7 yX7_sample wsX7_sample) := goodIn_app (goodIn_of _ (by decide +kernel)) ggL_sample_X7_sample
theorem dL_sample_0 : decode cL_sample 0 = .ok (.aload_n 0, 1) := by decide +kernel
theorem dL_sample_1 : decode cL_sample 1 = .ok (.iload_n 1, 1) := by decide +kernel
theorem dL_sample_2 : decode cL_sample 2 = .ok (.iload_n 2, 1) := by decide +kernel
theorem dL_sample_3 : decode cL_sample 3 = .ok (.iload_n 3, 1) := by decide +kernel
theorem dL_sample_4 : decode cL_sample 4 = .ok (.invokevirtual 26, 3) := by decide +kernel
theorem dL_sample_7 : decode cL_sample 7 = .ok (.goto 11, 3) := by decide +kernel
theorem dL_sample_10 : decode cL_sample 10 = .ok (.astore 4, 2) := by decide +kernel
theorem dL_sample_12 : decode cL_sample 12 = .ok (.iconst 1, 1) := by decide +kernel
theorem dL_sample_13 : decode cL_sample 13 = .ok (.ireturn, 1) := by decide +kernel
theorem dL_sample_14 : decode cL_sample 14 = .ok (.astore 4, 2) := by decide +kernel
theorem dL_sample_16 : decode cL_sample 16 = .ok (.iconst 2, 1) := by decide +kernel
theorem dL_sample_17 : decode cL_sample 17 = .ok (.ireturn, 1) := by decide +kernel
theorem dL_sample_18 : decode cL_sample 18 = .ok (.iconst 0, 1) := by decide +kernel
theorem dL_sample_19 : decode cL_sample 19 = .ok (.ireturn, 1) := by decide +kernel
set_option maxRecDepth 20000 in
theorem ggL_learn_X7_learn : GoodIn wsL_learn wsX7_learn := goodIn_ca (goodIn_r _ [6, 7, 8, 9, 10, 5, 11, 12, 13, 14, 15, 16, 17, 18, 19, 20, 21, 22, 23, 24, 25, 26, 27, 28, 29, 30, 31, 32, 33, 34, 35, 36, 37, 38, 39, 40, 41, 42, 43] (by decide +kernel) (by decide +kernel)) (goodIn_sub (fun _ h => List.mem_cons_of_mem _ (List.mem_append_right _ h)) (by decide +kernel))
set_option maxRecDepth 20000 in
theorem gL_learn_X7_learn : GoodIn wsL_learn (wsV RL 30 RX7 yX7_learn wsX7_learn) := goodIn_app (goodIn_of _ (by decide +kernel)) ggL_learn_X7_learn
theorem dL_learn_0 : decode cL_learn 0 = .ok (.aload_n 3, 1) := by decide +kernel
theorem dL_learn_1 : decode cL_learn 1 = .ok (.iconst 0, 1) := by decide +kernel
theorem dL_learn_2 : decode cL_learn 2 = .ok (.aload_n 0, 1) := by decide +kernel
theorem dL_learn_3 : decode cL_learn 3 = .ok (.iload_n 1, 1) := by decide +kernel
theorem dL_learn_4 : decode cL_learn 4 = .ok (.iload_n 2, 1) := by decide +kernel
theorem dL_learn_5 : decode cL_learn 5 = .ok (.invokevirtual 30, 3) := by decide +kernel
theorem dL_learn_8 : decode cL_learn 8 = .ok (.i2l, 1) := by decide +kernel
theorem dL_learn_9 : decode cL_learn 9 = .ok (.lastore, 1) := by decide +kernel
theorem dL_learn_10 : decode cL_learn 10 = .ok (.goto 7, 3) := by decide +kernel
theorem dL_learn_13 : decode cL_learn 13 = .ok (.astore 4, 2) := by decide +kernel
theorem dL_learn_15 : decode cL_learn 15 = .ok (.iconst 1, 1) := by decide +kernel
theorem dL_learn_16 : decode cL_learn 16 = .ok (.ireturn, 1) := by decide +kernel
theorem dL_learn_17 : decode cL_learn 17 = .ok (.iconst 0, 1) := by decide +kernel
theorem dL_learn_18 : decode cL_learn 18 = .ok (.ireturn, 1) := by decide +kernel
set_option maxRecDepth 20000 in
theorem ggL_publish_X7_publish : GoodIn wsL_publish wsX7_publish := goodIn_ca (goodIn_r _ [6, 7, 8, 9, 10, 5, 11, 12, 13, 14, 15, 16, 17, 18, 19, 20, 21, 22, 23, 24, 25, 26, 27, 28, 29, 30, 31, 32, 33, 34, 35, 36] (by decide +kernel) (by decide +kernel)) (goodIn_sub (fun _ h => List.mem_cons_of_mem _ (List.mem_append_right _ h)) (by decide +kernel))
set_option maxRecDepth 20000 in
theorem gL_publish_X7_publish : GoodIn wsL_publish (wsV RL 33 RX7 yX7_publish wsX7_publish) := goodIn_app (goodIn_of _ (by decide +kernel)) ggL_publish_X7_publish
theorem dL_publish_0 : decode cL_publish 0 = .ok (.aload_n 2, 1) := by decide +kernel
theorem dL_publish_1 : decode cL_publish 1 = .ok (.iconst 0, 1) := by decide +kernel
theorem dL_publish_2 : decode cL_publish 2 = .ok (.aload_n 0, 1) := by decide +kernel
theorem dL_publish_3 : decode cL_publish 3 = .ok (.iload_n 1, 1) := by decide +kernel
theorem dL_publish_4 : decode cL_publish 4 = .ok (.invokevirtual 33, 3) := by decide +kernel
theorem dL_publish_7 : decode cL_publish 7 = .ok (.i2l, 1) := by decide +kernel
theorem dL_publish_8 : decode cL_publish 8 = .ok (.lastore, 1) := by decide +kernel
theorem dL_publish_9 : decode cL_publish 9 = .ok (.goto 6, 3) := by decide +kernel
theorem dL_publish_12 : decode cL_publish 12 = .ok (.astore_n 3, 1) := by decide +kernel
theorem dL_publish_13 : decode cL_publish 13 = .ok (.iconst 1, 1) := by decide +kernel
theorem dL_publish_14 : decode cL_publish 14 = .ok (.ireturn, 1) := by decide +kernel
theorem dL_publish_15 : decode cL_publish 15 = .ok (.iconst 0, 1) := by decide +kernel
theorem dL_publish_16 : decode cL_publish 16 = .ok (.ireturn, 1) := by decide +kernel
set_option maxRecDepth 20000 in
theorem ggL_plan_X7_plan : GoodIn wsL_plan wsX7_plan := goodIn_ca (goodIn_r _ [6, 7, 8, 9, 5, 10, 11, 12, 13, 14, 15, 16, 17, 18, 19, 20, 21, 22, 23, 24, 25, 26, 27, 28, 29, 30, 31, 32, 33, 34, 35, 36, 37, 38, 39, 40, 41, 42, 43, 44, 45, 46, 47, 48, 49, 50, 51, 52, 53, 54, 55, 56, 57, 58, 59, 60, 61, 62, 63, 64, 65, 66, 67, 68, 69, 70, 71] (by decide +kernel) (by decide +kernel)) (goodIn_sub (fun _ h => List.mem_cons_of_mem _ (List.mem_append_right _ h)) (by decide +kernel))
set_option maxRecDepth 20000 in
theorem gL_plan_X7_plan : GoodIn wsL_plan (wsV RL 37 RX7 yX7_plan wsX7_plan) := goodIn_app (goodIn_of _ (by decide +kernel)) ggL_plan_X7_plan
theorem dL_plan_0 : decode cL_plan 0 = .ok (.aload_n 3, 1) := by decide +kernel
theorem dL_plan_1 : decode cL_plan 1 = .ok (.iconst 0, 1) := by decide +kernel
theorem dL_plan_2 : decode cL_plan 2 = .ok (.aload_n 0, 1) := by decide +kernel
theorem dL_plan_3 : decode cL_plan 3 = .ok (.iload_n 1, 1) := by decide +kernel
theorem dL_plan_4 : decode cL_plan 4 = .ok (.iload_n 2, 1) := by decide +kernel
theorem dL_plan_5 : decode cL_plan 5 = .ok (.invokevirtual 37, 3) := by decide +kernel
theorem dL_plan_8 : decode cL_plan 8 = .ok (.ifCond .eq 7, 3) := by decide +kernel
theorem dL_plan_11 : decode cL_plan 11 = .ok (.lconst 1, 1) := by decide +kernel
theorem dL_plan_12 : decode cL_plan 12 = .ok (.goto 4, 3) := by decide +kernel
theorem dL_plan_15 : decode cL_plan 15 = .ok (.lconst 0, 1) := by decide +kernel
theorem dL_plan_16 : decode cL_plan 16 = .ok (.lastore, 1) := by decide +kernel
theorem dL_plan_17 : decode cL_plan 17 = .ok (.goto 7, 3) := by decide +kernel
theorem dL_plan_20 : decode cL_plan 20 = .ok (.astore 4, 2) := by decide +kernel
theorem dL_plan_22 : decode cL_plan 22 = .ok (.iconst 1, 1) := by decide +kernel
theorem dL_plan_23 : decode cL_plan 23 = .ok (.ireturn, 1) := by decide +kernel
theorem dL_plan_24 : decode cL_plan 24 = .ok (.iconst 0, 1) := by decide +kernel
theorem dL_plan_25 : decode cL_plan 25 = .ok (.ireturn, 1) := by decide +kernel
set_option maxRecDepth 20000 in
theorem ggL_know_X7_know : GoodIn wsL_know wsX7_know := goodIn_ca (goodIn_r _ [6, 7, 8, 9, 10, 11, 5, 12, 13, 14, 15, 16, 17, 18, 19, 20, 21, 22, 23, 24, 25, 26, 27, 28, 29, 30, 31, 32, 33, 34, 35, 36, 37, 38, 39, 40, 41, 42, 43, 44, 45, 46, 47, 48, 49, 50, 51, 52, 53, 54, 55, 56, 57, 58, 59, 60, 61, 62, 63, 64, 65, 66] (by decide +kernel) (by decide +kernel)) (goodIn_sub (fun _ h => List.mem_cons_of_mem _ (List.mem_append_right _ h)) (by decide +kernel))
set_option maxRecDepth 20000 in
theorem gL_know_X7_know : GoodIn wsL_know (wsV RL 41 RX7 yX7_know wsX7_know) := goodIn_app (goodIn_of _ (by decide +kernel)) ggL_know_X7_know
theorem dL_know_0 : decode cL_know 0 = .ok (.aload_n 2, 1) := by decide +kernel
theorem dL_know_1 : decode cL_know 1 = .ok (.iconst 0, 1) := by decide +kernel
theorem dL_know_2 : decode cL_know 2 = .ok (.aload_n 0, 1) := by decide +kernel
theorem dL_know_3 : decode cL_know 3 = .ok (.iload_n 1, 1) := by decide +kernel
theorem dL_know_4 : decode cL_know 4 = .ok (.invokevirtual 41, 3) := by decide +kernel
theorem dL_know_7 : decode cL_know 7 = .ok (.ifCond .eq 7, 3) := by decide +kernel
theorem dL_know_10 : decode cL_know 10 = .ok (.lconst 1, 1) := by decide +kernel
theorem dL_know_11 : decode cL_know 11 = .ok (.goto 4, 3) := by decide +kernel
theorem dL_know_14 : decode cL_know 14 = .ok (.lconst 0, 1) := by decide +kernel
theorem dL_know_15 : decode cL_know 15 = .ok (.lastore, 1) := by decide +kernel
theorem dL_know_16 : decode cL_know 16 = .ok (.goto 6, 3) := by decide +kernel
theorem dL_know_19 : decode cL_know 19 = .ok (.astore_n 3, 1) := by decide +kernel
theorem dL_know_20 : decode cL_know 20 = .ok (.iconst 1, 1) := by decide +kernel
theorem dL_know_21 : decode cL_know 21 = .ok (.ireturn, 1) := by decide +kernel
theorem dL_know_22 : decode cL_know 22 = .ok (.iconst 0, 1) := by decide +kernel
theorem dL_know_23 : decode cL_know 23 = .ok (.ireturn, 1) := by decide +kernel
set_option maxRecDepth 20000 in
theorem ggL_admit_X7_admit : GoodIn wsL_admit wsX7_admit := goodIn_ca (goodIn_ca (goodIn_r _ [7, 8, 9, 10, 11, 6, 12, 13, 14, 15, 16, 17, 18, 19, 20, 21, 22, 23, 24, 25, 26, 27, 28, 29, 30, 31, 32, 33, 34, 35, 36, 37, 38, 39, 40, 41, 42, 43, 44, 45, 46, 47, 48, 49, 50, 51, 52, 53, 54, 55, 56, 57, 58, 59, 60, 61, 62, 63, 64, 65, 66, 67, 68, 69, 70, 71, 72, 73, 74, 75, 76, 77, 78, 79, 80, 81, 82, 83, 84, 85, 86, 87, 88, 89, 90, 91, 92, 93, 94, 95, 96, 97, 98, 99, 100, 101, 102, 103, 104, 105, 106, 107, 108, 109, 110, 111, 112, 113, 114, 115, 116, 117, 118, 119, 120, 121, 122, 123, 124, 125, 126, 127, 128, 129, 130] (by decide +kernel) (by decide +kernel)) (goodIn_sub (fun _ h => List.mem_cons_of_mem _ (List.mem_append_left _ (List.mem_append_right _ h))) (by decide +kernel))) (goodIn_sub (fun _ h => List.mem_cons_of_mem _ (List.mem_append_right _ h)) (by decide +kernel))
set_option maxRecDepth 20000 in
theorem gL_admit_X7_admit : GoodIn wsL_admit (wsV RL 45 RX7 yX7_admit wsX7_admit) := goodIn_app (goodIn_of _ (by decide +kernel)) ggL_admit_X7_admit
theorem dL_admit_0 : decode cL_admit 0 = .ok (.aload_n 2, 1) := by decide +kernel
theorem dL_admit_1 : decode cL_admit 1 = .ok (.iconst 0, 1) := by decide +kernel
theorem dL_admit_2 : decode cL_admit 2 = .ok (.aload_n 0, 1) := by decide +kernel
theorem dL_admit_3 : decode cL_admit 3 = .ok (.iload_n 1, 1) := by decide +kernel
theorem dL_admit_4 : decode cL_admit 4 = .ok (.invokevirtual 45, 3) := by decide +kernel
theorem dL_admit_7 : decode cL_admit 7 = .ok (.ifCond .eq 7, 3) := by decide +kernel
theorem dL_admit_10 : decode cL_admit 10 = .ok (.lconst 1, 1) := by decide +kernel
theorem dL_admit_11 : decode cL_admit 11 = .ok (.goto 4, 3) := by decide +kernel
theorem dL_admit_14 : decode cL_admit 14 = .ok (.lconst 0, 1) := by decide +kernel
theorem dL_admit_15 : decode cL_admit 15 = .ok (.lastore, 1) := by decide +kernel
theorem dL_admit_16 : decode cL_admit 16 = .ok (.goto 9, 3) := by decide +kernel
theorem dL_admit_19 : decode cL_admit 19 = .ok (.astore_n 3, 1) := by decide +kernel
theorem dL_admit_20 : decode cL_admit 20 = .ok (.iconst 1, 1) := by decide +kernel
theorem dL_admit_21 : decode cL_admit 21 = .ok (.ireturn, 1) := by decide +kernel
theorem dL_admit_22 : decode cL_admit 22 = .ok (.astore_n 3, 1) := by decide +kernel
theorem dL_admit_23 : decode cL_admit 23 = .ok (.iconst 2, 1) := by decide +kernel
theorem dL_admit_24 : decode cL_admit 24 = .ok (.ireturn, 1) := by decide +kernel
theorem dL_admit_25 : decode cL_admit 25 = .ok (.iconst 0, 1) := by decide +kernel
theorem dL_admit_26 : decode cL_admit 26 = .ok (.ireturn, 1) := by decide +kernel
set_option maxRecDepth 20000 in
theorem ggL_deal_X7_deal : GoodIn wsL_deal wsX7_deal := goodIn_ca (goodIn_ca (goodIn_ca (goodIn_r _ [8, 9, 10, 11, 12, 13, 14, 15, 16, 17, 7, 18, 19, 20, 21, 22, 23, 24, 25, 26, 27, 28, 29, 30, 31, 32, 33, 34, 35, 36, 37, 38, 39, 40, 41, 42, 43, 44, 45, 46, 47, 48, 49, 50, 51, 52, 53, 54, 55, 56, 57, 58, 59, 60, 61, 62, 63, 64, 65, 66, 67, 68, 69, 70, 71, 72, 73, 74, 75, 76, 77, 78, 79, 80, 81, 82, 83, 84, 85, 86, 87, 88, 89, 90, 91, 92, 93, 94, 95, 96, 97, 98, 99, 100, 101, 102, 103, 104, 105, 106, 107, 108, 109, 110, 111, 112, 113, 114, 115, 116, 117, 118, 119, 120, 121, 122, 123, 124, 125, 126, 127, 128, 129, 130, 131, 132, 133] (by decide +kernel) (by decide +kernel)) (goodIn_sub (fun _ h => List.mem_cons_of_mem _ (List.mem_append_left _ (List.mem_append_left _ (List.mem_append_right _ h)))) (by decide +kernel))) (goodIn_sub (fun _ h => List.mem_cons_of_mem _ (List.mem_append_left _ (List.mem_append_right _ h))) (by decide +kernel))) (goodIn_sub (fun _ h => List.mem_cons_of_mem _ (List.mem_append_right _ h)) (by decide +kernel))
set_option maxRecDepth 20000 in
theorem gL_deal_X7_deal : GoodIn wsL_deal (wsV RL 48 RX7 yX7_deal wsX7_deal) := goodIn_app (goodIn_of _ (by decide +kernel)) ggL_deal_X7_deal
theorem dL_deal_0 : decode cL_deal 0 = .ok (.aload 4, 2) := by decide +kernel
theorem dL_deal_2 : decode cL_deal 2 = .ok (.iconst 0, 1) := by decide +kernel
theorem dL_deal_3 : decode cL_deal 3 = .ok (.aload_n 0, 1) := by decide +kernel
theorem dL_deal_4 : decode cL_deal 4 = .ok (.iload_n 1, 1) := by decide +kernel
theorem dL_deal_5 : decode cL_deal 5 = .ok (.iload_n 2, 1) := by decide +kernel
theorem dL_deal_6 : decode cL_deal 6 = .ok (.iload_n 3, 1) := by decide +kernel
theorem dL_deal_7 : decode cL_deal 7 = .ok (.invokevirtual 48, 3) := by decide +kernel
theorem dL_deal_10 : decode cL_deal 10 = .ok (.i2l, 1) := by decide +kernel
theorem dL_deal_11 : decode cL_deal 11 = .ok (.lastore, 1) := by decide +kernel
theorem dL_deal_12 : decode cL_deal 12 = .ok (.goto 15, 3) := by decide +kernel
theorem dL_deal_15 : decode cL_deal 15 = .ok (.astore 5, 2) := by decide +kernel
theorem dL_deal_17 : decode cL_deal 17 = .ok (.iconst 1, 1) := by decide +kernel
theorem dL_deal_18 : decode cL_deal 18 = .ok (.ireturn, 1) := by decide +kernel
theorem dL_deal_19 : decode cL_deal 19 = .ok (.astore 5, 2) := by decide +kernel
theorem dL_deal_21 : decode cL_deal 21 = .ok (.iconst 2, 1) := by decide +kernel
theorem dL_deal_22 : decode cL_deal 22 = .ok (.ireturn, 1) := by decide +kernel
theorem dL_deal_23 : decode cL_deal 23 = .ok (.astore 5, 2) := by decide +kernel
theorem dL_deal_25 : decode cL_deal 25 = .ok (.iconst 3, 1) := by decide +kernel
theorem dL_deal_26 : decode cL_deal 26 = .ok (.ireturn, 1) := by decide +kernel
theorem dL_deal_27 : decode cL_deal 27 = .ok (.iconst 0, 1) := by decide +kernel
theorem dL_deal_28 : decode cL_deal 28 = .ok (.ireturn, 1) := by decide +kernel
set_option maxRecDepth 20000 in
theorem ggL_file_X7_file : GoodIn wsL_file wsX7_file := goodIn_ca (goodIn_ca (goodIn_ca (goodIn_r _ [8, 9, 10, 11, 12, 13, 14, 15, 16, 17, 7, 18, 19, 20, 21, 22, 23, 24, 25, 26, 27, 28, 29, 30, 31, 32, 33, 34, 35, 36, 37, 38, 39, 40, 41, 42, 43, 44, 45, 46, 47, 48, 49, 50, 51, 52, 53, 54, 55, 56, 57, 58, 59, 60, 61, 62, 63, 64, 65, 66, 67, 68, 69, 70, 71, 72, 73, 74, 75, 76, 77, 78, 79, 80, 81, 82, 83, 84, 85, 86, 87, 88, 89, 90, 91, 92, 93, 94, 95, 96, 97, 98, 99, 100, 101, 102, 103, 104, 105, 106, 107, 108, 109, 110, 111, 112, 113, 114, 115, 116, 117, 118, 119, 120, 121, 122, 123, 124, 125, 126, 127, 128, 129, 130, 131, 132, 133, 134, 135, 136, 137, 138, 139, 140, 141, 142, 143, 144, 145, 146, 147, 148, 149, 150, 151, 152, 153, 154, 155, 156, 157, 158, 159, 160, 161, 162, 163, 164, 165, 166, 167, 168, 169, 170, 171, 172, 173, 174, 175, 176, 177, 178, 179, 180, 181, 182, 183, 184, 185, 186, 187, 188, 189, 190, 191, 192, 193, 194] (by decide +kernel) (by decide +kernel)) (goodIn_sub (fun _ h => List.mem_cons_of_mem _ (List.mem_append_left _ (List.mem_append_left _ (List.mem_append_right _ h)))) (by decide +kernel))) (goodIn_sub (fun _ h => List.mem_cons_of_mem _ (List.mem_append_left _ (List.mem_append_right _ h))) (by decide +kernel))) (goodIn_sub (fun _ h => List.mem_cons_of_mem _ (List.mem_append_right _ h)) (by decide +kernel))
set_option maxRecDepth 20000 in
theorem gL_file_X7_file : GoodIn wsL_file (wsV RL 51 RX7 yX7_file wsX7_file) := goodIn_app (goodIn_of _ (by decide +kernel)) ggL_file_X7_file
theorem dL_file_0 : decode cL_file 0 = .ok (.aload 4, 2) := by decide +kernel
theorem dL_file_2 : decode cL_file 2 = .ok (.iconst 0, 1) := by decide +kernel
theorem dL_file_3 : decode cL_file 3 = .ok (.aload_n 0, 1) := by decide +kernel
theorem dL_file_4 : decode cL_file 4 = .ok (.iload_n 1, 1) := by decide +kernel
theorem dL_file_5 : decode cL_file 5 = .ok (.iload_n 2, 1) := by decide +kernel
theorem dL_file_6 : decode cL_file 6 = .ok (.iload_n 3, 1) := by decide +kernel
theorem dL_file_7 : decode cL_file 7 = .ok (.invokevirtual 51, 3) := by decide +kernel
theorem dL_file_10 : decode cL_file 10 = .ok (.i2l, 1) := by decide +kernel
theorem dL_file_11 : decode cL_file 11 = .ok (.lastore, 1) := by decide +kernel
theorem dL_file_12 : decode cL_file 12 = .ok (.goto 15, 3) := by decide +kernel
theorem dL_file_15 : decode cL_file 15 = .ok (.astore 5, 2) := by decide +kernel
theorem dL_file_17 : decode cL_file 17 = .ok (.iconst 1, 1) := by decide +kernel
theorem dL_file_18 : decode cL_file 18 = .ok (.ireturn, 1) := by decide +kernel
theorem dL_file_19 : decode cL_file 19 = .ok (.astore 5, 2) := by decide +kernel
theorem dL_file_21 : decode cL_file 21 = .ok (.iconst 2, 1) := by decide +kernel
theorem dL_file_22 : decode cL_file 22 = .ok (.ireturn, 1) := by decide +kernel
theorem dL_file_23 : decode cL_file 23 = .ok (.astore 5, 2) := by decide +kernel
theorem dL_file_25 : decode cL_file 25 = .ok (.iconst 3, 1) := by decide +kernel
theorem dL_file_26 : decode cL_file 26 = .ok (.ireturn, 1) := by decide +kernel
theorem dL_file_27 : decode cL_file 27 = .ok (.iconst 0, 1) := by decide +kernel
theorem dL_file_28 : decode cL_file 28 = .ok (.ireturn, 1) := by decide +kernel
set_option maxRecDepth 20000 in
theorem ggL_amend_X7_amend : GoodIn wsL_amend wsX7_amend := goodIn_ca (goodIn_ca (goodIn_ca (goodIn_r _ [8, 9, 10, 11, 12, 13, 14, 15, 16, 7, 17, 18, 19, 20, 21, 22, 23, 24, 25, 26, 27, 28, 29, 30, 31, 32, 33, 34, 35, 36, 37, 38, 39, 40, 41, 42, 43, 44, 45, 46, 47, 48, 49, 50, 51, 52, 53, 54, 55, 56, 57, 58, 59, 60, 61, 62, 63, 64, 65, 66, 67, 68, 69, 70, 71, 72, 73, 74, 75, 76, 77, 78, 79, 80, 81, 82, 83, 84, 85, 86, 87, 88, 89, 90, 91, 92, 93, 94, 95, 96, 97, 98, 99, 100, 101, 102, 103, 104, 105, 106, 107, 108, 109, 110, 111, 112, 113, 114, 115, 116, 117, 118, 119, 120, 121, 122, 123, 124, 125, 126, 127, 128, 129, 130, 131, 132, 133, 134, 135, 136, 137, 138, 139, 140, 141, 142, 143, 144, 145, 146, 147, 148, 149, 150, 151, 152, 153, 154, 155, 156, 157, 158, 159, 160, 161, 162, 163, 164, 165, 166, 167, 168, 169, 170, 171, 172, 173, 174, 175, 176, 177, 178, 179, 180, 181, 182, 183, 184, 185, 186, 187, 188, 189, 190, 191, 192, 193, 194, 195, 196, 197, 198, 199] (by decide +kernel) (by decide +kernel)) (goodIn_sub (fun _ h => List.mem_cons_of_mem _ (List.mem_append_left _ (List.mem_append_left _ (List.mem_append_right _ h)))) (by decide +kernel))) (goodIn_sub (fun _ h => List.mem_cons_of_mem _ (List.mem_append_left _ (List.mem_append_right _ h))) (by decide +kernel))) (goodIn_sub (fun _ h => List.mem_cons_of_mem _ (List.mem_append_right _ h)) (by decide +kernel))
set_option maxRecDepth 20000 in
theorem gL_amend_X7_amend : GoodIn wsL_amend (wsV RL 54 RX7 yX7_amend wsX7_amend) := goodIn_app (goodIn_of _ (by decide +kernel)) ggL_amend_X7_amend
theorem dL_amend_0 : decode cL_amend 0 = .ok (.aload_n 3, 1) := by decide +kernel
theorem dL_amend_1 : decode cL_amend 1 = .ok (.iconst 0, 1) := by decide +kernel
theorem dL_amend_2 : decode cL_amend 2 = .ok (.aload_n 0, 1) := by decide +kernel
theorem dL_amend_3 : decode cL_amend 3 = .ok (.iload_n 1, 1) := by decide +kernel
theorem dL_amend_4 : decode cL_amend 4 = .ok (.iload_n 2, 1) := by decide +kernel
theorem dL_amend_5 : decode cL_amend 5 = .ok (.invokevirtual 54, 3) := by decide +kernel
theorem dL_amend_8 : decode cL_amend 8 = .ok (.i2l, 1) := by decide +kernel
theorem dL_amend_9 : decode cL_amend 9 = .ok (.lastore, 1) := by decide +kernel
theorem dL_amend_10 : decode cL_amend 10 = .ok (.goto 15, 3) := by decide +kernel
theorem dL_amend_13 : decode cL_amend 13 = .ok (.astore 4, 2) := by decide +kernel
theorem dL_amend_15 : decode cL_amend 15 = .ok (.iconst 1, 1) := by decide +kernel
theorem dL_amend_16 : decode cL_amend 16 = .ok (.ireturn, 1) := by decide +kernel
theorem dL_amend_17 : decode cL_amend 17 = .ok (.astore 4, 2) := by decide +kernel
theorem dL_amend_19 : decode cL_amend 19 = .ok (.iconst 2, 1) := by decide +kernel
theorem dL_amend_20 : decode cL_amend 20 = .ok (.ireturn, 1) := by decide +kernel
theorem dL_amend_21 : decode cL_amend 21 = .ok (.astore 4, 2) := by decide +kernel
theorem dL_amend_23 : decode cL_amend 23 = .ok (.iconst 3, 1) := by decide +kernel
theorem dL_amend_24 : decode cL_amend 24 = .ok (.ireturn, 1) := by decide +kernel
theorem dL_amend_25 : decode cL_amend 25 = .ok (.iconst 0, 1) := by decide +kernel
theorem dL_amend_26 : decode cL_amend 26 = .ok (.ireturn, 1) := by decide +kernel
set_option maxRecDepth 20000 in
theorem ggL_extend_X7_extend : GoodIn wsL_extend wsX7_extend := goodIn_ca (goodIn_ca (goodIn_r _ [7, 8, 9, 10, 11, 12, 13, 6, 14, 15, 16, 17, 18, 19, 20, 21, 22, 23, 24, 25, 26, 27, 28, 29, 30, 31, 32, 33, 34, 35, 36, 37, 38, 39, 40, 41, 42, 43, 44, 45, 46, 47, 48, 49, 50, 51, 52, 53, 54, 55, 56, 57, 58, 59, 60, 61, 62, 63, 64, 65, 66, 67, 68, 69, 70, 71, 72, 73, 74, 75, 76, 77, 78, 79, 80, 81, 82, 83, 84, 85] (by decide +kernel) (by decide +kernel)) (goodIn_sub (fun _ h => List.mem_cons_of_mem _ (List.mem_append_left _ (List.mem_append_right _ h))) (by decide +kernel))) (goodIn_sub (fun _ h => List.mem_cons_of_mem _ (List.mem_append_right _ h)) (by decide +kernel))
set_option maxRecDepth 20000 in
theorem gL_extend_X7_extend : GoodIn wsL_extend (wsV RL 57 RX7 yX7_extend wsX7_extend) := goodIn_app (goodIn_of _ (by decide +kernel)) ggL_extend_X7_extend
theorem dL_extend_0 : decode cL_extend 0 = .ok (.aload_n 2, 1) := by decide +kernel
theorem dL_extend_1 : decode cL_extend 1 = .ok (.iconst 0, 1) := by decide +kernel
theorem dL_extend_2 : decode cL_extend 2 = .ok (.aload_n 0, 1) := by decide +kernel
theorem dL_extend_3 : decode cL_extend 3 = .ok (.iload_n 1, 1) := by decide +kernel
theorem dL_extend_4 : decode cL_extend 4 = .ok (.invokevirtual 57, 3) := by decide +kernel
theorem dL_extend_7 : decode cL_extend 7 = .ok (.i2l, 1) := by decide +kernel
theorem dL_extend_8 : decode cL_extend 8 = .ok (.lastore, 1) := by decide +kernel
theorem dL_extend_9 : decode cL_extend 9 = .ok (.goto 9, 3) := by decide +kernel
theorem dL_extend_12 : decode cL_extend 12 = .ok (.astore_n 3, 1) := by decide +kernel
theorem dL_extend_13 : decode cL_extend 13 = .ok (.iconst 1, 1) := by decide +kernel
theorem dL_extend_14 : decode cL_extend 14 = .ok (.ireturn, 1) := by decide +kernel
theorem dL_extend_15 : decode cL_extend 15 = .ok (.astore_n 3, 1) := by decide +kernel
theorem dL_extend_16 : decode cL_extend 16 = .ok (.iconst 2, 1) := by decide +kernel
theorem dL_extend_17 : decode cL_extend 17 = .ok (.ireturn, 1) := by decide +kernel
theorem dL_extend_18 : decode cL_extend 18 = .ok (.iconst 0, 1) := by decide +kernel
theorem dL_extend_19 : decode cL_extend 19 = .ok (.ireturn, 1) := by decide +kernel
set_option maxRecDepth 20000 in
theorem ggL_choose_X7_choose : GoodIn wsL_choose wsX7_choose := goodIn_ca (goodIn_ca (goodIn_ca (goodIn_r _ [8, 9, 10, 11, 12, 13, 14, 15, 16, 17, 18, 19, 7, 20, 21, 22, 23, 24, 25, 26, 27, 28, 29, 30, 31, 32, 33, 34, 35, 36, 37, 38, 39, 40, 41, 42, 43, 44, 45, 46, 47, 48, 49, 50, 51, 52, 53, 54, 55, 56, 57, 58, 59, 60, 61, 62, 63, 64, 65, 66, 67, 68, 69, 70, 71, 72, 73, 74, 75, 76, 77, 78, 79, 80, 81, 82, 83, 84, 85, 86, 87, 88, 89, 90, 91, 92, 93, 94, 95, 96, 97, 98, 99] (by decide +kernel) (by decide +kernel)) (goodIn_sub (fun _ h => List.mem_cons_of_mem _ (List.mem_append_left _ (List.mem_append_left _ (List.mem_append_right _ h)))) (by decide +kernel))) (goodIn_sub (fun _ h => List.mem_cons_of_mem _ (List.mem_append_left _ (List.mem_append_right _ h))) (by decide +kernel))) (goodIn_sub (fun _ h => List.mem_cons_of_mem _ (List.mem_append_right _ h)) (by decide +kernel))
set_option maxRecDepth 20000 in
theorem gL_choose_X7_choose : GoodIn wsL_choose (wsV RL 60 RX7 yX7_choose wsX7_choose) := goodIn_app (goodIn_of _ (by decide +kernel)) ggL_choose_X7_choose
theorem dL_choose_0 : decode cL_choose 0 = .ok (.aload_n 3, 1) := by decide +kernel
theorem dL_choose_1 : decode cL_choose 1 = .ok (.iconst 0, 1) := by decide +kernel
theorem dL_choose_2 : decode cL_choose 2 = .ok (.aload_n 0, 1) := by decide +kernel
theorem dL_choose_3 : decode cL_choose 3 = .ok (.iload_n 1, 1) := by decide +kernel
theorem dL_choose_4 : decode cL_choose 4 = .ok (.iload_n 2, 1) := by decide +kernel
theorem dL_choose_5 : decode cL_choose 5 = .ok (.invokevirtual 60, 3) := by decide +kernel
theorem dL_choose_8 : decode cL_choose 8 = .ok (.i2l, 1) := by decide +kernel
theorem dL_choose_9 : decode cL_choose 9 = .ok (.lastore, 1) := by decide +kernel
theorem dL_choose_10 : decode cL_choose 10 = .ok (.goto 15, 3) := by decide +kernel
theorem dL_choose_13 : decode cL_choose 13 = .ok (.astore 4, 2) := by decide +kernel
theorem dL_choose_15 : decode cL_choose 15 = .ok (.iconst 1, 1) := by decide +kernel
theorem dL_choose_16 : decode cL_choose 16 = .ok (.ireturn, 1) := by decide +kernel
theorem dL_choose_17 : decode cL_choose 17 = .ok (.astore 4, 2) := by decide +kernel
theorem dL_choose_19 : decode cL_choose 19 = .ok (.iconst 2, 1) := by decide +kernel
theorem dL_choose_20 : decode cL_choose 20 = .ok (.ireturn, 1) := by decide +kernel
theorem dL_choose_21 : decode cL_choose 21 = .ok (.astore 4, 2) := by decide +kernel
theorem dL_choose_23 : decode cL_choose 23 = .ok (.iconst 3, 1) := by decide +kernel
theorem dL_choose_24 : decode cL_choose 24 = .ok (.ireturn, 1) := by decide +kernel
theorem dL_choose_25 : decode cL_choose 25 = .ok (.iconst 0, 1) := by decide +kernel
theorem dL_choose_26 : decode cL_choose 26 = .ok (.ireturn, 1) := by decide +kernel
set_option maxRecDepth 20000 in
theorem ggL_help_X7_help : GoodIn wsL_help wsX7_help := goodIn_ca (goodIn_ca (goodIn_ca (goodIn_r _ [8, 9, 10, 11, 12, 7, 13, 14, 15, 16, 17, 18, 19, 20, 21, 22, 23, 24, 25, 26, 27, 28, 29, 30, 31, 32, 33, 34, 35, 36, 37, 38, 39, 40, 41, 42, 43, 44, 45, 46, 47, 48, 49, 50, 51, 52, 53, 54, 55, 56, 57, 58, 59, 60, 61, 62, 63, 64, 65, 66, 67, 68, 69, 70, 71, 72, 73, 74, 75, 76, 77, 78, 79, 80, 81, 82, 83, 84, 85, 86, 87, 88, 89, 90, 91, 92] (by decide +kernel) (by decide +kernel)) (goodIn_sub (fun _ h => List.mem_cons_of_mem _ (List.mem_append_left _ (List.mem_append_left _ (List.mem_append_right _ h)))) (by decide +kernel))) (goodIn_sub (fun _ h => List.mem_cons_of_mem _ (List.mem_append_left _ (List.mem_append_right _ h))) (by decide +kernel))) (goodIn_sub (fun _ h => List.mem_cons_of_mem _ (List.mem_append_right _ h)) (by decide +kernel))
set_option maxRecDepth 20000 in
theorem gL_help_X7_help : GoodIn wsL_help (wsV RL 63 RX7 yX7_help wsX7_help) := goodIn_app (goodIn_of _ (by decide +kernel)) ggL_help_X7_help
theorem dL_help_0 : decode cL_help 0 = .ok (.aload_n 3, 1) := by decide +kernel
theorem dL_help_1 : decode cL_help 1 = .ok (.iconst 0, 1) := by decide +kernel
theorem dL_help_2 : decode cL_help 2 = .ok (.aload_n 0, 1) := by decide +kernel
theorem dL_help_3 : decode cL_help 3 = .ok (.iload_n 1, 1) := by decide +kernel
theorem dL_help_4 : decode cL_help 4 = .ok (.iload_n 2, 1) := by decide +kernel
theorem dL_help_5 : decode cL_help 5 = .ok (.invokevirtual 63, 3) := by decide +kernel
theorem dL_help_8 : decode cL_help 8 = .ok (.i2l, 1) := by decide +kernel
theorem dL_help_9 : decode cL_help 9 = .ok (.lastore, 1) := by decide +kernel
theorem dL_help_10 : decode cL_help 10 = .ok (.goto 15, 3) := by decide +kernel
theorem dL_help_13 : decode cL_help 13 = .ok (.astore 4, 2) := by decide +kernel
theorem dL_help_15 : decode cL_help 15 = .ok (.iconst 1, 1) := by decide +kernel
theorem dL_help_16 : decode cL_help 16 = .ok (.ireturn, 1) := by decide +kernel
theorem dL_help_17 : decode cL_help 17 = .ok (.astore 4, 2) := by decide +kernel
theorem dL_help_19 : decode cL_help 19 = .ok (.iconst 2, 1) := by decide +kernel
theorem dL_help_20 : decode cL_help 20 = .ok (.ireturn, 1) := by decide +kernel
theorem dL_help_21 : decode cL_help 21 = .ok (.astore 4, 2) := by decide +kernel
theorem dL_help_23 : decode cL_help 23 = .ok (.iconst 3, 1) := by decide +kernel
theorem dL_help_24 : decode cL_help 24 = .ok (.ireturn, 1) := by decide +kernel
theorem dL_help_25 : decode cL_help 25 = .ok (.iconst 0, 1) := by decide +kernel
theorem dL_help_26 : decode cL_help 26 = .ok (.ireturn, 1) := by decide +kernel
set_option maxRecDepth 20000 in
theorem ggL_judge_X7_judge : GoodIn wsL_judge wsX7_judge := goodIn_ca (goodIn_ca (goodIn_r _ [7, 8, 9, 10, 11, 12, 13, 14, 15, 16, 17, 6, 18, 19, 20, 21, 22, 23, 24, 25, 26, 27, 28, 29, 30, 31, 32, 33, 34, 35, 36, 37, 38, 39, 40, 41, 42, 43, 44, 45, 46, 47, 48, 49, 50, 51, 52, 53, 54, 55, 56, 57, 58, 59, 60, 61, 62, 63, 64, 65, 66, 67, 68, 69, 70, 71, 72, 73, 74, 75, 76, 77, 78, 79, 80, 81, 82, 83, 84, 85, 86, 87, 88, 89, 90, 91, 92, 93, 94, 95, 96, 97, 98, 99, 100, 101, 102, 103, 104, 105, 106, 107, 108, 109, 110, 111, 112, 113, 114, 115, 116, 117, 118, 119, 120, 121, 122, 123, 124, 125, 126, 127, 128, 129, 130, 131, 132, 133, 134, 135, 136, 137, 138, 139, 140, 141, 142, 143, 144, 145, 146, 147, 148, 149, 150, 151, 152, 153, 154, 155, 156, 157, 158, 159, 160, 161, 162, 163, 164, 165, 166, 167, 168, 169, 170, 171, 172, 173, 174, 175, 176, 177, 178, 179, 180, 181, 182, 183, 184, 185, 186, 187, 188, 189, 190, 191, 192, 193, 194, 195, 196, 197, 198, 199, 200, 201, 202, 203, 204, 205, 206, 207, 208, 209, 210, 211, 212, 213, 214, 215, 216, 217, 218, 219, 220, 221, 222, 223, 224, 225, 226, 227, 228, 229, 230, 231, 232, 233, 234, 235, 236, 237, 238, 239, 240, 241, 242, 243, 244, 245, 246, 247, 248, 249, 250, 251, 252, 253, 254, 255, 256, 257, 258, 259, 260, 261, 262, 263, 264] (by decide +kernel) (by decide +kernel)) (goodIn_sub (fun _ h => List.mem_cons_of_mem _ (List.mem_append_left _ (List.mem_append_right _ h))) (by decide +kernel))) (goodIn_sub (fun _ h => List.mem_cons_of_mem _ (List.mem_append_right _ h)) (by decide +kernel))
set_option maxRecDepth 20000 in
theorem gL_judge_X7_judge : GoodIn wsL_judge (wsV RL 66 RX7 yX7_judge wsX7_judge) := goodIn_app (goodIn_of _ (by decide +kernel)) ggL_judge_X7_judge
theorem dL_judge_0 : decode cL_judge 0 = .ok (.aload_n 2, 1) := by decide +kernel
theorem dL_judge_1 : decode cL_judge 1 = .ok (.iconst 0, 1) := by decide +kernel
theorem dL_judge_2 : decode cL_judge 2 = .ok (.aload_n 0, 1) := by decide +kernel
theorem dL_judge_3 : decode cL_judge 3 = .ok (.iload_n 1, 1) := by decide +kernel
theorem dL_judge_4 : decode cL_judge 4 = .ok (.invokevirtual 66, 3) := by decide +kernel
theorem dL_judge_7 : decode cL_judge 7 = .ok (.i2l, 1) := by decide +kernel
theorem dL_judge_8 : decode cL_judge 8 = .ok (.lastore, 1) := by decide +kernel
theorem dL_judge_9 : decode cL_judge 9 = .ok (.goto 9, 3) := by decide +kernel
theorem dL_judge_12 : decode cL_judge 12 = .ok (.astore_n 3, 1) := by decide +kernel
theorem dL_judge_13 : decode cL_judge 13 = .ok (.iconst 1, 1) := by decide +kernel
theorem dL_judge_14 : decode cL_judge 14 = .ok (.ireturn, 1) := by decide +kernel
theorem dL_judge_15 : decode cL_judge 15 = .ok (.astore_n 3, 1) := by decide +kernel
theorem dL_judge_16 : decode cL_judge 16 = .ok (.iconst 2, 1) := by decide +kernel
theorem dL_judge_17 : decode cL_judge 17 = .ok (.ireturn, 1) := by decide +kernel
theorem dL_judge_18 : decode cL_judge 18 = .ok (.iconst 0, 1) := by decide +kernel
theorem dL_judge_19 : decode cL_judge 19 = .ok (.ireturn, 1) := by decide +kernel
set_option maxRecDepth 20000 in
theorem ggL_settle_X7_settle : GoodIn wsL_settle wsX7_settle := goodIn_ca (goodIn_ca (goodIn_ca (goodIn_r _ [8, 9, 10, 11, 12, 13, 14, 15, 16, 7, 17, 18, 19, 20, 21, 22, 23, 24, 25, 26, 27, 28, 29, 30, 31, 32, 33, 34, 35, 36, 37, 38, 39, 40, 41, 42, 43, 44, 45, 46, 47, 48, 49, 50, 51, 52, 53, 54, 55, 56, 57, 58, 59, 60, 61, 62, 63, 64, 65, 66, 67, 68, 69, 70, 71, 72, 73, 74, 75, 76, 77, 78, 79, 80, 81, 82, 83, 84, 85, 86, 87, 88, 89, 90, 91, 92, 93, 94, 95, 96, 97, 98, 99, 100, 101, 102, 103, 104, 105, 106, 107, 108, 109, 110, 111, 112, 113, 114, 115, 116, 117, 118, 119, 120, 121, 122, 123, 124, 125, 126, 127, 128, 129, 130, 131, 132, 133, 134, 135, 136, 137, 138, 139, 140, 141, 142, 143, 144, 145, 146, 147, 148, 149, 150, 151, 152, 153, 154, 155, 156, 157, 158, 159, 160, 161, 162, 163, 164, 165, 166, 167, 168, 169, 170, 171, 172, 173, 174, 175, 176, 177, 178, 179, 180, 181, 182, 183, 184, 185, 186, 187, 188, 189, 190, 191, 192, 193, 194, 195, 196, 197, 198, 199, 200, 201, 202, 203, 204, 205, 206, 207, 208, 209, 210, 211, 212, 213, 214, 215, 216, 217, 218, 219, 220, 221, 222, 223, 224, 225, 226, 227, 228, 229, 230, 231, 232, 233, 234, 235, 236, 237, 238, 239, 240, 241, 242, 243, 244, 245, 246, 247, 248, 249, 250, 251, 252, 253, 254, 255, 256, 257, 258, 259, 260, 261, 262, 263, 264, 265, 266, 267, 268, 269, 270] (by decide +kernel) (by decide +kernel)) (goodIn_sub (fun _ h => List.mem_cons_of_mem _ (List.mem_append_left _ (List.mem_append_left _ (List.mem_append_right _ h)))) (by decide +kernel))) (goodIn_sub (fun _ h => List.mem_cons_of_mem _ (List.mem_append_left _ (List.mem_append_right _ h))) (by decide +kernel))) (goodIn_sub (fun _ h => List.mem_cons_of_mem _ (List.mem_append_right _ h)) (by decide +kernel))
set_option maxRecDepth 20000 in
theorem gL_settle_X7_settle : GoodIn wsL_settle (wsV RL 69 RX7 yX7_settle wsX7_settle) := goodIn_app (goodIn_of _ (by decide +kernel)) ggL_settle_X7_settle
theorem dL_settle_0 : decode cL_settle 0 = .ok (.aload_n 3, 1) := by decide +kernel
theorem dL_settle_1 : decode cL_settle 1 = .ok (.iconst 0, 1) := by decide +kernel
theorem dL_settle_2 : decode cL_settle 2 = .ok (.aload_n 0, 1) := by decide +kernel
theorem dL_settle_3 : decode cL_settle 3 = .ok (.iload_n 1, 1) := by decide +kernel
theorem dL_settle_4 : decode cL_settle 4 = .ok (.iload_n 2, 1) := by decide +kernel
theorem dL_settle_5 : decode cL_settle 5 = .ok (.invokevirtual 69, 3) := by decide +kernel
theorem dL_settle_8 : decode cL_settle 8 = .ok (.i2l, 1) := by decide +kernel
theorem dL_settle_9 : decode cL_settle 9 = .ok (.lastore, 1) := by decide +kernel
theorem dL_settle_10 : decode cL_settle 10 = .ok (.goto 15, 3) := by decide +kernel
theorem dL_settle_13 : decode cL_settle 13 = .ok (.astore 4, 2) := by decide +kernel
theorem dL_settle_15 : decode cL_settle 15 = .ok (.iconst 1, 1) := by decide +kernel
theorem dL_settle_16 : decode cL_settle 16 = .ok (.ireturn, 1) := by decide +kernel
theorem dL_settle_17 : decode cL_settle 17 = .ok (.astore 4, 2) := by decide +kernel
theorem dL_settle_19 : decode cL_settle 19 = .ok (.iconst 2, 1) := by decide +kernel
theorem dL_settle_20 : decode cL_settle 20 = .ok (.ireturn, 1) := by decide +kernel
theorem dL_settle_21 : decode cL_settle 21 = .ok (.astore 4, 2) := by decide +kernel
theorem dL_settle_23 : decode cL_settle 23 = .ok (.iconst 3, 1) := by decide +kernel
theorem dL_settle_24 : decode cL_settle 24 = .ok (.ireturn, 1) := by decide +kernel
theorem dL_settle_25 : decode cL_settle 25 = .ok (.iconst 0, 1) := by decide +kernel
theorem dL_settle_26 : decode cL_settle 26 = .ok (.ireturn, 1) := by decide +kernel
set_option maxRecDepth 20000 in
theorem ggL_work_X7_work : GoodIn wsL_work wsX7_work := goodIn_ca (goodIn_ca (goodIn_r _ [7, 8, 9, 10, 11, 12, 6, 13, 14, 15, 16, 17, 18, 19, 20, 21, 22, 23, 24, 25, 26, 27, 28, 29, 30, 31, 32, 33, 34, 35, 36, 37, 38, 39, 40, 41, 42, 43, 44, 45, 46] (by decide +kernel) (by decide +kernel)) (goodIn_sub (fun _ h => List.mem_cons_of_mem _ (List.mem_append_left _ (List.mem_append_right _ h))) (by decide +kernel))) (goodIn_sub (fun _ h => List.mem_cons_of_mem _ (List.mem_append_right _ h)) (by decide +kernel))
set_option maxRecDepth 20000 in
theorem gL_work_X7_work : GoodIn wsL_work (wsV RL 72 RX7 yX7_work wsX7_work) := goodIn_app (goodIn_of _ (by decide +kernel)) ggL_work_X7_work
theorem dL_work_0 : decode cL_work 0 = .ok (.aload 4, 2) := by decide +kernel
theorem dL_work_2 : decode cL_work 2 = .ok (.iconst 0, 1) := by decide +kernel
theorem dL_work_3 : decode cL_work 3 = .ok (.aload_n 0, 1) := by decide +kernel
theorem dL_work_4 : decode cL_work 4 = .ok (.iload_n 1, 1) := by decide +kernel
theorem dL_work_5 : decode cL_work 5 = .ok (.iload_n 2, 1) := by decide +kernel
theorem dL_work_6 : decode cL_work 6 = .ok (.iload_n 3, 1) := by decide +kernel
theorem dL_work_7 : decode cL_work 7 = .ok (.invokevirtual 72, 3) := by decide +kernel
theorem dL_work_10 : decode cL_work 10 = .ok (.i2l, 1) := by decide +kernel
theorem dL_work_11 : decode cL_work 11 = .ok (.lastore, 1) := by decide +kernel
theorem dL_work_12 : decode cL_work 12 = .ok (.goto 11, 3) := by decide +kernel
theorem dL_work_15 : decode cL_work 15 = .ok (.astore 5, 2) := by decide +kernel
theorem dL_work_17 : decode cL_work 17 = .ok (.iconst 1, 1) := by decide +kernel
theorem dL_work_18 : decode cL_work 18 = .ok (.ireturn, 1) := by decide +kernel
theorem dL_work_19 : decode cL_work 19 = .ok (.astore 5, 2) := by decide +kernel
theorem dL_work_21 : decode cL_work 21 = .ok (.iconst 2, 1) := by decide +kernel
theorem dL_work_22 : decode cL_work 22 = .ok (.ireturn, 1) := by decide +kernel
theorem dL_work_23 : decode cL_work 23 = .ok (.iconst 0, 1) := by decide +kernel
theorem dL_work_24 : decode cL_work 24 = .ok (.ireturn, 1) := by decide +kernel
set_option maxRecDepth 20000 in
theorem ggL_tell_X7_tell : GoodIn wsL_tell wsX7_tell := goodIn_ca (goodIn_r _ [6, 7, 8, 9, 10, 11, 5, 12, 13, 14, 15, 16, 17, 18, 19, 20, 21, 22, 23, 24, 25, 26, 27, 28, 29, 30, 31, 32, 33, 34, 35, 36, 37, 38, 39, 40, 41, 42, 43, 44, 45, 46, 47, 48, 49, 50, 51, 52, 53, 54, 55, 56, 57, 58, 59, 60, 61, 62, 63, 64, 65, 66, 67, 68, 69, 70, 71, 72, 73, 74, 75, 76, 77, 78, 79, 80, 81, 82, 83, 84, 85, 86, 87] (by decide +kernel) (by decide +kernel)) (goodIn_sub (fun _ h => List.mem_cons_of_mem _ (List.mem_append_right _ h)) (by decide +kernel))
set_option maxRecDepth 20000 in
theorem gL_tell_X7_tell : GoodIn wsL_tell (wsV RL 75 RX7 yX7_tell wsX7_tell) := goodIn_app (goodIn_of _ (by decide +kernel)) ggL_tell_X7_tell
theorem dL_tell_0 : decode cL_tell 0 = .ok (.aload_n 3, 1) := by decide +kernel
theorem dL_tell_1 : decode cL_tell 1 = .ok (.iconst 0, 1) := by decide +kernel
theorem dL_tell_2 : decode cL_tell 2 = .ok (.aload_n 0, 1) := by decide +kernel
theorem dL_tell_3 : decode cL_tell 3 = .ok (.iload_n 1, 1) := by decide +kernel
theorem dL_tell_4 : decode cL_tell 4 = .ok (.iload_n 2, 1) := by decide +kernel
theorem dL_tell_5 : decode cL_tell 5 = .ok (.invokevirtual 75, 3) := by decide +kernel
theorem dL_tell_8 : decode cL_tell 8 = .ok (.i2l, 1) := by decide +kernel
theorem dL_tell_9 : decode cL_tell 9 = .ok (.lastore, 1) := by decide +kernel
theorem dL_tell_10 : decode cL_tell 10 = .ok (.goto 7, 3) := by decide +kernel
theorem dL_tell_13 : decode cL_tell 13 = .ok (.astore 4, 2) := by decide +kernel
theorem dL_tell_15 : decode cL_tell 15 = .ok (.iconst 1, 1) := by decide +kernel
theorem dL_tell_16 : decode cL_tell 16 = .ok (.ireturn, 1) := by decide +kernel
theorem dL_tell_17 : decode cL_tell 17 = .ok (.iconst 0, 1) := by decide +kernel
theorem dL_tell_18 : decode cL_tell 18 = .ok (.ireturn, 1) := by decide +kernel
set_option maxRecDepth 20000 in
theorem ggL_fire_X7_fire : GoodIn wsL_fire wsX7_fire := goodIn_ca (goodIn_ca (goodIn_r _ [7, 8, 9, 10, 11, 12, 13, 14, 15, 6, 16, 17, 18, 19, 20, 21, 22, 23, 24, 25, 26, 27, 28, 29, 30, 31, 32, 33, 34, 35, 36, 37, 38, 39, 40, 41, 42, 43, 44, 45, 46, 47, 48, 49, 50, 51, 52, 53, 54, 55, 56, 57, 58, 59, 60, 61, 62, 63, 64, 65, 66, 67, 68, 69, 70, 71, 72, 73, 74, 75, 76, 77, 78, 79, 80, 81, 82, 83, 84, 85, 86, 87, 88, 89, 90, 91, 92, 93, 94, 95, 96, 97, 98, 99, 100, 101, 102, 103, 104, 105, 106, 107, 108, 109, 110, 111, 112, 113] (by decide +kernel) (by decide +kernel)) (goodIn_sub (fun _ h => List.mem_cons_of_mem _ (List.mem_append_left _ (List.mem_append_right _ h))) (by decide +kernel))) (goodIn_sub (fun _ h => List.mem_cons_of_mem _ (List.mem_append_right _ h)) (by decide +kernel))
set_option maxRecDepth 20000 in
theorem gL_fire_X7_fire : GoodIn wsL_fire (wsV RL 78 RX7 yX7_fire wsX7_fire) := goodIn_app (goodIn_of _ (by decide +kernel)) ggL_fire_X7_fire
theorem dL_fire_0 : decode cL_fire 0 = .ok (.aload_n 3, 1) := by decide +kernel
theorem dL_fire_1 : decode cL_fire 1 = .ok (.iconst 0, 1) := by decide +kernel
theorem dL_fire_2 : decode cL_fire 2 = .ok (.aload_n 0, 1) := by decide +kernel
theorem dL_fire_3 : decode cL_fire 3 = .ok (.iload_n 1, 1) := by decide +kernel
theorem dL_fire_4 : decode cL_fire 4 = .ok (.iload_n 2, 1) := by decide +kernel
theorem dL_fire_5 : decode cL_fire 5 = .ok (.invokevirtual 78, 3) := by decide +kernel
theorem dL_fire_8 : decode cL_fire 8 = .ok (.ifCond .eq 7, 3) := by decide +kernel
theorem dL_fire_11 : decode cL_fire 11 = .ok (.lconst 1, 1) := by decide +kernel
theorem dL_fire_12 : decode cL_fire 12 = .ok (.goto 4, 3) := by decide +kernel
theorem dL_fire_15 : decode cL_fire 15 = .ok (.lconst 0, 1) := by decide +kernel
theorem dL_fire_16 : decode cL_fire 16 = .ok (.lastore, 1) := by decide +kernel
theorem dL_fire_17 : decode cL_fire 17 = .ok (.goto 11, 3) := by decide +kernel
theorem dL_fire_20 : decode cL_fire 20 = .ok (.astore 4, 2) := by decide +kernel
theorem dL_fire_22 : decode cL_fire 22 = .ok (.iconst 1, 1) := by decide +kernel
theorem dL_fire_23 : decode cL_fire 23 = .ok (.ireturn, 1) := by decide +kernel
theorem dL_fire_24 : decode cL_fire 24 = .ok (.astore 4, 2) := by decide +kernel
theorem dL_fire_26 : decode cL_fire 26 = .ok (.iconst 2, 1) := by decide +kernel
theorem dL_fire_27 : decode cL_fire 27 = .ok (.ireturn, 1) := by decide +kernel
theorem dL_fire_28 : decode cL_fire 28 = .ok (.iconst 0, 1) := by decide +kernel
theorem dL_fire_29 : decode cL_fire 29 = .ok (.ireturn, 1) := by decide +kernel
set_option maxRecDepth 20000 in
theorem ggL_award_X7_award : GoodIn wsL_award wsX7_award := goodIn_ca (goodIn_ca (goodIn_r _ [7, 8, 9, 10, 11, 12, 13, 14, 15, 16, 17, 18, 19, 20, 6, 21, 22, 23, 24, 25, 26, 27, 28, 29, 30, 31, 32, 33, 34, 35, 36, 37, 38, 39, 40, 41, 42, 43, 44, 45, 46, 47, 48, 49, 50, 51, 52, 53, 54, 55, 56, 57, 58, 59, 60, 61, 62, 63] (by decide +kernel) (by decide +kernel)) (goodIn_sub (fun _ h => List.mem_cons_of_mem _ (List.mem_append_left _ (List.mem_append_right _ h))) (by decide +kernel))) (goodIn_sub (fun _ h => List.mem_cons_of_mem _ (List.mem_append_right _ h)) (by decide +kernel))
set_option maxRecDepth 20000 in
theorem gL_award_X7_award : GoodIn wsL_award (wsV RL 81 RX7 yX7_award wsX7_award) := goodIn_app (goodIn_of _ (by decide +kernel)) ggL_award_X7_award
theorem dL_award_0 : decode cL_award 0 = .ok (.aload_n 3, 1) := by decide +kernel
theorem dL_award_1 : decode cL_award 1 = .ok (.iconst 0, 1) := by decide +kernel
theorem dL_award_2 : decode cL_award 2 = .ok (.aload_n 0, 1) := by decide +kernel
theorem dL_award_3 : decode cL_award 3 = .ok (.iload_n 1, 1) := by decide +kernel
theorem dL_award_4 : decode cL_award 4 = .ok (.iload_n 2, 1) := by decide +kernel
theorem dL_award_5 : decode cL_award 5 = .ok (.invokevirtual 81, 3) := by decide +kernel
theorem dL_award_8 : decode cL_award 8 = .ok (.i2l, 1) := by decide +kernel
theorem dL_award_9 : decode cL_award 9 = .ok (.lastore, 1) := by decide +kernel
theorem dL_award_10 : decode cL_award 10 = .ok (.goto 11, 3) := by decide +kernel
theorem dL_award_13 : decode cL_award 13 = .ok (.astore 4, 2) := by decide +kernel
theorem dL_award_15 : decode cL_award 15 = .ok (.iconst 1, 1) := by decide +kernel
theorem dL_award_16 : decode cL_award 16 = .ok (.ireturn, 1) := by decide +kernel
theorem dL_award_17 : decode cL_award 17 = .ok (.astore 4, 2) := by decide +kernel
theorem dL_award_19 : decode cL_award 19 = .ok (.iconst 2, 1) := by decide +kernel
theorem dL_award_20 : decode cL_award 20 = .ok (.ireturn, 1) := by decide +kernel
theorem dL_award_21 : decode cL_award 21 = .ok (.iconst 0, 1) := by decide +kernel
theorem dL_award_22 : decode cL_award 22 = .ok (.ireturn, 1) := by decide +kernel
set_option maxRecDepth 20000 in
theorem ggL_pass_X7_pass : GoodIn wsL_pass wsX7_pass := goodIn_ca (goodIn_ca (goodIn_r _ [7, 8, 9, 10, 6, 11, 12, 13, 14, 15, 16, 17, 18, 19, 20, 21, 22, 23, 24, 25, 26, 27, 28, 29, 30, 31, 32, 33] (by decide +kernel) (by decide +kernel)) (goodIn_sub (fun _ h => List.mem_cons_of_mem _ (List.mem_append_left _ (List.mem_append_right _ h))) (by decide +kernel))) (goodIn_sub (fun _ h => List.mem_cons_of_mem _ (List.mem_append_right _ h)) (by decide +kernel))
set_option maxRecDepth 20000 in
theorem gL_pass_X7_pass : GoodIn wsL_pass (wsV RL 84 RX7 yX7_pass wsX7_pass) := goodIn_app (goodIn_of _ (by decide +kernel)) ggL_pass_X7_pass
theorem dL_pass_0 : decode cL_pass 0 = .ok (.aload_n 2, 1) := by decide +kernel
theorem dL_pass_1 : decode cL_pass 1 = .ok (.iconst 0, 1) := by decide +kernel
theorem dL_pass_2 : decode cL_pass 2 = .ok (.aload_n 0, 1) := by decide +kernel
theorem dL_pass_3 : decode cL_pass 3 = .ok (.iload_n 1, 1) := by decide +kernel
theorem dL_pass_4 : decode cL_pass 4 = .ok (.invokevirtual 84, 3) := by decide +kernel
theorem dL_pass_7 : decode cL_pass 7 = .ok (.i2l, 1) := by decide +kernel
theorem dL_pass_8 : decode cL_pass 8 = .ok (.lastore, 1) := by decide +kernel
theorem dL_pass_9 : decode cL_pass 9 = .ok (.goto 9, 3) := by decide +kernel
theorem dL_pass_12 : decode cL_pass 12 = .ok (.astore_n 3, 1) := by decide +kernel
theorem dL_pass_13 : decode cL_pass 13 = .ok (.iconst 1, 1) := by decide +kernel
theorem dL_pass_14 : decode cL_pass 14 = .ok (.ireturn, 1) := by decide +kernel
theorem dL_pass_15 : decode cL_pass 15 = .ok (.astore_n 3, 1) := by decide +kernel
theorem dL_pass_16 : decode cL_pass 16 = .ok (.iconst 2, 1) := by decide +kernel
theorem dL_pass_17 : decode cL_pass 17 = .ok (.ireturn, 1) := by decide +kernel
theorem dL_pass_18 : decode cL_pass 18 = .ok (.iconst 0, 1) := by decide +kernel
theorem dL_pass_19 : decode cL_pass 19 = .ok (.ireturn, 1) := by decide +kernel
set_option maxRecDepth 20000 in
theorem ggL_covers_X7_covers : GoodIn wsL_covers wsX7_covers := goodIn_ca (goodIn_r _ [6, 7, 8, 9, 5, 10, 11, 12, 13, 14, 15, 16, 17, 18, 19, 20, 21, 22, 23, 24, 25, 26, 27, 28, 29, 30, 31, 32, 33, 34, 35, 36, 37, 38, 39, 40, 41, 42, 43, 44, 45, 46, 47, 48, 49, 50, 51, 52, 53, 54, 55, 56, 57, 58, 59, 60, 61, 62, 63, 64, 65, 66, 67, 68, 69, 70, 71, 72, 73, 74, 75, 76, 77, 78, 79, 80, 81, 82, 83, 84, 85, 86, 87, 88, 89, 90, 91, 92, 93, 94, 95, 96, 97, 98, 99, 100, 101, 102, 103, 104, 105, 106, 107, 108, 109, 110, 111, 112, 113, 114, 115, 116] (by decide +kernel) (by decide +kernel)) (goodIn_sub (fun _ h => List.mem_cons_of_mem _ (List.mem_append_right _ h)) (by decide +kernel))
set_option maxRecDepth 20000 in
theorem gL_covers_X7_covers : GoodIn wsL_covers (wsV RL 87 RX7 yX7_covers wsX7_covers) := goodIn_app (goodIn_of _ (by decide +kernel)) ggL_covers_X7_covers
theorem dL_covers_0 : decode cL_covers 0 = .ok (.aload_n 3, 1) := by decide +kernel
theorem dL_covers_1 : decode cL_covers 1 = .ok (.iconst 0, 1) := by decide +kernel
theorem dL_covers_2 : decode cL_covers 2 = .ok (.aload_n 0, 1) := by decide +kernel
theorem dL_covers_3 : decode cL_covers 3 = .ok (.iload_n 1, 1) := by decide +kernel
theorem dL_covers_4 : decode cL_covers 4 = .ok (.iload_n 2, 1) := by decide +kernel
theorem dL_covers_5 : decode cL_covers 5 = .ok (.invokevirtual 87, 3) := by decide +kernel
theorem dL_covers_8 : decode cL_covers 8 = .ok (.i2l, 1) := by decide +kernel
theorem dL_covers_9 : decode cL_covers 9 = .ok (.lastore, 1) := by decide +kernel
theorem dL_covers_10 : decode cL_covers 10 = .ok (.goto 7, 3) := by decide +kernel
theorem dL_covers_13 : decode cL_covers 13 = .ok (.astore 4, 2) := by decide +kernel
theorem dL_covers_15 : decode cL_covers 15 = .ok (.iconst 1, 1) := by decide +kernel
theorem dL_covers_16 : decode cL_covers 16 = .ok (.ireturn, 1) := by decide +kernel
theorem dL_covers_17 : decode cL_covers 17 = .ok (.iconst 0, 1) := by decide +kernel
theorem dL_covers_18 : decode cL_covers 18 = .ok (.ireturn, 1) := by decide +kernel
set_option maxRecDepth 20000 in
theorem ggL_bars_X7_bars : GoodIn wsL_bars wsX7_bars := goodIn_ca (goodIn_r _ [6, 7, 8, 9, 5, 10, 11, 12, 13, 14, 15, 16, 17, 18, 19, 20, 21, 22, 23, 24, 25, 26, 27, 28, 29, 30, 31, 32, 33, 34, 35, 36, 37, 38, 39, 40, 41, 42, 43, 44, 45, 46, 47, 48, 49, 50, 51, 52, 53, 54, 55, 56, 57, 58, 59, 60, 61, 62, 63, 64, 65, 66, 67, 68, 69, 70, 71, 72, 73, 74, 75, 76, 77, 78, 79, 80, 81, 82, 83, 84, 85, 86, 87, 88, 89, 90, 91, 92, 93, 94, 95, 96, 97, 98, 99, 100, 101, 102, 103, 104, 105, 106, 107, 108, 109, 110, 111, 112, 113, 114, 115, 116, 117, 118, 119, 120, 121, 122, 123, 124, 125, 126, 127, 128, 129, 130, 131, 132, 133, 134, 135, 136, 137, 138, 139] (by decide +kernel) (by decide +kernel)) (goodIn_sub (fun _ h => List.mem_cons_of_mem _ (List.mem_append_right _ h)) (by decide +kernel))
set_option maxRecDepth 20000 in
theorem gL_bars_X7_bars : GoodIn wsL_bars (wsV RL 90 RX7 yX7_bars wsX7_bars) := goodIn_app (goodIn_of _ (by decide +kernel)) ggL_bars_X7_bars
theorem dL_bars_0 : decode cL_bars 0 = .ok (.aload_n 3, 1) := by decide +kernel
theorem dL_bars_1 : decode cL_bars 1 = .ok (.iconst 0, 1) := by decide +kernel
theorem dL_bars_2 : decode cL_bars 2 = .ok (.aload_n 0, 1) := by decide +kernel
theorem dL_bars_3 : decode cL_bars 3 = .ok (.iload_n 1, 1) := by decide +kernel
theorem dL_bars_4 : decode cL_bars 4 = .ok (.iload_n 2, 1) := by decide +kernel
theorem dL_bars_5 : decode cL_bars 5 = .ok (.invokevirtual 90, 3) := by decide +kernel
theorem dL_bars_8 : decode cL_bars 8 = .ok (.i2l, 1) := by decide +kernel
theorem dL_bars_9 : decode cL_bars 9 = .ok (.lastore, 1) := by decide +kernel
theorem dL_bars_10 : decode cL_bars 10 = .ok (.goto 7, 3) := by decide +kernel
theorem dL_bars_13 : decode cL_bars 13 = .ok (.astore 4, 2) := by decide +kernel
theorem dL_bars_15 : decode cL_bars 15 = .ok (.iconst 1, 1) := by decide +kernel
theorem dL_bars_16 : decode cL_bars 16 = .ok (.ireturn, 1) := by decide +kernel
theorem dL_bars_17 : decode cL_bars 17 = .ok (.iconst 0, 1) := by decide +kernel
theorem dL_bars_18 : decode cL_bars 18 = .ok (.ireturn, 1) := by decide +kernel
set_option maxRecDepth 20000 in
theorem ggL_first_X7_first : GoodIn wsL_first wsX7_first := goodIn_ca (goodIn_r _ [6, 7, 8, 9, 5, 10, 11, 12, 13, 14, 15, 16, 17, 18, 19, 20, 21, 22, 23, 24, 25, 26, 27, 28, 29, 30, 31, 32, 33, 34, 35, 36, 37, 38, 39, 40, 41, 42, 43, 44, 45, 46, 47, 48, 49, 50, 51, 52, 53, 54, 55, 56, 57, 58, 59, 60, 61, 62, 63, 64, 65, 66, 67, 68, 69, 70, 71, 72, 73, 74, 75, 76, 77, 78, 79, 80, 81, 82, 83, 84, 85, 86, 87, 88, 89, 90, 91, 92, 93, 94, 95, 96, 97, 98, 99, 100, 101, 102, 103, 104, 105, 106, 107, 108, 109, 110, 111, 112, 113, 114, 115, 116, 117] (by decide +kernel) (by decide +kernel)) (goodIn_sub (fun _ h => List.mem_cons_of_mem _ (List.mem_append_right _ h)) (by decide +kernel))
set_option maxRecDepth 20000 in
theorem gL_first_X7_first : GoodIn wsL_first (wsV RL 93 RX7 yX7_first wsX7_first) := goodIn_app (goodIn_of _ (by decide +kernel)) ggL_first_X7_first
theorem dL_first_0 : decode cL_first 0 = .ok (.aload_n 2, 1) := by decide +kernel
theorem dL_first_1 : decode cL_first 1 = .ok (.iconst 0, 1) := by decide +kernel
theorem dL_first_2 : decode cL_first 2 = .ok (.aload_n 0, 1) := by decide +kernel
theorem dL_first_3 : decode cL_first 3 = .ok (.iload_n 1, 1) := by decide +kernel
theorem dL_first_4 : decode cL_first 4 = .ok (.invokevirtual 93, 3) := by decide +kernel
theorem dL_first_7 : decode cL_first 7 = .ok (.i2l, 1) := by decide +kernel
theorem dL_first_8 : decode cL_first 8 = .ok (.lastore, 1) := by decide +kernel
theorem dL_first_9 : decode cL_first 9 = .ok (.goto 6, 3) := by decide +kernel
theorem dL_first_12 : decode cL_first 12 = .ok (.astore_n 3, 1) := by decide +kernel
theorem dL_first_13 : decode cL_first 13 = .ok (.iconst 1, 1) := by decide +kernel
theorem dL_first_14 : decode cL_first 14 = .ok (.ireturn, 1) := by decide +kernel
theorem dL_first_15 : decode cL_first 15 = .ok (.iconst 0, 1) := by decide +kernel
theorem dL_first_16 : decode cL_first 16 = .ok (.ireturn, 1) := by decide +kernel
set_option maxRecDepth 20000 in
theorem ggL_firstAnew_X7_firstAnew : GoodIn wsL_firstAnew wsX7_firstAnew := goodIn_ca (goodIn_r _ [6, 7, 8, 9, 10, 11, 5, 12, 13, 14, 15, 16, 17, 18, 19, 20, 21, 22, 23, 24, 25, 26, 27, 28, 29, 30, 31, 32, 33, 34, 35, 36, 37, 38, 39, 40, 41, 42, 43, 44, 45, 46, 47, 48, 49, 50, 51, 52, 53, 54, 55, 56, 57, 58, 59, 60, 61, 62, 63, 64, 65, 66, 67, 68, 69, 70, 71, 72, 73, 74, 75, 76, 77, 78, 79, 80, 81, 82, 83, 84, 85, 86, 87, 88, 89, 90, 91, 92, 93, 94, 95, 96, 97, 98, 99, 100, 101, 102, 103, 104, 105, 106, 107, 108, 109, 110, 111, 112, 113, 114, 115, 116, 117, 118, 119] (by decide +kernel) (by decide +kernel)) (goodIn_sub (fun _ h => List.mem_cons_of_mem _ (List.mem_append_right _ h)) (by decide +kernel))
set_option maxRecDepth 20000 in
theorem gL_firstAnew_X7_firstAnew : GoodIn wsL_firstAnew (wsV RL 96 RX7 yX7_firstAnew wsX7_firstAnew) := goodIn_app (goodIn_of _ (by decide +kernel)) ggL_firstAnew_X7_firstAnew
theorem dL_firstAnew_0 : decode cL_firstAnew 0 = .ok (.aload_n 2, 1) := by decide +kernel
theorem dL_firstAnew_1 : decode cL_firstAnew 1 = .ok (.iconst 0, 1) := by decide +kernel
theorem dL_firstAnew_2 : decode cL_firstAnew 2 = .ok (.aload_n 0, 1) := by decide +kernel
theorem dL_firstAnew_3 : decode cL_firstAnew 3 = .ok (.iload_n 1, 1) := by decide +kernel
theorem dL_firstAnew_4 : decode cL_firstAnew 4 = .ok (.invokevirtual 96, 3) := by decide +kernel
theorem dL_firstAnew_7 : decode cL_firstAnew 7 = .ok (.i2l, 1) := by decide +kernel
theorem dL_firstAnew_8 : decode cL_firstAnew 8 = .ok (.lastore, 1) := by decide +kernel
theorem dL_firstAnew_9 : decode cL_firstAnew 9 = .ok (.goto 6, 3) := by decide +kernel
theorem dL_firstAnew_12 : decode cL_firstAnew 12 = .ok (.astore_n 3, 1) := by decide +kernel
theorem dL_firstAnew_13 : decode cL_firstAnew 13 = .ok (.iconst 1, 1) := by decide +kernel
theorem dL_firstAnew_14 : decode cL_firstAnew 14 = .ok (.ireturn, 1) := by decide +kernel
theorem dL_firstAnew_15 : decode cL_firstAnew 15 = .ok (.iconst 0, 1) := by decide +kernel
theorem dL_firstAnew_16 : decode cL_firstAnew 16 = .ok (.ireturn, 1) := by decide +kernel
set_option maxRecDepth 20000 in
theorem ggL_due_X7_due : GoodIn wsL_due wsX7_due := goodIn_ca (goodIn_r _ [6, 7, 8, 9, 5, 10, 11, 12, 13, 14, 15, 16, 17, 18, 19, 20, 21, 22, 23, 24, 25, 26, 27, 28, 29, 30, 31, 32, 33, 34, 35, 36, 37, 38, 39, 40, 41, 42, 43, 44, 45, 46, 47, 48, 49, 50, 51, 52, 53, 54, 55, 56, 57, 58, 59, 60, 61, 62, 63, 64, 65, 66, 67, 68, 69, 70, 71, 72, 73, 74, 75, 76, 77, 78, 79, 80, 81, 82, 83, 84, 85, 86, 87, 88, 89, 90, 91, 92, 93, 94, 95, 96, 97, 98, 99, 100, 101, 102, 103, 104, 105, 106, 107, 108, 109, 110, 111, 112, 113, 114, 115, 116, 117, 118, 119, 120, 121, 122, 123, 124, 125, 126, 127, 128, 129, 130, 131, 132, 133, 134, 135, 136, 137, 138, 139, 140, 141, 142, 143, 144, 145, 146, 147, 148, 149, 150, 151, 152, 153, 154, 155, 156, 157, 158, 159, 160, 161, 162, 163, 164, 165, 166, 167, 168, 169, 170, 171, 172, 173, 174, 175] (by decide +kernel) (by decide +kernel)) (goodIn_sub (fun _ h => List.mem_cons_of_mem _ (List.mem_append_right _ h)) (by decide +kernel))
set_option maxRecDepth 20000 in
theorem gL_due_X7_due : GoodIn wsL_due (wsV RL 99 RX7 yX7_due wsX7_due) := goodIn_app (goodIn_of _ (by decide +kernel)) ggL_due_X7_due
theorem dL_due_0 : decode cL_due 0 = .ok (.aload_n 2, 1) := by decide +kernel
theorem dL_due_1 : decode cL_due 1 = .ok (.iconst 0, 1) := by decide +kernel
theorem dL_due_2 : decode cL_due 2 = .ok (.aload_n 0, 1) := by decide +kernel
theorem dL_due_3 : decode cL_due 3 = .ok (.iload_n 1, 1) := by decide +kernel
theorem dL_due_4 : decode cL_due 4 = .ok (.invokevirtual 99, 3) := by decide +kernel
theorem dL_due_7 : decode cL_due 7 = .ok (.i2l, 1) := by decide +kernel
theorem dL_due_8 : decode cL_due 8 = .ok (.lastore, 1) := by decide +kernel
theorem dL_due_9 : decode cL_due 9 = .ok (.goto 6, 3) := by decide +kernel
theorem dL_due_12 : decode cL_due 12 = .ok (.astore_n 3, 1) := by decide +kernel
theorem dL_due_13 : decode cL_due 13 = .ok (.iconst 1, 1) := by decide +kernel
theorem dL_due_14 : decode cL_due 14 = .ok (.ireturn, 1) := by decide +kernel
theorem dL_due_15 : decode cL_due 15 = .ok (.iconst 0, 1) := by decide +kernel
theorem dL_due_16 : decode cL_due 16 = .ok (.ireturn, 1) := by decide +kernel
set_option maxRecDepth 20000 in
theorem ggL_sees_X7_sees : GoodIn wsL_sees wsX7_sees := goodIn_ca (goodIn_r _ [6, 7, 8, 9, 10, 5, 11, 12, 13, 14, 15, 16, 17, 18, 19, 20, 21, 22, 23, 24, 25, 26, 27, 28, 29, 30, 31, 32, 33, 34, 35, 36, 37, 38, 39, 40, 41, 42, 43, 44, 45, 46, 47, 48, 49, 50, 51, 52, 53, 54, 55, 56, 57, 58, 59, 60, 61, 62, 63, 64, 65, 66, 67, 68, 69, 70, 71, 72, 73, 74, 75, 76, 77, 78] (by decide +kernel) (by decide +kernel)) (goodIn_sub (fun _ h => List.mem_cons_of_mem _ (List.mem_append_right _ h)) (by decide +kernel))
set_option maxRecDepth 20000 in
theorem gL_sees_X7_sees : GoodIn wsL_sees (wsV RL 102 RX7 yX7_sees wsX7_sees) := goodIn_app (goodIn_of _ (by decide +kernel)) ggL_sees_X7_sees
theorem dL_sees_0 : decode cL_sees 0 = .ok (.aload_n 3, 1) := by decide +kernel
theorem dL_sees_1 : decode cL_sees 1 = .ok (.iconst 0, 1) := by decide +kernel
theorem dL_sees_2 : decode cL_sees 2 = .ok (.aload_n 0, 1) := by decide +kernel
theorem dL_sees_3 : decode cL_sees 3 = .ok (.iload_n 1, 1) := by decide +kernel
theorem dL_sees_4 : decode cL_sees 4 = .ok (.iload_n 2, 1) := by decide +kernel
theorem dL_sees_5 : decode cL_sees 5 = .ok (.invokevirtual 102, 3) := by decide +kernel
theorem dL_sees_8 : decode cL_sees 8 = .ok (.ifCond .eq 7, 3) := by decide +kernel
theorem dL_sees_11 : decode cL_sees 11 = .ok (.lconst 1, 1) := by decide +kernel
theorem dL_sees_12 : decode cL_sees 12 = .ok (.goto 4, 3) := by decide +kernel
theorem dL_sees_15 : decode cL_sees 15 = .ok (.lconst 0, 1) := by decide +kernel
theorem dL_sees_16 : decode cL_sees 16 = .ok (.lastore, 1) := by decide +kernel
theorem dL_sees_17 : decode cL_sees 17 = .ok (.goto 7, 3) := by decide +kernel
theorem dL_sees_20 : decode cL_sees 20 = .ok (.astore 4, 2) := by decide +kernel
theorem dL_sees_22 : decode cL_sees 22 = .ok (.iconst 1, 1) := by decide +kernel
theorem dL_sees_23 : decode cL_sees 23 = .ok (.ireturn, 1) := by decide +kernel
theorem dL_sees_24 : decode cL_sees 24 = .ok (.iconst 0, 1) := by decide +kernel
theorem dL_sees_25 : decode cL_sees 25 = .ok (.ireturn, 1) := by decide +kernel
set_option maxRecDepth 20000 in
theorem ggL_ofSuit_X7_ofSuit : GoodIn wsL_ofSuit wsX7_ofSuit := goodIn_ca (goodIn_r _ [6, 7, 8, 9, 10, 11, 12, 13, 14, 15, 16, 17, 18, 19, 20, 5, 21, 22, 23, 24, 25, 26, 27, 28, 29, 30, 31, 32, 33, 34, 35, 36, 37, 38, 39, 40, 41, 42, 43, 44, 45, 46, 47, 48, 49, 50, 51, 52, 53, 54, 55, 56, 57, 58, 59, 60, 61, 62, 63, 64, 65, 66, 67, 68, 69, 70, 71, 72, 73, 74, 75, 76, 77, 78, 79, 80, 81, 82, 83, 84, 85, 86, 87, 88, 89, 90, 91, 92, 93, 94, 95, 96, 97, 98, 99, 100, 101, 102, 103, 104, 105, 106, 107, 108, 109, 110, 111, 112, 113, 114, 115, 116, 117, 118, 119, 120, 121, 122, 123, 124, 125, 126, 127, 128, 129, 130, 131, 132, 133, 134, 135, 136, 137, 138, 139, 140, 141, 142, 143, 144, 145, 146, 147, 148, 149, 150, 151, 152, 153, 154, 155, 156, 157] (by decide +kernel) (by decide +kernel)) (goodIn_sub (fun _ h => List.mem_cons_of_mem _ (List.mem_append_right _ h)) (by decide +kernel))
set_option maxRecDepth 20000 in
theorem gL_ofSuit_X7_ofSuit : GoodIn wsL_ofSuit (wsV RL 105 RX7 yX7_ofSuit wsX7_ofSuit) := goodIn_app (goodIn_of _ (by decide +kernel)) ggL_ofSuit_X7_ofSuit
theorem dL_ofSuit_0 : decode cL_ofSuit 0 = .ok (.aload_n 3, 1) := by decide +kernel
theorem dL_ofSuit_1 : decode cL_ofSuit 1 = .ok (.iconst 0, 1) := by decide +kernel
theorem dL_ofSuit_2 : decode cL_ofSuit 2 = .ok (.aload_n 0, 1) := by decide +kernel
theorem dL_ofSuit_3 : decode cL_ofSuit 3 = .ok (.iload_n 1, 1) := by decide +kernel
theorem dL_ofSuit_4 : decode cL_ofSuit 4 = .ok (.iload_n 2, 1) := by decide +kernel
theorem dL_ofSuit_5 : decode cL_ofSuit 5 = .ok (.invokevirtual 105, 3) := by decide +kernel
theorem dL_ofSuit_8 : decode cL_ofSuit 8 = .ok (.i2l, 1) := by decide +kernel
theorem dL_ofSuit_9 : decode cL_ofSuit 9 = .ok (.lastore, 1) := by decide +kernel
theorem dL_ofSuit_10 : decode cL_ofSuit 10 = .ok (.goto 7, 3) := by decide +kernel
theorem dL_ofSuit_13 : decode cL_ofSuit 13 = .ok (.astore 4, 2) := by decide +kernel
theorem dL_ofSuit_15 : decode cL_ofSuit 15 = .ok (.iconst 1, 1) := by decide +kernel
theorem dL_ofSuit_16 : decode cL_ofSuit 16 = .ok (.ireturn, 1) := by decide +kernel
theorem dL_ofSuit_17 : decode cL_ofSuit 17 = .ok (.iconst 0, 1) := by decide +kernel
theorem dL_ofSuit_18 : decode cL_ofSuit 18 = .ok (.ireturn, 1) := by decide +kernel
set_option maxRecDepth 20000 in
theorem ggL_ofClaim_X7_ofClaim : GoodIn wsL_ofClaim wsX7_ofClaim := goodIn_ca (goodIn_r _ [6, 7, 8, 9, 10, 11, 12, 13, 14, 15, 16, 17, 18, 19, 20, 21, 22, 5, 23, 24, 25, 26, 27, 28, 29, 30, 31, 32, 33, 34, 35, 36, 37, 38, 39, 40, 41, 42, 43, 44, 45, 46, 47, 48, 49, 50, 51, 52, 53, 54, 55, 56, 57, 58, 59] (by decide +kernel) (by decide +kernel)) (goodIn_sub (fun _ h => List.mem_cons_of_mem _ (List.mem_append_right _ h)) (by decide +kernel))
set_option maxRecDepth 20000 in
theorem gL_ofClaim_X7_ofClaim : GoodIn wsL_ofClaim (wsV RL 108 RX7 yX7_ofClaim wsX7_ofClaim) := goodIn_app (goodIn_of _ (by decide +kernel)) ggL_ofClaim_X7_ofClaim
theorem dL_ofClaim_0 : decode cL_ofClaim 0 = .ok (.aload_n 3, 1) := by decide +kernel
theorem dL_ofClaim_1 : decode cL_ofClaim 1 = .ok (.iconst 0, 1) := by decide +kernel
theorem dL_ofClaim_2 : decode cL_ofClaim 2 = .ok (.aload_n 0, 1) := by decide +kernel
theorem dL_ofClaim_3 : decode cL_ofClaim 3 = .ok (.iload_n 1, 1) := by decide +kernel
theorem dL_ofClaim_4 : decode cL_ofClaim 4 = .ok (.iload_n 2, 1) := by decide +kernel
theorem dL_ofClaim_5 : decode cL_ofClaim 5 = .ok (.invokevirtual 108, 3) := by decide +kernel
theorem dL_ofClaim_8 : decode cL_ofClaim 8 = .ok (.i2l, 1) := by decide +kernel
theorem dL_ofClaim_9 : decode cL_ofClaim 9 = .ok (.lastore, 1) := by decide +kernel
theorem dL_ofClaim_10 : decode cL_ofClaim 10 = .ok (.goto 7, 3) := by decide +kernel
theorem dL_ofClaim_13 : decode cL_ofClaim 13 = .ok (.astore 4, 2) := by decide +kernel
theorem dL_ofClaim_15 : decode cL_ofClaim 15 = .ok (.iconst 1, 1) := by decide +kernel
theorem dL_ofClaim_16 : decode cL_ofClaim 16 = .ok (.ireturn, 1) := by decide +kernel
theorem dL_ofClaim_17 : decode cL_ofClaim 17 = .ok (.iconst 0, 1) := by decide +kernel
theorem dL_ofClaim_18 : decode cL_ofClaim 18 = .ok (.ireturn, 1) := by decide +kernel
set_option maxRecDepth 20000 in
theorem ggL_got_X7_got : GoodIn wsL_got wsX7_got := goodIn_ca (goodIn_r _ [6, 7, 8, 9, 10, 11, 12, 13, 14, 5, 15, 16, 17, 18, 19, 20, 21, 22, 23, 24, 25, 26, 27, 28, 29, 30, 31, 32, 33, 34, 35, 36, 37, 38] (by decide +kernel) (by decide +kernel)) (goodIn_sub (fun _ h => List.mem_cons_of_mem _ (List.mem_append_right _ h)) (by decide +kernel))
set_option maxRecDepth 20000 in
theorem gL_got_X7_got : GoodIn wsL_got (wsV RL 111 RX7 yX7_got wsX7_got) := goodIn_app (goodIn_of _ (by decide +kernel)) ggL_got_X7_got
theorem dL_got_0 : decode cL_got 0 = .ok (.aload_n 3, 1) := by decide +kernel
theorem dL_got_1 : decode cL_got 1 = .ok (.iconst 0, 1) := by decide +kernel
theorem dL_got_2 : decode cL_got 2 = .ok (.aload_n 0, 1) := by decide +kernel
theorem dL_got_3 : decode cL_got 3 = .ok (.iload_n 1, 1) := by decide +kernel
theorem dL_got_4 : decode cL_got 4 = .ok (.iload_n 2, 1) := by decide +kernel
theorem dL_got_5 : decode cL_got 5 = .ok (.invokevirtual 111, 3) := by decide +kernel
theorem dL_got_8 : decode cL_got 8 = .ok (.i2l, 1) := by decide +kernel
theorem dL_got_9 : decode cL_got 9 = .ok (.lastore, 1) := by decide +kernel
theorem dL_got_10 : decode cL_got 10 = .ok (.goto 7, 3) := by decide +kernel
theorem dL_got_13 : decode cL_got 13 = .ok (.astore 4, 2) := by decide +kernel
theorem dL_got_15 : decode cL_got 15 = .ok (.iconst 1, 1) := by decide +kernel
theorem dL_got_16 : decode cL_got 16 = .ok (.ireturn, 1) := by decide +kernel
theorem dL_got_17 : decode cL_got 17 = .ok (.iconst 0, 1) := by decide +kernel
theorem dL_got_18 : decode cL_got 18 = .ok (.ireturn, 1) := by decide +kernel
set_option maxRecDepth 20000 in
theorem ggL_ofFirm_X7_ofFirm : GoodIn wsL_ofFirm wsX7_ofFirm := goodIn_ca (goodIn_r _ [6, 7, 8, 9, 10, 11, 12, 13, 14, 15, 5, 16, 17, 18, 19, 20, 21, 22, 23, 24, 25, 26, 27, 28, 29, 30, 31, 32, 33, 34, 35, 36, 37, 38, 39] (by decide +kernel) (by decide +kernel)) (goodIn_sub (fun _ h => List.mem_cons_of_mem _ (List.mem_append_right _ h)) (by decide +kernel))
set_option maxRecDepth 20000 in
theorem gL_ofFirm_X7_ofFirm : GoodIn wsL_ofFirm (wsV RL 114 RX7 yX7_ofFirm wsX7_ofFirm) := goodIn_app (goodIn_of _ (by decide +kernel)) ggL_ofFirm_X7_ofFirm
theorem dL_ofFirm_0 : decode cL_ofFirm 0 = .ok (.aload_n 3, 1) := by decide +kernel
theorem dL_ofFirm_1 : decode cL_ofFirm 1 = .ok (.iconst 0, 1) := by decide +kernel
theorem dL_ofFirm_2 : decode cL_ofFirm 2 = .ok (.aload_n 0, 1) := by decide +kernel
theorem dL_ofFirm_3 : decode cL_ofFirm 3 = .ok (.iload_n 1, 1) := by decide +kernel
theorem dL_ofFirm_4 : decode cL_ofFirm 4 = .ok (.iload_n 2, 1) := by decide +kernel
theorem dL_ofFirm_5 : decode cL_ofFirm 5 = .ok (.invokevirtual 114, 3) := by decide +kernel
theorem dL_ofFirm_8 : decode cL_ofFirm 8 = .ok (.i2l, 1) := by decide +kernel
theorem dL_ofFirm_9 : decode cL_ofFirm 9 = .ok (.lastore, 1) := by decide +kernel
theorem dL_ofFirm_10 : decode cL_ofFirm 10 = .ok (.goto 7, 3) := by decide +kernel
theorem dL_ofFirm_13 : decode cL_ofFirm 13 = .ok (.astore 4, 2) := by decide +kernel
theorem dL_ofFirm_15 : decode cL_ofFirm 15 = .ok (.iconst 1, 1) := by decide +kernel
theorem dL_ofFirm_16 : decode cL_ofFirm 16 = .ok (.ireturn, 1) := by decide +kernel
theorem dL_ofFirm_17 : decode cL_ofFirm 17 = .ok (.iconst 0, 1) := by decide +kernel
theorem dL_ofFirm_18 : decode cL_ofFirm 18 = .ok (.ireturn, 1) := by decide +kernel
set_option maxRecDepth 20000 in
theorem ggL_all_X7_all : GoodIn wsL_all wsX7_all := goodIn_ca (goodIn_r _ [6, 7, 8, 9, 10, 11, 12, 13, 5, 14, 15, 16, 17, 18, 19, 20, 21, 22, 23, 24, 25, 26, 27, 28, 29, 30, 31, 32, 33, 34, 35, 36, 37, 38, 39, 40, 41, 42, 43, 44, 45, 46, 47, 48, 49, 50, 51, 52, 53, 54, 55, 56, 57, 58, 59, 60, 61, 62, 63, 64, 65, 66, 67, 68, 69, 70, 71, 72, 73, 74, 75, 76, 77, 78, 79, 80, 81, 82, 83, 84, 85, 86, 87] (by decide +kernel) (by decide +kernel)) (goodIn_sub (fun _ h => List.mem_cons_of_mem _ (List.mem_append_right _ h)) (by decide +kernel))
set_option maxRecDepth 20000 in
theorem gL_all_X7_all : GoodIn wsL_all (wsV RL 117 RX7 yX7_all wsX7_all) := goodIn_app (goodIn_of _ (by decide +kernel)) ggL_all_X7_all
theorem dL_all_0 : decode cL_all 0 = .ok (.aload_n 2, 1) := by decide +kernel
theorem dL_all_1 : decode cL_all 1 = .ok (.iconst 0, 1) := by decide +kernel
theorem dL_all_2 : decode cL_all 2 = .ok (.aload_n 0, 1) := by decide +kernel
theorem dL_all_3 : decode cL_all 3 = .ok (.iload_n 1, 1) := by decide +kernel
theorem dL_all_4 : decode cL_all 4 = .ok (.invokevirtual 117, 3) := by decide +kernel
theorem dL_all_7 : decode cL_all 7 = .ok (.i2l, 1) := by decide +kernel
theorem dL_all_8 : decode cL_all 8 = .ok (.lastore, 1) := by decide +kernel
theorem dL_all_9 : decode cL_all 9 = .ok (.goto 6, 3) := by decide +kernel
theorem dL_all_12 : decode cL_all 12 = .ok (.astore_n 3, 1) := by decide +kernel
theorem dL_all_13 : decode cL_all 13 = .ok (.iconst 1, 1) := by decide +kernel
theorem dL_all_14 : decode cL_all 14 = .ok (.ireturn, 1) := by decide +kernel
theorem dL_all_15 : decode cL_all 15 = .ok (.iconst 0, 1) := by decide +kernel
theorem dL_all_16 : decode cL_all 16 = .ok (.ireturn, 1) := by decide +kernel
