theorem dL_at_0 : decode cL_at 0 = .ok (.iload_n 1, 1) := by decide +kernel
theorem dL_at_1 : decode cL_at 1 = .ok (.aload_n 0, 1) := by decide +kernel
theorem dL_at_2 : decode cL_at 2 = .ok (.arraylength, 1) := by decide +kernel
theorem dL_at_3 : decode cL_at 3 = .ok (.if_icmp .ge 9, 3) := by decide +kernel
theorem dL_at_6 : decode cL_at 6 = .ok (.aload_n 0, 1) := by decide +kernel
theorem dL_at_7 : decode cL_at 7 = .ok (.iload_n 1, 1) := by decide +kernel
theorem dL_at_8 : decode cL_at 8 = .ok (.iaload, 1) := by decide +kernel
theorem dL_at_9 : decode cL_at 9 = .ok (.goto 4, 3) := by decide +kernel
theorem dL_at_12 : decode cL_at 12 = .ok (.iconst 0, 1) := by decide +kernel
theorem dL_at_13 : decode cL_at 13 = .ok (.ireturn, 1) := by decide +kernel
theorem dL_some_0 : decode cL_some 0 = .ok (.iload_n 0, 1) := by decide +kernel
theorem dL_some_1 : decode cL_some 1 = .ok (.iload_n 1, 1) := by decide +kernel
theorem dL_some_2 : decode cL_some 2 = .ok (.irem, 1) := by decide +kernel
theorem dL_some_3 : decode cL_some 3 = .ok (.istore_n 2, 1) := by decide +kernel
theorem dL_some_4 : decode cL_some 4 = .ok (.iload_n 2, 1) := by decide +kernel
theorem dL_some_5 : decode cL_some 5 = .ok (.ifCond .ge 9, 3) := by decide +kernel
theorem dL_some_8 : decode cL_some 8 = .ok (.iload_n 2, 1) := by decide +kernel
theorem dL_some_9 : decode cL_some 9 = .ok (.iload_n 1, 1) := by decide +kernel
theorem dL_some_10 : decode cL_some 10 = .ok (.iadd, 1) := by decide +kernel
theorem dL_some_11 : decode cL_some 11 = .ok (.goto 4, 3) := by decide +kernel
theorem dL_some_14 : decode cL_some 14 = .ok (.iload_n 2, 1) := by decide +kernel
theorem dL_some_15 : decode cL_some 15 = .ok (.ireturn, 1) := by decide +kernel
set_option maxRecDepth 20000 in
theorem ggL_open_X2_open : GoodIn wsL_open wsX2_open := goodIn_ca (goodIn_ca (goodIn_ca (goodIn_r _ [7, 8, 9, 10, 11, 12, 13, 14, 15, 16, 6, 17, 18, 19, 20, 21, 22, 23, 24, 25, 26, 27, 28, 29, 30, 31, 32, 33, 34, 35, 36, 37, 38, 39, 40, 41, 42, 43, 44, 45, 46, 47, 48, 49, 50, 51, 52, 53, 54, 55, 56, 57, 58, 59, 60, 61, 62, 63] (by decide +kernel) (by decide +kernel)) (goodIn_sub (fun _ h => List.mem_cons_of_mem _ (List.mem_append_left _ (List.mem_append_left _ (List.mem_append_right _ h)))) (by decide +kernel))) (goodIn_sub (fun _ h => List.mem_cons_of_mem _ (List.mem_append_left _ (List.mem_append_right _ h))) (by decide +kernel))) (goodIn_sub (fun _ h => List.mem_cons_of_mem _ (List.mem_append_right _ h)) (by decide +kernel))
set_option maxRecDepth 20000 in
theorem gL_open_X2_open : GoodIn wsL_open (wsV RL 7 RX2 yX2_open wsX2_open) := goodIn_app (goodIn_of _ (by decide +kernel)) ggL_open_X2_open
theorem dL_open_0 : decode cL_open 0 = .ok (.aload_n 0, 1) := by decide +kernel
theorem dL_open_1 : decode cL_open 1 = .ok (.iload_n 1, 1) := by decide +kernel
theorem dL_open_2 : decode cL_open 2 = .ok (.iload_n 2, 1) := by decide +kernel
theorem dL_open_3 : decode cL_open 3 = .ok (.invokevirtual 7, 3) := by decide +kernel
theorem dL_open_6 : decode cL_open 6 = .ok (.ireturn, 1) := by decide +kernel
theorem dL_open_7 : decode cL_open 7 = .ok (.astore_n 3, 1) := by decide +kernel
theorem dL_open_8 : decode cL_open 8 = .ok (.sipush (-1001), 3) := by decide +kernel
theorem dL_open_11 : decode cL_open 11 = .ok (.ireturn, 1) := by decide +kernel
theorem dL_open_12 : decode cL_open 12 = .ok (.astore_n 3, 1) := by decide +kernel
theorem dL_open_13 : decode cL_open 13 = .ok (.sipush (-1002), 3) := by decide +kernel
theorem dL_open_16 : decode cL_open 16 = .ok (.ireturn, 1) := by decide +kernel
set_option maxRecDepth 20000 in
theorem ggL_pause_X2_pause : GoodIn wsL_pause wsX2_pause := goodIn_ca (goodIn_ca (goodIn_ca (goodIn_ca (goodIn_r _ [8, 9, 10, 11, 12, 13, 14, 15, 7, 16, 17, 18, 19, 20, 21, 22, 23, 24, 25, 26, 27, 28, 29, 30, 31, 32, 33, 34, 35, 36, 37, 38, 39, 40, 41, 42, 43, 44, 45, 46, 47, 48, 49, 50, 51, 52, 53, 54] (by decide +kernel) (by decide +kernel)) (goodIn_sub (fun _ h => List.mem_cons_of_mem _ (List.mem_append_left _ (List.mem_append_left _ (List.mem_append_left _ (List.mem_append_right _ h))))) (by decide +kernel))) (goodIn_sub (fun _ h => List.mem_cons_of_mem _ (List.mem_append_left _ (List.mem_append_left _ (List.mem_append_right _ h)))) (by decide +kernel))) (goodIn_sub (fun _ h => List.mem_cons_of_mem _ (List.mem_append_left _ (List.mem_append_right _ h))) (by decide +kernel))) (goodIn_sub (fun _ h => List.mem_cons_of_mem _ (List.mem_append_right _ h)) (by decide +kernel))
set_option maxRecDepth 20000 in
theorem gL_pause_X2_pause : GoodIn wsL_pause (wsV RL 17 RX2 yX2_pause wsX2_pause) := goodIn_app (goodIn_of _ (by decide +kernel)) ggL_pause_X2_pause
theorem dL_pause_0 : decode cL_pause 0 = .ok (.aload_n 0, 1) := by decide +kernel
theorem dL_pause_1 : decode cL_pause 1 = .ok (.iload_n 1, 1) := by decide +kernel
theorem dL_pause_2 : decode cL_pause 2 = .ok (.iload_n 2, 1) := by decide +kernel
theorem dL_pause_3 : decode cL_pause 3 = .ok (.invokevirtual 17, 3) := by decide +kernel
theorem dL_pause_6 : decode cL_pause 6 = .ok (.ireturn, 1) := by decide +kernel
theorem dL_pause_7 : decode cL_pause 7 = .ok (.astore_n 3, 1) := by decide +kernel
theorem dL_pause_8 : decode cL_pause 8 = .ok (.sipush (-1001), 3) := by decide +kernel
theorem dL_pause_11 : decode cL_pause 11 = .ok (.ireturn, 1) := by decide +kernel
theorem dL_pause_12 : decode cL_pause 12 = .ok (.astore_n 3, 1) := by decide +kernel
theorem dL_pause_13 : decode cL_pause 13 = .ok (.sipush (-1002), 3) := by decide +kernel
theorem dL_pause_16 : decode cL_pause 16 = .ok (.ireturn, 1) := by decide +kernel
theorem dL_pause_17 : decode cL_pause 17 = .ok (.astore_n 3, 1) := by decide +kernel
theorem dL_pause_18 : decode cL_pause 18 = .ok (.sipush (-1003), 3) := by decide +kernel
theorem dL_pause_21 : decode cL_pause 21 = .ok (.ireturn, 1) := by decide +kernel
set_option maxRecDepth 20000 in
theorem ggL_of_X2_amount : GoodIn wsL_of wsX2_amount := goodIn_ca (goodIn_ca (goodIn_r _ [8, 9, 10, 11, 12, 7, 13, 14, 15, 16, 17, 18, 19, 20, 86, 87, 88, 89, 90, 91, 92, 93, 94, 95] (by decide +kernel) (by decide +kernel)) (goodIn_sub (fun _ h => List.mem_cons_of_mem _ (List.mem_append_left _ (List.mem_append_left _ (List.mem_append_left _ (List.mem_append_right _ h))))) (by decide +kernel))) (goodIn_sub (fun _ h => List.mem_cons_of_mem _ (List.mem_append_left _ (List.mem_append_left _ (List.mem_append_right _ h)))) (by decide +kernel))
set_option maxRecDepth 20000 in
theorem gL_of_X2_amount : GoodIn wsL_of (wsV RL 22 RX2 yX2_amount wsX2_amount) := goodIn_app (goodIn_of _ (by decide +kernel)) ggL_of_X2_amount
set_option maxRecDepth 20000 in
theorem ggL_of_X2_letters : GoodIn wsL_of wsX2_letters := goodIn_ca (goodIn_ca (goodIn_r _ [24, 9, 10, 11, 12, 7, 13, 14, 15, 16, 17, 18, 19, 20, 86, 87, 88, 89, 90, 91, 92, 93, 94, 95] (by decide +kernel) (by decide +kernel)) (goodIn_sub (fun _ h => List.mem_cons_of_mem _ (List.mem_append_left _ (List.mem_append_left _ (List.mem_append_left _ (List.mem_append_right _ h))))) (by decide +kernel))) (goodIn_sub (fun _ h => List.mem_cons_of_mem _ (List.mem_append_left _ (List.mem_append_left _ (List.mem_append_right _ h)))) (by decide +kernel))
set_option maxRecDepth 20000 in
theorem gL_of_X2_letters : GoodIn wsL_of (wsV RL 26 RX2 yX2_letters wsX2_letters) := goodIn_app (goodIn_of _ (by decide +kernel)) ggL_of_X2_letters
set_option maxRecDepth 20000 in
theorem ggL_of_X2_lettersByMessages : GoodIn wsL_of wsX2_lettersByMessages := goodIn_ca (goodIn_ca (goodIn_r _ [28, 29, 9, 10, 11, 12, 7, 13, 14, 15, 16, 17, 18, 19, 20, 30, 31, 32, 33, 34, 35, 36, 37, 38, 39, 40, 41, 42, 43, 44, 45, 46, 47, 86, 87, 88, 89, 90, 91, 92, 93, 94, 95, 96, 97, 98, 99, 100, 101, 102, 103, 104, 105, 106, 107, 108] (by decide +kernel) (by decide +kernel)) (goodIn_sub (fun _ h => List.mem_cons_of_mem _ (List.mem_append_left _ (List.mem_append_left _ (List.mem_append_left _ (List.mem_append_right _ h))))) (by decide +kernel))) (goodIn_sub (fun _ h => List.mem_cons_of_mem _ (List.mem_append_left _ (List.mem_append_left _ (List.mem_append_right _ h)))) (by decide +kernel))
set_option maxRecDepth 20000 in
theorem gL_of_X2_lettersByMessages : GoodIn wsL_of (wsV RL 29 RX2 yX2_lettersByMessages wsX2_lettersByMessages) := goodIn_app (goodIn_of _ (by decide +kernel)) ggL_of_X2_lettersByMessages
set_option maxRecDepth 20000 in
theorem ggL_of_X2_nextReminder : GoodIn wsL_of wsX2_nextReminder := goodIn_ca (goodIn_ca (goodIn_ca (goodIn_r _ [51, 52, 53, 54, 9, 55, 40, 41, 42, 10, 11, 12, 7, 13, 14, 15, 16, 17, 18, 19, 20, 56, 57, 58, 59, 29, 60, 61, 62, 63, 64, 65, 66, 67, 31, 68, 69, 47, 70, 71, 72, 73, 74, 75, 86, 87, 88, 89, 90, 91, 92, 93, 94, 95, 96, 97, 98, 99, 100, 101, 102, 103, 104, 105, 106, 107, 108] (by decide +kernel) (by decide +kernel)) (goodIn_sub (fun _ h => List.mem_cons_of_mem _ (List.mem_append_left _ (List.mem_append_right _ h))) (by decide +kernel))) (goodIn_sub (fun _ h => List.mem_cons_of_mem _ (List.mem_append_left _ (List.mem_append_left _ (List.mem_append_left _ (List.mem_append_right _ h))))) (by decide +kernel))) (goodIn_sub (fun _ h => List.mem_cons_of_mem _ (List.mem_append_left _ (List.mem_append_left _ (List.mem_append_right _ h)))) (by decide +kernel))
set_option maxRecDepth 20000 in
theorem gL_of_X2_nextReminder : GoodIn wsL_of (wsV RL 32 RX2 yX2_nextReminder wsX2_nextReminder) := goodIn_app (goodIn_of _ (by decide +kernel)) ggL_of_X2_nextReminder
set_option maxRecDepth 20000 in
theorem ggL_of_X2_awaitNote : GoodIn wsL_of wsX2_awaitNote := goodIn_ca (goodIn_ca (goodIn_ca (goodIn_r _ [79, 9, 10, 11, 12, 7, 13, 14, 15, 16, 17, 18, 19, 20, 80, 81, 82, 83, 84, 85, 60, 61, 62, 63, 86, 87, 88, 89, 90, 91, 92, 93, 94, 95] (by decide +kernel) (by decide +kernel)) (goodIn_sub (fun _ h => List.mem_cons_of_mem _ (List.mem_append_left _ (List.mem_append_left _ (List.mem_append_left _ (List.mem_append_right _ h))))) (by decide +kernel))) (goodIn_sub (fun _ h => List.mem_cons_of_mem _ (List.mem_append_left _ (List.mem_append_left _ (List.mem_append_right _ h)))) (by decide +kernel))) (goodIn_sub (fun _ h => List.mem_cons_of_mem _ (List.mem_append_right _ h)) (by decide +kernel))
set_option maxRecDepth 20000 in
theorem gL_of_X2_awaitNote : GoodIn wsL_of (wsV RL 35 RX2 yX2_awaitNote wsX2_awaitNote) := goodIn_app (goodIn_of _ (by decide +kernel)) ggL_of_X2_awaitNote
theorem dL_of_0 : decode cL_of 0 = .ok (.iload_n 2, 1) := by decide +kernel
theorem dL_of_1 : decode cL_of 1 = .ok (.ifCond .ne 11, 3) := by decide +kernel
theorem dL_of_4 : decode cL_of 4 = .ok (.aload_n 0, 1) := by decide +kernel
theorem dL_of_5 : decode cL_of 5 = .ok (.iload_n 1, 1) := by decide +kernel
theorem dL_of_6 : decode cL_of 6 = .ok (.invokevirtual 22, 3) := by decide +kernel
theorem dL_of_9 : decode cL_of 9 = .ok (.goto 55, 3) := by decide +kernel
theorem dL_of_12 : decode cL_of 12 = .ok (.iload_n 2, 1) := by decide +kernel
theorem dL_of_13 : decode cL_of 13 = .ok (.iconst 1, 1) := by decide +kernel
theorem dL_of_14 : decode cL_of 14 = .ok (.if_icmp .ne 11, 3) := by decide +kernel
theorem dL_of_17 : decode cL_of 17 = .ok (.aload_n 0, 1) := by decide +kernel
theorem dL_of_18 : decode cL_of 18 = .ok (.iload_n 1, 1) := by decide +kernel
theorem dL_of_19 : decode cL_of 19 = .ok (.invokevirtual 26, 3) := by decide +kernel
theorem dL_of_22 : decode cL_of 22 = .ok (.goto 42, 3) := by decide +kernel
theorem dL_of_25 : decode cL_of 25 = .ok (.iload_n 2, 1) := by decide +kernel
theorem dL_of_26 : decode cL_of 26 = .ok (.iconst 2, 1) := by decide +kernel
theorem dL_of_27 : decode cL_of 27 = .ok (.if_icmp .ne 11, 3) := by decide +kernel
theorem dL_of_30 : decode cL_of 30 = .ok (.aload_n 0, 1) := by decide +kernel
theorem dL_of_31 : decode cL_of 31 = .ok (.iload_n 1, 1) := by decide +kernel
theorem dL_of_32 : decode cL_of 32 = .ok (.invokevirtual 29, 3) := by decide +kernel
theorem dL_of_35 : decode cL_of 35 = .ok (.goto 29, 3) := by decide +kernel
theorem dL_of_38 : decode cL_of 38 = .ok (.iload_n 2, 1) := by decide +kernel
theorem dL_of_39 : decode cL_of 39 = .ok (.iconst 3, 1) := by decide +kernel
theorem dL_of_40 : decode cL_of 40 = .ok (.if_icmp .ne 11, 3) := by decide +kernel
theorem dL_of_43 : decode cL_of 43 = .ok (.aload_n 0, 1) := by decide +kernel
theorem dL_of_44 : decode cL_of 44 = .ok (.iload_n 1, 1) := by decide +kernel
theorem dL_of_45 : decode cL_of 45 = .ok (.invokevirtual 32, 3) := by decide +kernel
theorem dL_of_48 : decode cL_of 48 = .ok (.goto 16, 3) := by decide +kernel
theorem dL_of_51 : decode cL_of 51 = .ok (.aload_n 0, 1) := by decide +kernel
theorem dL_of_52 : decode cL_of 52 = .ok (.iload_n 1, 1) := by decide +kernel
theorem dL_of_53 : decode cL_of 53 = .ok (.invokevirtual 35, 3) := by decide +kernel
theorem dL_of_56 : decode cL_of 56 = .ok (.ifCond .eq 7, 3) := by decide +kernel
theorem dL_of_59 : decode cL_of 59 = .ok (.iconst 1, 1) := by decide +kernel
theorem dL_of_60 : decode cL_of 60 = .ok (.goto 4, 3) := by decide +kernel
theorem dL_of_63 : decode cL_of 63 = .ok (.iconst 0, 1) := by decide +kernel
theorem dL_of_64 : decode cL_of 64 = .ok (.ireturn, 1) := by decide +kernel
theorem dL_of_65 : decode cL_of 65 = .ok (.astore_n 3, 1) := by decide +kernel
theorem dL_of_66 : decode cL_of 66 = .ok (.sipush (-1001), 3) := by decide +kernel
theorem dL_of_69 : decode cL_of 69 = .ok (.ireturn, 1) := by decide +kernel
theorem dL_of_70 : decode cL_of 70 = .ok (.astore_n 3, 1) := by decide +kernel
theorem dL_of_71 : decode cL_of 71 = .ok (.sipush (-1002), 3) := by decide +kernel
theorem dL_of_74 : decode cL_of 74 = .ok (.ireturn, 1) := by decide +kernel
theorem dL_of_75 : decode cL_of 75 = .ok (.astore_n 3, 1) := by decide +kernel
theorem dL_of_76 : decode cL_of 76 = .ok (.sipush (-1002), 3) := by decide +kernel
theorem dL_of_79 : decode cL_of 79 = .ok (.ireturn, 1) := by decide +kernel
set_option maxRecDepth 20000 in
theorem ggL_post_X2_post : GoodIn wsL_post wsX2_post := goodIn_ca (goodIn_ca (goodIn_ca (goodIn_r _ [7, 8, 9, 10, 11, 12, 13, 14, 15, 16, 6, 17, 18, 19, 20, 21, 22, 23, 24, 25, 26, 27, 28, 29, 30, 31, 32, 33, 34, 35, 36, 37, 38, 39, 40, 41, 42, 43, 44, 45, 46, 47, 48, 49, 50, 51, 52, 53, 54, 55, 56, 57, 58, 59, 60, 61, 62, 63, 64, 65, 66] (by decide +kernel) (by decide +kernel)) (goodIn_sub (fun _ h => List.mem_cons_of_mem _ (List.mem_append_left _ (List.mem_append_right _ h))) (by decide +kernel))) (goodIn_sub (fun _ h => List.mem_cons_of_mem _ (List.mem_append_right _ h)) (by decide +kernel))) (goodIn_sub (fun _ h => List.mem_cons_of_mem _ (List.mem_append_left _ (List.mem_append_left _ (List.mem_append_right _ h)))) (by decide +kernel))
set_option maxRecDepth 20000 in
theorem gL_post_X2_post : GoodIn wsL_post (wsV RL 41 RX2 yX2_post wsX2_post) := goodIn_app (goodIn_of _ (by decide +kernel)) ggL_post_X2_post
theorem dL_post_0 : decode cL_post 0 = .ok (.aload_n 0, 1) := by decide +kernel
theorem dL_post_1 : decode cL_post 1 = .ok (.aload_n 1, 1) := by decide +kernel
theorem dL_post_2 : decode cL_post 2 = .ok (.iconst 0, 1) := by decide +kernel
theorem dL_post_3 : decode cL_post 3 = .ok (.iaload, 1) := by decide +kernel
theorem dL_post_4 : decode cL_post 4 = .ok (.aload_n 1, 1) := by decide +kernel
theorem dL_post_5 : decode cL_post 5 = .ok (.iconst 1, 1) := by decide +kernel
theorem dL_post_6 : decode cL_post 6 = .ok (.iaload, 1) := by decide +kernel
theorem dL_post_7 : decode cL_post 7 = .ok (.iload_n 2, 1) := by decide +kernel
theorem dL_post_8 : decode cL_post 8 = .ok (.iload_n 3, 1) := by decide +kernel
theorem dL_post_9 : decode cL_post 9 = .ok (.iload 4, 2) := by decide +kernel
theorem dL_post_11 : decode cL_post 11 = .ok (.iload 5, 2) := by decide +kernel
theorem dL_post_13 : decode cL_post 13 = .ok (.invokevirtual 41, 3) := by decide +kernel
theorem dL_post_16 : decode cL_post 16 = .ok (.ireturn, 1) := by decide +kernel
theorem dL_post_17 : decode cL_post 17 = .ok (.astore 6, 2) := by decide +kernel
theorem dL_post_19 : decode cL_post 19 = .ok (.sipush (-1001), 3) := by decide +kernel
theorem dL_post_22 : decode cL_post 22 = .ok (.ireturn, 1) := by decide +kernel
theorem dL_post_23 : decode cL_post 23 = .ok (.astore 6, 2) := by decide +kernel
theorem dL_post_25 : decode cL_post 25 = .ok (.sipush (-1002), 3) := by decide +kernel
theorem dL_post_28 : decode cL_post 28 = .ok (.ireturn, 1) := by decide +kernel
set_option maxRecDepth 20000 in
theorem ggL_withKey_X2_withKey : GoodIn wsL_withKey wsX2_withKey := goodIn_ca (goodIn_ca (goodIn_r _ [6, 7, 8, 9, 10, 11, 12, 13, 14, 15, 16, 17, 18, 19, 20, 21, 22, 23, 24, 25, 26, 27, 28, 29, 30, 31] (by decide +kernel) (by decide +kernel)) (goodIn_sub (fun _ h => List.mem_cons_of_mem _ (List.mem_append_left _ (List.mem_append_right _ h))) (by decide +kernel))) (goodIn_sub (fun _ h => List.mem_cons_of_mem _ (List.mem_append_right _ h)) (by decide +kernel))
set_option maxRecDepth 20000 in
theorem gL_withKey_X2_withKey : GoodIn wsL_withKey (wsV RL 45 RX2 yX2_withKey wsX2_withKey) := goodIn_app (goodIn_of _ (by decide +kernel)) ggL_withKey_X2_withKey
theorem dL_withKey_0 : decode cL_withKey 0 = .ok (.aload_n 0, 1) := by decide +kernel
theorem dL_withKey_1 : decode cL_withKey 1 = .ok (.iload_n 1, 1) := by decide +kernel
theorem dL_withKey_2 : decode cL_withKey 2 = .ok (.invokevirtual 45, 3) := by decide +kernel
theorem dL_withKey_5 : decode cL_withKey 5 = .ok (.ireturn, 1) := by decide +kernel
theorem dL_withKey_6 : decode cL_withKey 6 = .ok (.astore_n 2, 1) := by decide +kernel
theorem dL_withKey_7 : decode cL_withKey 7 = .ok (.sipush (-1001), 3) := by decide +kernel
theorem dL_withKey_10 : decode cL_withKey 10 = .ok (.ireturn, 1) := by decide +kernel
set_option maxRecDepth 20000 in
theorem ggL_message_X2_state : GoodIn wsL_message wsX2_state := goodIn_ca (goodIn_ca (goodIn_r _ [8, 9, 10, 11, 12, 7, 13, 14, 15, 16, 17, 18, 19, 20, 105, 106, 107, 108, 109, 110, 111, 112, 113, 114, 115, 116, 117, 118, 119, 120] (by decide +kernel) (by decide +kernel)) (goodIn_sub (fun _ h => List.mem_cons_of_mem _ (List.mem_append_left _ (List.mem_append_left _ (List.mem_append_left _ (List.mem_append_right _ h))))) (by decide +kernel))) (goodIn_sub (fun _ h => List.mem_cons_of_mem _ (List.mem_append_left _ (List.mem_append_left _ (List.mem_append_right _ h)))) (by decide +kernel))
set_option maxRecDepth 20000 in
theorem gL_message_X2_state : GoodIn wsL_message (wsV RL 48 RX2 yX2_state wsX2_state) := goodIn_app (goodIn_of _ (by decide +kernel)) ggL_message_X2_state
set_option maxRecDepth 20000 in
theorem ggL_message_X2_kind : GoodIn wsL_message wsX2_kind := goodIn_ca (goodIn_ca (goodIn_r _ [24, 9, 10, 11, 12, 7, 13, 14, 15, 16, 17, 18, 19, 20, 105, 106, 107, 108, 109, 110, 111, 112, 113, 114, 115, 116, 117, 118, 119, 120] (by decide +kernel) (by decide +kernel)) (goodIn_sub (fun _ h => List.mem_cons_of_mem _ (List.mem_append_left _ (List.mem_append_left _ (List.mem_append_left _ (List.mem_append_right _ h))))) (by decide +kernel))) (goodIn_sub (fun _ h => List.mem_cons_of_mem _ (List.mem_append_left _ (List.mem_append_left _ (List.mem_append_right _ h)))) (by decide +kernel))
set_option maxRecDepth 20000 in
theorem gL_message_X2_kind : GoodIn wsL_message (wsV RL 52 RX2 yX2_kind wsX2_kind) := goodIn_app (goodIn_of _ (by decide +kernel)) ggL_message_X2_kind
set_option maxRecDepth 20000 in
theorem ggL_message_X2_tries : GoodIn wsL_message wsX2_tries := goodIn_ca (goodIn_ca (goodIn_r _ [28, 9, 10, 11, 12, 7, 13, 14, 15, 16, 17, 18, 19, 20, 105, 106, 107, 108, 109, 110, 111, 112, 113, 114, 115, 116, 117, 118, 119, 120] (by decide +kernel) (by decide +kernel)) (goodIn_sub (fun _ h => List.mem_cons_of_mem _ (List.mem_append_left _ (List.mem_append_left _ (List.mem_append_left _ (List.mem_append_right _ h))))) (by decide +kernel))) (goodIn_sub (fun _ h => List.mem_cons_of_mem _ (List.mem_append_left _ (List.mem_append_left _ (List.mem_append_right _ h)))) (by decide +kernel))
set_option maxRecDepth 20000 in
theorem gL_message_X2_tries : GoodIn wsL_message (wsV RL 55 RX2 yX2_tries wsX2_tries) := goodIn_app (goodIn_of _ (by decide +kernel)) ggL_message_X2_tries
set_option maxRecDepth 20000 in
theorem ggL_message_X2_readyAt : GoodIn wsL_message wsX2_readyAt := goodIn_ca (goodIn_ca (goodIn_ca (goodIn_r _ [32, 9, 10, 11, 12, 7, 13, 14, 15, 16, 17, 18, 19, 20, 33, 34, 35, 36, 37, 38, 105, 106, 107, 108, 109, 110, 111, 112, 113, 114, 115, 116, 117, 118, 119, 120] (by decide +kernel) (by decide +kernel)) (goodIn_sub (fun _ h => List.mem_cons_of_mem _ (List.mem_append_left _ (List.mem_append_left _ (List.mem_append_left _ (List.mem_append_right _ h))))) (by decide +kernel))) (goodIn_sub (fun _ h => List.mem_cons_of_mem _ (List.mem_append_left _ (List.mem_append_left _ (List.mem_append_right _ h)))) (by decide +kernel))) (goodIn_sub (fun _ h => List.mem_cons_of_mem _ (List.mem_append_left _ (List.mem_append_right _ h))) (by decide +kernel))
set_option maxRecDepth 20000 in
theorem gL_message_X2_readyAt : GoodIn wsL_message (wsV RL 58 RX2 yX2_readyAt wsX2_readyAt) := goodIn_app (goodIn_of _ (by decide +kernel)) ggL_message_X2_readyAt
set_option maxRecDepth 20000 in
theorem ggL_message_X2_clerk : GoodIn wsL_message wsX2_clerk := goodIn_ca (goodIn_ca (goodIn_ca (goodIn_r _ [42, 43, 44, 9, 10, 11, 12, 7, 13, 14, 15, 16, 17, 18, 19, 20, 105, 106, 107, 108, 109, 110, 111, 112, 113, 114, 115, 116, 117, 118, 119, 120] (by decide +kernel) (by decide +kernel)) (goodIn_sub (fun _ h => List.mem_cons_of_mem _ (List.mem_append_left _ (List.mem_append_left _ (List.mem_append_left _ (List.mem_append_right _ h))))) (by decide +kernel))) (goodIn_sub (fun _ h => List.mem_cons_of_mem _ (List.mem_append_right _ h)) (by decide +kernel))) (goodIn_sub (fun _ h => List.mem_cons_of_mem _ (List.mem_append_left _ (List.mem_append_left _ (List.mem_append_right _ h)))) (by decide +kernel))
set_option maxRecDepth 20000 in
theorem gL_message_X2_clerk : GoodIn wsL_message (wsV RL 61 RX2 yX2_clerk wsX2_clerk) := goodIn_app (goodIn_of _ (by decide +kernel)) ggL_message_X2_clerk
set_option maxRecDepth 20000 in
theorem ggL_message_X2_finish : GoodIn wsL_message wsX2_finish := goodIn_ca (goodIn_ca (goodIn_ca (goodIn_r _ [48, 9, 10, 11, 12, 7, 13, 14, 15, 16, 17, 18, 19, 20, 33, 34, 35, 36, 37, 38, 49, 50, 51, 52, 53, 54, 55, 56, 57, 58, 59, 60, 61, 62, 63, 64, 65, 66, 67, 68, 69, 70, 71, 72, 73, 74, 75, 76, 77, 78, 79, 80, 81, 82, 83, 84, 105, 106, 107, 108, 109, 110, 111, 112, 113, 114, 115, 116, 117, 118, 119, 120, 121, 122, 123, 124, 125, 126, 127] (by decide +kernel) (by decide +kernel)) (goodIn_sub (fun _ h => List.mem_cons_of_mem _ (List.mem_append_left _ (List.mem_append_left _ (List.mem_append_right _ h)))) (by decide +kernel))) (goodIn_sub (fun _ h => List.mem_cons_of_mem _ (List.mem_append_left _ (List.mem_append_left _ (List.mem_append_left _ (List.mem_append_right _ h))))) (by decide +kernel))) (goodIn_sub (fun _ h => List.mem_cons_of_mem _ (List.mem_append_left _ (List.mem_append_right _ h))) (by decide +kernel))
set_option maxRecDepth 20000 in
theorem gL_message_X2_finish : GoodIn wsL_message (wsV RL 64 RX2 yX2_finish wsX2_finish) := goodIn_app (goodIn_of _ (by decide +kernel)) ggL_message_X2_finish
set_option maxRecDepth 20000 in
theorem ggL_message_X2_handBack : GoodIn wsL_message wsX2_handBack := goodIn_ca (goodIn_ca (goodIn_ca (goodIn_r _ [88, 9, 89, 10, 11, 12, 7, 13, 14, 15, 16, 17, 18, 19, 20, 33, 34, 35, 36, 37, 38, 90, 91, 92, 93, 52, 94, 105, 106, 107, 108, 109, 110, 111, 112, 113, 114, 115, 116, 117, 118, 119, 120] (by decide +kernel) (by decide +kernel)) (goodIn_sub (fun _ h => List.mem_cons_of_mem _ (List.mem_append_left _ (List.mem_append_left _ (List.mem_append_left _ (List.mem_append_right _ h))))) (by decide +kernel))) (goodIn_sub (fun _ h => List.mem_cons_of_mem _ (List.mem_append_left _ (List.mem_append_left _ (List.mem_append_right _ h)))) (by decide +kernel))) (goodIn_sub (fun _ h => List.mem_cons_of_mem _ (List.mem_append_left _ (List.mem_append_right _ h))) (by decide +kernel))
set_option maxRecDepth 20000 in
theorem gL_message_X2_handBack : GoodIn wsL_message (wsV RL 67 RX2 yX2_handBack wsX2_handBack) := goodIn_app (goodIn_of _ (by decide +kernel)) ggL_message_X2_handBack
set_option maxRecDepth 20000 in
theorem ggL_message_X2_revive : GoodIn wsL_message wsX2_revive := goodIn_ca (goodIn_ca (goodIn_ca (goodIn_r _ [98, 9, 89, 10, 11, 12, 7, 13, 14, 15, 16, 17, 18, 19, 20, 33, 34, 35, 36, 37, 38, 99, 100, 101, 52, 94, 93, 102, 103, 104, 105, 106, 107, 108, 109, 110, 111, 112, 113, 114, 115, 116, 117, 118, 119, 120] (by decide +kernel) (by decide +kernel)) (goodIn_sub (fun _ h => List.mem_cons_of_mem _ (List.mem_append_left _ (List.mem_append_left _ (List.mem_append_right _ h)))) (by decide +kernel))) (goodIn_sub (fun _ h => List.mem_cons_of_mem _ (List.mem_append_left _ (List.mem_append_left _ (List.mem_append_left _ (List.mem_append_right _ h))))) (by decide +kernel))) (goodIn_sub (fun _ h => List.mem_cons_of_mem _ (List.mem_append_left _ (List.mem_append_right _ h))) (by decide +kernel))
set_option maxRecDepth 20000 in
theorem gL_message_X2_revive : GoodIn wsL_message (wsV RL 70 RX2 yX2_revive wsX2_revive) := goodIn_app (goodIn_of _ (by decide +kernel)) ggL_message_X2_revive
theorem dL_message_0 : decode cL_message 0 = .ok (.iload_n 2, 1) := by decide +kernel
theorem dL_message_1 : decode cL_message 1 = .ok (.tableswitch 93 0 6 #[43, 49, 55, 61, 67, 73, 87], 43) := by decide +kernel
theorem dL_message_44 : decode cL_message 44 = .ok (.aload_n 0, 1) := by decide +kernel
theorem dL_message_45 : decode cL_message 45 = .ok (.iload_n 1, 1) := by decide +kernel
theorem dL_message_46 : decode cL_message 46 = .ok (.invokevirtual 48, 3) := by decide +kernel
theorem dL_message_49 : decode cL_message 49 = .ok (.ireturn, 1) := by decide +kernel
theorem dL_message_50 : decode cL_message 50 = .ok (.aload_n 0, 1) := by decide +kernel
theorem dL_message_51 : decode cL_message 51 = .ok (.iload_n 1, 1) := by decide +kernel
theorem dL_message_52 : decode cL_message 52 = .ok (.invokevirtual 52, 3) := by decide +kernel
theorem dL_message_55 : decode cL_message 55 = .ok (.ireturn, 1) := by decide +kernel
theorem dL_message_56 : decode cL_message 56 = .ok (.aload_n 0, 1) := by decide +kernel
theorem dL_message_57 : decode cL_message 57 = .ok (.iload_n 1, 1) := by decide +kernel
theorem dL_message_58 : decode cL_message 58 = .ok (.invokevirtual 55, 3) := by decide +kernel
theorem dL_message_61 : decode cL_message 61 = .ok (.ireturn, 1) := by decide +kernel
theorem dL_message_62 : decode cL_message 62 = .ok (.aload_n 0, 1) := by decide +kernel
theorem dL_message_63 : decode cL_message 63 = .ok (.iload_n 1, 1) := by decide +kernel
theorem dL_message_64 : decode cL_message 64 = .ok (.invokevirtual 58, 3) := by decide +kernel
theorem dL_message_67 : decode cL_message 67 = .ok (.ireturn, 1) := by decide +kernel
theorem dL_message_68 : decode cL_message 68 = .ok (.aload_n 0, 1) := by decide +kernel
theorem dL_message_69 : decode cL_message 69 = .ok (.iload_n 1, 1) := by decide +kernel
theorem dL_message_70 : decode cL_message 70 = .ok (.invokevirtual 61, 3) := by decide +kernel
theorem dL_message_73 : decode cL_message 73 = .ok (.ireturn, 1) := by decide +kernel
theorem dL_message_74 : decode cL_message 74 = .ok (.aload_n 0, 1) := by decide +kernel
theorem dL_message_75 : decode cL_message 75 = .ok (.iload_n 1, 1) := by decide +kernel
theorem dL_message_76 : decode cL_message 76 = .ok (.invokevirtual 64, 3) := by decide +kernel
theorem dL_message_79 : decode cL_message 79 = .ok (.ifCond .eq 7, 3) := by decide +kernel
theorem dL_message_82 : decode cL_message 82 = .ok (.iconst 1, 1) := by decide +kernel
theorem dL_message_83 : decode cL_message 83 = .ok (.goto 4, 3) := by decide +kernel
theorem dL_message_86 : decode cL_message 86 = .ok (.iconst 0, 1) := by decide +kernel
theorem dL_message_87 : decode cL_message 87 = .ok (.ireturn, 1) := by decide +kernel
theorem dL_message_88 : decode cL_message 88 = .ok (.aload_n 0, 1) := by decide +kernel
theorem dL_message_89 : decode cL_message 89 = .ok (.iload_n 1, 1) := by decide +kernel
theorem dL_message_90 : decode cL_message 90 = .ok (.invokevirtual 67, 3) := by decide +kernel
theorem dL_message_93 : decode cL_message 93 = .ok (.ireturn, 1) := by decide +kernel
theorem dL_message_94 : decode cL_message 94 = .ok (.aload_n 0, 1) := by decide +kernel
theorem dL_message_95 : decode cL_message 95 = .ok (.iload_n 1, 1) := by decide +kernel
theorem dL_message_96 : decode cL_message 96 = .ok (.invokevirtual 70, 3) := by decide +kernel
theorem dL_message_99 : decode cL_message 99 = .ok (.ireturn, 1) := by decide +kernel
theorem dL_message_100 : decode cL_message 100 = .ok (.astore_n 3, 1) := by decide +kernel
theorem dL_message_101 : decode cL_message 101 = .ok (.sipush (-1001), 3) := by decide +kernel
theorem dL_message_104 : decode cL_message 104 = .ok (.ireturn, 1) := by decide +kernel
theorem dL_message_105 : decode cL_message 105 = .ok (.astore_n 3, 1) := by decide +kernel
theorem dL_message_106 : decode cL_message 106 = .ok (.sipush (-1002), 3) := by decide +kernel
theorem dL_message_109 : decode cL_message 109 = .ok (.ireturn, 1) := by decide +kernel
theorem dL_message_110 : decode cL_message 110 = .ok (.astore_n 3, 1) := by decide +kernel
theorem dL_message_111 : decode cL_message 111 = .ok (.sipush (-1002), 3) := by decide +kernel
theorem dL_message_114 : decode cL_message 114 = .ok (.ireturn, 1) := by decide +kernel
set_option maxRecDepth 20000 in
theorem ggL_ready_X2_ready : GoodIn wsL_ready wsX2_ready := goodIn_ca (goodIn_ca (goodIn_r _ [7, 8, 9, 10, 11, 6, 12, 13, 14, 15, 16, 17, 18, 19, 20, 21, 22, 23, 24, 25, 26, 27, 28, 29, 43, 44, 45, 46, 47, 48, 49, 50, 51, 52, 53, 54, 55, 56, 57, 58] (by decide +kernel) (by decide +kernel)) (goodIn_sub (fun _ h => List.mem_cons_of_mem _ (List.mem_append_left _ (List.mem_append_left _ (List.mem_append_right _ h)))) (by decide +kernel))) (goodIn_sub (fun _ h => List.mem_cons_of_mem _ (List.mem_append_left _ (List.mem_append_right _ h))) (by decide +kernel))
set_option maxRecDepth 20000 in
theorem gL_ready_X2_ready : GoodIn wsL_ready (wsV RL 73 RX2 yX2_ready wsX2_ready) := goodIn_app (goodIn_of _ (by decide +kernel)) ggL_ready_X2_ready
set_option maxRecDepth 20000 in
theorem ggL_ready_X2_readyAtPlace : GoodIn wsL_ready wsX2_readyAtPlace := goodIn_ca (goodIn_ca (goodIn_ca (goodIn_r _ [33, 34, 35, 8, 9, 10, 11, 6, 12, 13, 14, 15, 16, 17, 18, 19, 20, 21, 22, 23, 24, 25, 26, 27, 28, 29, 36, 37, 38, 39, 40, 41, 42, 43, 44, 45, 46, 47, 48, 49, 50, 51, 52, 53, 54, 55, 56, 57, 58] (by decide +kernel) (by decide +kernel)) (goodIn_sub (fun _ h => List.mem_cons_of_mem _ (List.mem_append_right _ h)) (by decide +kernel))) (goodIn_sub (fun _ h => List.mem_cons_of_mem _ (List.mem_append_left _ (List.mem_append_left _ (List.mem_append_right _ h)))) (by decide +kernel))) (goodIn_sub (fun _ h => List.mem_cons_of_mem _ (List.mem_append_left _ (List.mem_append_right _ h))) (by decide +kernel))
set_option maxRecDepth 20000 in
theorem gL_ready_X2_readyAtPlace : GoodIn wsL_ready (wsV RL 76 RX2 yX2_readyAtPlace wsX2_readyAtPlace) := goodIn_app (goodIn_of _ (by decide +kernel)) ggL_ready_X2_readyAtPlace
theorem dL_ready_0 : decode cL_ready 0 = .ok (.iload_n 2, 1) := by decide +kernel
theorem dL_ready_1 : decode cL_ready 1 = .ok (.iconst (-1), 1) := by decide +kernel
theorem dL_ready_2 : decode cL_ready 2 = .ok (.if_icmp .ne 11, 3) := by decide +kernel
theorem dL_ready_5 : decode cL_ready 5 = .ok (.aload_n 0, 1) := by decide +kernel
theorem dL_ready_6 : decode cL_ready 6 = .ok (.iload_n 1, 1) := by decide +kernel
theorem dL_ready_7 : decode cL_ready 7 = .ok (.invokevirtual 73, 3) := by decide +kernel
theorem dL_ready_10 : decode cL_ready 10 = .ok (.goto 9, 3) := by decide +kernel
theorem dL_ready_13 : decode cL_ready 13 = .ok (.aload_n 0, 1) := by decide +kernel
theorem dL_ready_14 : decode cL_ready 14 = .ok (.iload_n 1, 1) := by decide +kernel
theorem dL_ready_15 : decode cL_ready 15 = .ok (.iload_n 2, 1) := by decide +kernel
theorem dL_ready_16 : decode cL_ready 16 = .ok (.invokevirtual 76, 3) := by decide +kernel
theorem dL_ready_19 : decode cL_ready 19 = .ok (.ireturn, 1) := by decide +kernel
theorem dL_ready_20 : decode cL_ready 20 = .ok (.astore_n 3, 1) := by decide +kernel
theorem dL_ready_21 : decode cL_ready 21 = .ok (.sipush (-1001), 3) := by decide +kernel
theorem dL_ready_24 : decode cL_ready 24 = .ok (.ireturn, 1) := by decide +kernel
theorem dL_ready_25 : decode cL_ready 25 = .ok (.astore_n 3, 1) := by decide +kernel
theorem dL_ready_26 : decode cL_ready 26 = .ok (.sipush (-1002), 3) := by decide +kernel
theorem dL_ready_29 : decode cL_ready 29 = .ok (.ireturn, 1) := by decide +kernel
set_option maxRecDepth 20000 in
theorem ggL_take_X2_take : GoodIn wsL_take wsX2_take := goodIn_ca (goodIn_ca (goodIn_ca (goodIn_ca (goodIn_r _ [8, 9, 10, 11, 12, 13, 14, 15, 16, 7, 17, 18, 19, 20, 21, 22, 23, 24, 25, 26, 27, 28, 29, 30, 31, 32, 33, 34, 35, 36, 37, 38, 39, 40, 41, 42, 43, 44, 45, 46, 47, 48, 49, 50, 51, 52, 53, 54, 55, 56, 57, 58, 59, 60, 61, 62, 63, 64, 65] (by decide +kernel) (by decide +kernel)) (goodIn_sub (fun _ h => List.mem_cons_of_mem _ (List.mem_append_left _ (List.mem_append_left _ (List.mem_append_left _ (List.mem_append_right _ h))))) (by decide +kernel))) (goodIn_sub (fun _ h => List.mem_cons_of_mem _ (List.mem_append_left _ (List.mem_append_left _ (List.mem_append_right _ h)))) (by decide +kernel))) (goodIn_sub (fun _ h => List.mem_cons_of_mem _ (List.mem_append_left _ (List.mem_append_right _ h))) (by decide +kernel))) (goodIn_sub (fun _ h => List.mem_cons_of_mem _ (List.mem_append_right _ h)) (by decide +kernel))
set_option maxRecDepth 20000 in
theorem gL_take_X2_take : GoodIn wsL_take (wsV RL 79 RX2 yX2_take wsX2_take) := goodIn_app (goodIn_of _ (by decide +kernel)) ggL_take_X2_take
theorem dL_take_0 : decode cL_take 0 = .ok (.aload_n 0, 1) := by decide +kernel
theorem dL_take_1 : decode cL_take 1 = .ok (.iload_n 1, 1) := by decide +kernel
theorem dL_take_2 : decode cL_take 2 = .ok (.iload_n 2, 1) := by decide +kernel
theorem dL_take_3 : decode cL_take 3 = .ok (.invokevirtual 79, 3) := by decide +kernel
theorem dL_take_6 : decode cL_take 6 = .ok (.ireturn, 1) := by decide +kernel
theorem dL_take_7 : decode cL_take 7 = .ok (.astore_n 3, 1) := by decide +kernel
theorem dL_take_8 : decode cL_take 8 = .ok (.sipush (-1001), 3) := by decide +kernel
theorem dL_take_11 : decode cL_take 11 = .ok (.ireturn, 1) := by decide +kernel
theorem dL_take_12 : decode cL_take 12 = .ok (.astore_n 3, 1) := by decide +kernel
theorem dL_take_13 : decode cL_take 13 = .ok (.sipush (-1002), 3) := by decide +kernel
theorem dL_take_16 : decode cL_take 16 = .ok (.ireturn, 1) := by decide +kernel
theorem dL_take_17 : decode cL_take 17 = .ok (.astore_n 3, 1) := by decide +kernel
theorem dL_take_18 : decode cL_take 18 = .ok (.sipush (-1003), 3) := by decide +kernel
theorem dL_take_21 : decode cL_take 21 = .ok (.ireturn, 1) := by decide +kernel
set_option maxRecDepth 20000 in
theorem ggL_told_X2_has : GoodIn wsL_told wsX2_has := goodIn_ca (goodIn_ca (goodIn_r _ [6, 7, 8, 9, 5, 10, 11, 12, 13, 14, 15, 16, 17, 18, 19, 20, 21, 22, 85, 86, 87, 88, 89, 90, 91, 92, 93, 94, 95, 96, 97, 98, 99, 100] (by decide +kernel) (by decide +kernel)) (goodIn_sub (fun _ h => List.mem_cons_of_mem _ (List.mem_append_left _ (List.mem_append_right _ h))) (by decide +kernel))) (goodIn_sub (fun _ h => List.mem_cons_of_mem _ (List.mem_append_right _ h)) (by decide +kernel))
set_option maxRecDepth 20000 in
theorem gL_told_X2_has : GoodIn wsL_told (wsV RL 82 RX2 yX2_has wsX2_has) := goodIn_app (goodIn_of _ (by decide +kernel)) ggL_told_X2_has
set_option maxRecDepth 20000 in
theorem ggL_told_X2_pass : GoodIn wsL_told wsX2_pass := goodIn_ca (goodIn_ca (goodIn_r _ [26, 11, 12, 27, 7, 13, 14, 5, 15, 28, 17, 29, 30, 20, 21, 31, 32, 33, 34, 35, 36, 37, 38, 39, 40, 41, 42, 43, 44, 45, 46, 47, 48, 49, 50, 51, 52, 53, 54, 55, 56, 57, 58, 59, 60, 61, 62, 63, 64, 65, 66, 67, 68, 69, 70, 71, 72, 73, 74, 75, 76, 77, 85, 86, 87, 88, 89, 90, 91, 92, 93, 94, 95, 96, 97, 98, 99, 100, 101, 102, 103, 104, 105, 106, 107] (by decide +kernel) (by decide +kernel)) (goodIn_sub (fun _ h => List.mem_cons_of_mem _ (List.mem_append_left _ (List.mem_append_right _ h))) (by decide +kernel))) (goodIn_sub (fun _ h => List.mem_cons_of_mem _ (List.mem_append_right _ h)) (by decide +kernel))
set_option maxRecDepth 20000 in
theorem gL_told_X2_pass : GoodIn wsL_told (wsV RL 85 RX2 yX2_pass wsX2_pass) := goodIn_app (goodIn_of _ (by decide +kernel)) ggL_told_X2_pass
set_option maxRecDepth 20000 in
theorem ggL_told_X2_count : GoodIn wsL_told wsX2_count := goodIn_ca (goodIn_ca (goodIn_r _ [81, 11, 12, 7, 82, 17, 83, 84, 20, 21, 85, 86, 87, 88, 89, 90, 91, 92, 93, 94, 95, 96, 97, 98, 99, 100] (by decide +kernel) (by decide +kernel)) (goodIn_sub (fun _ h => List.mem_cons_of_mem _ (List.mem_append_left _ (List.mem_append_right _ h))) (by decide +kernel))) (goodIn_sub (fun _ h => List.mem_cons_of_mem _ (List.mem_append_right _ h)) (by decide +kernel))
set_option maxRecDepth 20000 in
theorem gL_told_X2_count : GoodIn wsL_told (wsV RL 88 RX2 yX2_count wsX2_count) := goodIn_app (goodIn_of _ (by decide +kernel)) ggL_told_X2_count
theorem dL_told_0 : decode cL_told 0 = .ok (.iload_n 1, 1) := by decide +kernel
theorem dL_told_1 : decode cL_told 1 = .ok (.bipush 99, 2) := by decide +kernel
theorem dL_told_3 : decode cL_told 3 = .ok (.if_icmp .ne 11, 3) := by decide +kernel
theorem dL_told_6 : decode cL_told 6 = .ok (.aload_n 0, 1) := by decide +kernel
theorem dL_told_7 : decode cL_told 7 = .ok (.iload_n 2, 1) := by decide +kernel
theorem dL_told_8 : decode cL_told 8 = .ok (.invokevirtual 82, 3) := by decide +kernel
theorem dL_told_11 : decode cL_told 11 = .ok (.goto 23, 3) := by decide +kernel
theorem dL_told_14 : decode cL_told 14 = .ok (.iload_n 1, 1) := by decide +kernel
theorem dL_told_15 : decode cL_told 15 = .ok (.bipush 112, 2) := by decide +kernel
theorem dL_told_17 : decode cL_told 17 = .ok (.if_icmp .ne 11, 3) := by decide +kernel
theorem dL_told_20 : decode cL_told 20 = .ok (.aload_n 0, 1) := by decide +kernel
theorem dL_told_21 : decode cL_told 21 = .ok (.iload_n 2, 1) := by decide +kernel
theorem dL_told_22 : decode cL_told 22 = .ok (.invokevirtual 85, 3) := by decide +kernel
theorem dL_told_25 : decode cL_told 25 = .ok (.goto 9, 3) := by decide +kernel
theorem dL_told_28 : decode cL_told 28 = .ok (.aload_n 0, 1) := by decide +kernel
theorem dL_told_29 : decode cL_told 29 = .ok (.iload_n 2, 1) := by decide +kernel
theorem dL_told_30 : decode cL_told 30 = .ok (.i2c, 1) := by decide +kernel
theorem dL_told_31 : decode cL_told 31 = .ok (.invokevirtual 88, 3) := by decide +kernel
theorem dL_told_34 : decode cL_told 34 = .ok (.ireturn, 1) := by decide +kernel
theorem dL_told_35 : decode cL_told 35 = .ok (.astore_n 3, 1) := by decide +kernel
theorem dL_told_36 : decode cL_told 36 = .ok (.sipush (-1001), 3) := by decide +kernel
theorem dL_told_39 : decode cL_told 39 = .ok (.ireturn, 1) := by decide +kernel
set_option maxRecDepth 20000 in
theorem ggL_share_X2_doneShare : GoodIn wsL_share wsX2_doneShare := goodIn_ca (goodIn_ca (goodIn_r _ [7, 8, 9, 10, 11, 12, 13, 14, 15, 16, 17, 18, 19, 20, 21, 22, 23, 24, 25, 26, 27, 28, 29, 30, 31, 32] (by decide +kernel) (by decide +kernel)) (goodIn_sub (fun _ h => List.mem_cons_of_mem _ (List.mem_append_left _ (List.mem_append_right _ h))) (by decide +kernel))) (goodIn_sub (fun _ h => List.mem_cons_of_mem _ (List.mem_append_right _ h)) (by decide +kernel))
set_option maxRecDepth 20000 in
theorem gL_share_X2_doneShare : GoodIn wsL_share (wsV RL 92 RX2 yX2_doneShare wsX2_doneShare) := goodIn_app (goodIn_of _ (by decide +kernel)) ggL_share_X2_doneShare
theorem dL_share_0 : decode cL_share 0 = .ok (.aload_n 0, 1) := by decide +kernel
theorem dL_share_1 : decode cL_share 1 = .ok (.invokevirtual 92, 3) := by decide +kernel
theorem dL_share_4 : decode cL_share 4 = .ok (.freturn, 1) := by decide +kernel
theorem dL_share_5 : decode cL_share 5 = .ok (.astore_n 1, 1) := by decide +kernel
theorem dL_share_6 : decode cL_share 6 = .ok (.ldc 98, 2) := by decide +kernel
theorem dL_share_8 : decode cL_share 8 = .ok (.freturn, 1) := by decide +kernel
set_option maxRecDepth 20000 in
theorem ggL_cases_L_of : GoodIn wsL_cases wsL_of := goodIn_ca (goodIn_ca (goodIn_ca (goodIn_ca (goodIn_r _ [4, 5, 6, 7, 8, 9, 10, 11, 12, 13, 14, 15, 16, 17, 18, 19, 20, 21, 22, 23, 24, 25, 26, 27, 28, 29, 30, 31, 32, 33, 34, 35, 36, 37, 38, 39, 40, 41, 42, 43, 44, 45, 46, 47, 48, 49, 50, 51, 52, 53, 54, 55, 56, 57, 58, 59, 60, 61, 62, 63, 64, 65, 66, 67, 68, 69, 70, 71, 72, 73, 74, 75, 76, 77, 78, 79, 80, 81, 82, 83, 84, 85, 86, 87, 88, 89, 90, 91, 92, 93, 94, 95, 96, 97, 98, 99, 100, 101, 102, 103, 104, 105, 106, 107, 108, 109, 110, 111, 112] (by decide +kernel) (by decide +kernel)) (goodIn_sub (fun _ h => List.mem_cons_of_mem _ (List.mem_append_left _ (List.mem_append_left _ (List.mem_append_left _ (List.mem_append_right _ h))))) (by decide +kernel))) (goodIn_sub (fun _ h => List.mem_cons_of_mem _ (List.mem_append_left _ (List.mem_append_left _ (List.mem_append_right _ h)))) (by decide +kernel))) (goodIn_sub (fun _ h => List.mem_cons_of_mem _ (List.mem_append_left _ (List.mem_append_right _ h))) (by decide +kernel))) (goodIn_sub (fun _ h => List.mem_cons_of_mem _ (List.mem_append_right _ h)) (by decide +kernel))
set_option maxRecDepth 20000 in
theorem gL_cases_L_of : GoodIn wsL_cases (va_wsS RL 105 yL_of wsL_of) := goodIn_app (goodIn_of _ (by decide +kernel)) ggL_cases_L_of
theorem dL_cases_0 : decode cL_cases 0 = .ok (.iconst 0, 1) := by decide +kernel
theorem dL_cases_1 : decode cL_cases 1 = .ok (.istore_n 1, 1) := by decide +kernel
theorem dL_cases_2 : decode cL_cases 2 = .ok (.iload_n 1, 1) := by decide +kernel
theorem dL_cases_3 : decode cL_cases 3 = .ok (.bipush 8, 2) := by decide +kernel
theorem dL_cases_5 : decode cL_cases 5 = .ok (.if_icmp .ge 18, 3) := by decide +kernel
theorem dL_cases_8 : decode cL_cases 8 = .ok (.aload_n 0, 1) := by decide +kernel
theorem dL_cases_9 : decode cL_cases 9 = .ok (.iload_n 1, 1) := by decide +kernel
theorem dL_cases_10 : decode cL_cases 10 = .ok (.iconst 0, 1) := by decide +kernel
theorem dL_cases_11 : decode cL_cases 11 = .ok (.invokestatic 105, 3) := by decide +kernel
theorem dL_cases_14 : decode cL_cases 14 = .ok (.ifCond .lt 9, 3) := by decide +kernel
theorem dL_cases_17 : decode cL_cases 17 = .ok (.iinc 1 1, 3) := by decide +kernel
theorem dL_cases_20 : decode cL_cases 20 = .ok (.goto (-18), 3) := by decide +kernel
theorem dL_cases_23 : decode cL_cases 23 = .ok (.iload_n 1, 1) := by decide +kernel
theorem dL_cases_24 : decode cL_cases 24 = .ok (.ireturn, 1) := by decide +kernel
set_option maxRecDepth 20000 in
theorem ggL_messages_J0_charAt_5068e : GoodIn wsL_messages wsJ0_charAt_5068e := goodIn_r _ [5, 6, 7, 8, 9, 4, 10, 11, 12, 13, 14, 15, 16, 17, 18, 19, 20, 21, 22, 23, 24, 25, 26, 27, 28, 29, 30, 31, 32, 33, 34, 35, 36, 37, 38, 39, 40, 41, 130, 131] (by decide +kernel) (by decide +kernel)
set_option maxRecDepth 20000 in
theorem gL_messages_J0_charAt_5068e : GoodIn wsL_messages (wsV RL 113 RJ0 yJ0_charAt_5068e wsJ0_charAt_5068e) := goodIn_app (goodIn_of _ (by decide +kernel)) ggL_messages_J0_charAt_5068e
set_option maxRecDepth 20000 in
theorem ggL_messages_L_told : GoodIn wsL_messages wsL_told := goodIn_ca (goodIn_ca (goodIn_r _ [45, 46, 47, 48, 49, 50, 51, 52, 53, 54, 55, 56, 57, 58, 59, 60, 61, 62, 63, 64, 65, 66, 67, 68, 69, 70, 71, 72, 73, 74, 75, 76, 77, 78, 79, 80, 81, 82, 83, 84, 85, 86, 87, 88, 89, 90, 91, 92, 93, 94, 95, 96, 97, 98, 99, 100, 101, 102, 103, 104, 105, 106, 107, 108, 109, 110, 111, 112, 113, 114, 115, 116, 117, 118, 119, 120, 121, 122, 123, 124, 125, 126, 127, 128, 129, 132, 133, 134, 135, 136, 137, 138, 139, 140, 141, 142, 143, 144, 145, 146, 147, 148, 149, 150, 151, 152, 153, 154] (by decide +kernel) (by decide +kernel)) (goodIn_sub (fun _ h => List.mem_cons_of_mem _ (List.mem_append_left _ (List.mem_append_right _ h))) (by decide +kernel))) (goodIn_sub (fun _ h => List.mem_cons_of_mem _ (List.mem_append_right _ h)) (by decide +kernel))
set_option maxRecDepth 20000 in
theorem gL_messages_L_told : GoodIn wsL_messages (va_wsS RL 118 yL_told wsL_told) := goodIn_app (goodIn_of _ (by decide +kernel)) ggL_messages_L_told
theorem dL_messages_0 : decode cL_messages 0 = .ok (.iconst 0, 1) := by decide +kernel
theorem dL_messages_1 : decode cL_messages 1 = .ok (.istore_n 1, 1) := by decide +kernel
theorem dL_messages_2 : decode cL_messages 2 = .ok (.iconst 0, 1) := by decide +kernel
theorem dL_messages_3 : decode cL_messages 3 = .ok (.istore_n 2, 1) := by decide +kernel
theorem dL_messages_4 : decode cL_messages 4 = .ok (.iload_n 2, 1) := by decide +kernel
theorem dL_messages_5 : decode cL_messages 5 = .ok (.iconst 5, 1) := by decide +kernel
theorem dL_messages_6 : decode cL_messages 6 = .ok (.if_icmp .ge 24, 3) := by decide +kernel
theorem dL_messages_9 : decode cL_messages 9 = .ok (.iload_n 1, 1) := by decide +kernel
theorem dL_messages_10 : decode cL_messages 10 = .ok (.aload_n 0, 1) := by decide +kernel
theorem dL_messages_11 : decode cL_messages 11 = .ok (.bipush 115, 2) := by decide +kernel
theorem dL_messages_13 : decode cL_messages 13 = .ok (.ldc 111, 2) := by decide +kernel
theorem dL_messages_15 : decode cL_messages 15 = .ok (.iload_n 2, 1) := by decide +kernel
theorem dL_messages_16 : decode cL_messages 16 = .ok (.invokevirtual 113, 3) := by decide +kernel
theorem dL_messages_19 : decode cL_messages 19 = .ok (.invokestatic 118, 3) := by decide +kernel
theorem dL_messages_22 : decode cL_messages 22 = .ok (.iadd, 1) := by decide +kernel
theorem dL_messages_23 : decode cL_messages 23 = .ok (.istore_n 1, 1) := by decide +kernel
theorem dL_messages_24 : decode cL_messages 24 = .ok (.iinc 2 1, 3) := by decide +kernel
theorem dL_messages_27 : decode cL_messages 27 = .ok (.goto (-23), 3) := by decide +kernel
theorem dL_messages_30 : decode cL_messages 30 = .ok (.iload_n 1, 1) := by decide +kernel
theorem dL_messages_31 : decode cL_messages 31 = .ok (.ireturn, 1) := by decide +kernel
set_option maxRecDepth 20000 in
theorem ggL_sum_X2_day : GoodIn wsL_sum wsX2_day := goodIn_r _ [10, 11, 265, 266, 267] (by decide +kernel) (by decide +kernel)
set_option maxRecDepth 20000 in
theorem gL_sum_X2_day : GoodIn wsL_sum (wsV RL 122 RX2 yX2_day wsX2_day) := goodIn_app (goodIn_of _ (by decide +kernel)) ggL_sum_X2_day
set_option maxRecDepth 20000 in
theorem ggL_sum_L_of : GoodIn wsL_sum wsL_of := goodIn_ca (goodIn_ca (goodIn_ca (goodIn_ca (goodIn_r _ [15, 16, 17, 18, 19, 20, 21, 9, 22, 23, 24, 25, 26, 27, 28, 29, 30, 31, 32, 33, 34, 35, 36, 37, 38, 39, 40, 41, 42, 43, 44, 45, 46, 47, 48, 49, 50, 51, 52, 53, 54, 55, 56, 57, 58, 59, 60, 61, 62, 63, 64, 65, 66, 67, 11, 68, 69, 70, 71, 72, 73, 74, 75, 76, 77, 78, 79, 80, 81, 82, 83, 84, 85, 86, 87, 88, 89, 90, 91, 92, 93, 94, 95, 96, 97, 98, 265, 266, 267, 268, 269, 270, 271, 272, 273, 274, 275, 276, 277, 278, 279, 280, 281, 282, 283, 284, 285, 286, 287] (by decide +kernel) (by decide +kernel)) (goodIn_sub (fun _ h => List.mem_cons_of_mem _ (List.mem_append_left _ (List.mem_append_left _ (List.mem_append_left _ (List.mem_append_left _ (List.mem_append_right _ h)))))) (by decide +kernel))) (goodIn_sub (fun _ h => List.mem_cons_of_mem _ (List.mem_append_left _ (List.mem_append_left _ (List.mem_append_left _ (List.mem_append_right _ h))))) (by decide +kernel))) (goodIn_sub (fun _ h => List.mem_cons_of_mem _ (List.mem_append_left _ (List.mem_append_left _ (List.mem_append_right _ h)))) (by decide +kernel))) (goodIn_sub (fun _ h => List.mem_cons_of_mem _ (List.mem_append_left _ (List.mem_append_right _ h))) (by decide +kernel))
set_option maxRecDepth 20000 in
theorem gL_sum_L_of : GoodIn wsL_sum (va_wsS RL 105 yL_of wsL_of) := goodIn_app (goodIn_of _ (by decide +kernel)) ggL_sum_L_of
set_option maxRecDepth 20000 in
theorem ggL_sum_L_messages : GoodIn wsL_sum wsL_messages := goodIn_ca (goodIn_ca (goodIn_r _ [101, 102, 103, 104, 105, 106, 107, 108, 109, 110, 111, 112, 113, 114, 115, 116, 117, 118, 119, 120, 121, 122, 123, 124, 125, 126, 127, 128, 129, 130, 131, 132, 133, 134, 135, 136, 137, 138, 139, 140, 141, 142, 143, 144, 14, 145, 146, 147, 148, 149, 9, 150, 43, 151, 152, 153, 154, 155, 156, 157, 158, 159, 45, 160, 161, 61, 162, 163, 164, 165, 166, 167, 11, 168, 169, 170, 171, 172, 173, 174, 175, 176, 177, 178, 179, 180, 181, 23, 182, 183, 184, 185, 186, 187, 188, 69, 70, 71, 72, 73, 31, 74, 75, 76, 77, 78, 79, 80, 81, 82, 83, 84, 85, 86, 87, 88, 189, 190, 191, 192, 51, 50, 52, 193, 194, 195, 196, 197, 198, 199, 288, 289, 265, 266, 267, 275, 276, 277, 278, 279, 280, 281, 282, 283, 284, 285, 286, 287, 268, 269, 270, 271, 272, 273, 274] (by decide +kernel) (by decide +kernel)) (goodIn_sub (fun _ h => List.mem_cons_of_mem _ (List.mem_append_right _ h)) (by decide +kernel))) (goodIn_sub (fun _ h => List.mem_cons_of_mem _ (List.mem_append_left _ (List.mem_append_left _ (List.mem_append_left _ (List.mem_append_left _ (List.mem_append_right _ h)))))) (by decide +kernel))
set_option maxRecDepth 20000 in
theorem gL_sum_L_messages : GoodIn wsL_sum (va_wsS RL 132 yL_messages wsL_messages) := goodIn_app (goodIn_of _ (by decide +kernel)) ggL_sum_L_messages
set_option maxRecDepth 20000 in
theorem ggL_sum_L_message : GoodIn wsL_sum wsL_message := goodIn_ca (goodIn_ca (goodIn_ca (goodIn_ca (goodIn_r _ [202, 16, 18, 17, 203, 204, 205, 9, 206, 43, 207, 208, 209, 210, 28, 29, 58, 45, 59, 60, 61, 211, 212, 213, 214, 215, 216, 217, 218, 219, 220, 221, 222, 223, 224, 225, 226, 97, 98, 227, 228, 229, 230, 66, 67, 231, 232, 233, 234, 235, 236, 237, 162, 48, 49, 238, 239, 240, 241, 23, 30, 31, 32, 33, 34, 242, 243, 244, 76, 245, 54, 55, 56, 246, 247, 248, 249, 250, 251, 252, 88, 253, 73, 74, 75, 254, 255, 256, 257, 11, 173, 174, 175, 176, 177, 258, 259, 260, 261, 262, 263, 264, 197, 198, 199, 265, 266, 267, 275, 276, 277, 278, 279, 280, 281, 282, 283, 284, 285, 286, 287, 268, 269, 270, 271, 272, 273, 274] (by decide +kernel) (by decide +kernel)) (goodIn_sub (fun _ h => List.mem_cons_of_mem _ (List.mem_append_left _ (List.mem_append_left _ (List.mem_append_left _ (List.mem_append_left _ (List.mem_append_right _ h)))))) (by decide +kernel))) (goodIn_sub (fun _ h => List.mem_cons_of_mem _ (List.mem_append_left _ (List.mem_append_left _ (List.mem_append_left _ (List.mem_append_right _ h))))) (by decide +kernel))) (goodIn_sub (fun _ h => List.mem_cons_of_mem _ (List.mem_append_left _ (List.mem_append_right _ h))) (by decide +kernel))) (goodIn_sub (fun _ h => List.mem_cons_of_mem _ (List.mem_append_left _ (List.mem_append_left _ (List.mem_append_right _ h)))) (by decide +kernel))
set_option maxRecDepth 20000 in
theorem gL_sum_L_message : GoodIn wsL_sum (va_wsS RL 136 yL_message wsL_message) := goodIn_app (goodIn_of _ (by decide +kernel)) ggL_sum_L_message
theorem dL_sum_0 : decode cL_sum 0 = .ok (.aload_n 0, 1) := by decide +kernel
theorem dL_sum_1 : decode cL_sum 1 = .ok (.invokevirtual 122, 3) := by decide +kernel
theorem dL_sum_4 : decode cL_sum 4 = .ok (.i2l, 1) := by decide +kernel
theorem dL_sum_5 : decode cL_sum 5 = .ok (.lstore_n 1, 1) := by decide +kernel
theorem dL_sum_6 : decode cL_sum 6 = .ok (.iconst 0, 1) := by decide +kernel
theorem dL_sum_7 : decode cL_sum 7 = .ok (.istore_n 3, 1) := by decide +kernel
theorem dL_sum_8 : decode cL_sum 8 = .ok (.iload_n 3, 1) := by decide +kernel
theorem dL_sum_9 : decode cL_sum 9 = .ok (.bipush 8, 2) := by decide +kernel
theorem dL_sum_11 : decode cL_sum 11 = .ok (.if_icmp .ge 47, 3) := by decide +kernel
theorem dL_sum_14 : decode cL_sum 14 = .ok (.ldc2_w 126, 3) := by decide +kernel
theorem dL_sum_17 : decode cL_sum 17 = .ok (.lload_n 1, 1) := by decide +kernel
theorem dL_sum_18 : decode cL_sum 18 = .ok (.lmul, 1) := by decide +kernel
theorem dL_sum_19 : decode cL_sum 19 = .ok (.aload_n 0, 1) := by decide +kernel
theorem dL_sum_20 : decode cL_sum 20 = .ok (.iload_n 3, 1) := by decide +kernel
theorem dL_sum_21 : decode cL_sum 21 = .ok (.iconst 0, 1) := by decide +kernel
theorem dL_sum_22 : decode cL_sum 22 = .ok (.invokestatic 105, 3) := by decide +kernel
theorem dL_sum_25 : decode cL_sum 25 = .ok (.i2l, 1) := by decide +kernel
theorem dL_sum_26 : decode cL_sum 26 = .ok (.ladd, 1) := by decide +kernel
theorem dL_sum_27 : decode cL_sum 27 = .ok (.ldc2_w 128, 3) := by decide +kernel
theorem dL_sum_30 : decode cL_sum 30 = .ok (.aload_n 0, 1) := by decide +kernel
theorem dL_sum_31 : decode cL_sum 31 = .ok (.iload_n 3, 1) := by decide +kernel
theorem dL_sum_32 : decode cL_sum 32 = .ok (.iconst 1, 1) := by decide +kernel
theorem dL_sum_33 : decode cL_sum 33 = .ok (.invokestatic 105, 3) := by decide +kernel
theorem dL_sum_36 : decode cL_sum 36 = .ok (.i2l, 1) := by decide +kernel
theorem dL_sum_37 : decode cL_sum 37 = .ok (.lmul, 1) := by decide +kernel
theorem dL_sum_38 : decode cL_sum 38 = .ok (.ladd, 1) := by decide +kernel
theorem dL_sum_39 : decode cL_sum 39 = .ok (.ldc2_w 130, 3) := by decide +kernel
theorem dL_sum_42 : decode cL_sum 42 = .ok (.aload_n 0, 1) := by decide +kernel
theorem dL_sum_43 : decode cL_sum 43 = .ok (.iload_n 3, 1) := by decide +kernel
theorem dL_sum_44 : decode cL_sum 44 = .ok (.iconst 3, 1) := by decide +kernel
theorem dL_sum_45 : decode cL_sum 45 = .ok (.invokestatic 105, 3) := by decide +kernel
theorem dL_sum_48 : decode cL_sum 48 = .ok (.i2l, 1) := by decide +kernel
theorem dL_sum_49 : decode cL_sum 49 = .ok (.lmul, 1) := by decide +kernel
theorem dL_sum_50 : decode cL_sum 50 = .ok (.ladd, 1) := by decide +kernel
theorem dL_sum_51 : decode cL_sum 51 = .ok (.lstore_n 1, 1) := by decide +kernel
theorem dL_sum_52 : decode cL_sum 52 = .ok (.iinc 3 1, 3) := by decide +kernel
theorem dL_sum_55 : decode cL_sum 55 = .ok (.goto (-47), 3) := by decide +kernel
theorem dL_sum_58 : decode cL_sum 58 = .ok (.aload_n 0, 1) := by decide +kernel
theorem dL_sum_59 : decode cL_sum 59 = .ok (.invokestatic 132, 3) := by decide +kernel
theorem dL_sum_62 : decode cL_sum 62 = .ok (.istore_n 3, 1) := by decide +kernel
theorem dL_sum_63 : decode cL_sum 63 = .ok (.iconst 0, 1) := by decide +kernel
theorem dL_sum_64 : decode cL_sum 64 = .ok (.istore 4, 2) := by decide +kernel
theorem dL_sum_66 : decode cL_sum 66 = .ok (.iload 4, 2) := by decide +kernel
theorem dL_sum_68 : decode cL_sum 68 = .ok (.iload_n 3, 1) := by decide +kernel
theorem dL_sum_69 : decode cL_sum 69 = .ok (.if_icmp .ge 76, 3) := by decide +kernel
theorem dL_sum_72 : decode cL_sum 72 = .ok (.ldc2_w 126, 3) := by decide +kernel
theorem dL_sum_75 : decode cL_sum 75 = .ok (.lload_n 1, 1) := by decide +kernel
theorem dL_sum_76 : decode cL_sum 76 = .ok (.lmul, 1) := by decide +kernel
theorem dL_sum_77 : decode cL_sum 77 = .ok (.aload_n 0, 1) := by decide +kernel
theorem dL_sum_78 : decode cL_sum 78 = .ok (.iload 4, 2) := by decide +kernel
theorem dL_sum_80 : decode cL_sum 80 = .ok (.iconst 0, 1) := by decide +kernel
theorem dL_sum_81 : decode cL_sum 81 = .ok (.invokestatic 136, 3) := by decide +kernel
theorem dL_sum_84 : decode cL_sum 84 = .ok (.i2l, 1) := by decide +kernel
theorem dL_sum_85 : decode cL_sum 85 = .ok (.ladd, 1) := by decide +kernel
theorem dL_sum_86 : decode cL_sum 86 = .ok (.ldc2_w 128, 3) := by decide +kernel
theorem dL_sum_89 : decode cL_sum 89 = .ok (.aload_n 0, 1) := by decide +kernel
theorem dL_sum_90 : decode cL_sum 90 = .ok (.iload 4, 2) := by decide +kernel
theorem dL_sum_92 : decode cL_sum 92 = .ok (.iconst 1, 1) := by decide +kernel
theorem dL_sum_93 : decode cL_sum 93 = .ok (.invokestatic 136, 3) := by decide +kernel
theorem dL_sum_96 : decode cL_sum 96 = .ok (.i2l, 1) := by decide +kernel
theorem dL_sum_97 : decode cL_sum 97 = .ok (.lmul, 1) := by decide +kernel
theorem dL_sum_98 : decode cL_sum 98 = .ok (.ladd, 1) := by decide +kernel
theorem dL_sum_99 : decode cL_sum 99 = .ok (.ldc2_w 130, 3) := by decide +kernel
theorem dL_sum_102 : decode cL_sum 102 = .ok (.aload_n 0, 1) := by decide +kernel
theorem dL_sum_103 : decode cL_sum 103 = .ok (.iload 4, 2) := by decide +kernel
theorem dL_sum_105 : decode cL_sum 105 = .ok (.iconst 2, 1) := by decide +kernel
theorem dL_sum_106 : decode cL_sum 106 = .ok (.invokestatic 136, 3) := by decide +kernel
theorem dL_sum_109 : decode cL_sum 109 = .ok (.i2l, 1) := by decide +kernel
theorem dL_sum_110 : decode cL_sum 110 = .ok (.lmul, 1) := by decide +kernel
theorem dL_sum_111 : decode cL_sum 111 = .ok (.ladd, 1) := by decide +kernel
theorem dL_sum_112 : decode cL_sum 112 = .ok (.ldc2_w 139, 3) := by decide +kernel
theorem dL_sum_115 : decode cL_sum 115 = .ok (.aload_n 0, 1) := by decide +kernel
theorem dL_sum_116 : decode cL_sum 116 = .ok (.iload 4, 2) := by decide +kernel
theorem dL_sum_118 : decode cL_sum 118 = .ok (.iconst 3, 1) := by decide +kernel
theorem dL_sum_119 : decode cL_sum 119 = .ok (.invokestatic 136, 3) := by decide +kernel
theorem dL_sum_122 : decode cL_sum 122 = .ok (.i2l, 1) := by decide +kernel
theorem dL_sum_123 : decode cL_sum 123 = .ok (.lmul, 1) := by decide +kernel
theorem dL_sum_124 : decode cL_sum 124 = .ok (.ladd, 1) := by decide +kernel
theorem dL_sum_125 : decode cL_sum 125 = .ok (.ldc2_w 141, 3) := by decide +kernel
theorem dL_sum_128 : decode cL_sum 128 = .ok (.aload_n 0, 1) := by decide +kernel
theorem dL_sum_129 : decode cL_sum 129 = .ok (.iload 4, 2) := by decide +kernel
theorem dL_sum_131 : decode cL_sum 131 = .ok (.iconst 4, 1) := by decide +kernel
theorem dL_sum_132 : decode cL_sum 132 = .ok (.invokestatic 136, 3) := by decide +kernel
theorem dL_sum_135 : decode cL_sum 135 = .ok (.i2l, 1) := by decide +kernel
theorem dL_sum_136 : decode cL_sum 136 = .ok (.lmul, 1) := by decide +kernel
theorem dL_sum_137 : decode cL_sum 137 = .ok (.ladd, 1) := by decide +kernel
theorem dL_sum_138 : decode cL_sum 138 = .ok (.lstore_n 1, 1) := by decide +kernel
theorem dL_sum_139 : decode cL_sum 139 = .ok (.iinc 4 1, 3) := by decide +kernel
theorem dL_sum_142 : decode cL_sum 142 = .ok (.goto (-76), 3) := by decide +kernel
theorem dL_sum_145 : decode cL_sum 145 = .ok (.ldc2_w 126, 3) := by decide +kernel
theorem dL_sum_148 : decode cL_sum 148 = .ok (.lload_n 1, 1) := by decide +kernel
theorem dL_sum_149 : decode cL_sum 149 = .ok (.lmul, 1) := by decide +kernel
theorem dL_sum_150 : decode cL_sum 150 = .ok (.iload_n 3, 1) := by decide +kernel
theorem dL_sum_151 : decode cL_sum 151 = .ok (.i2l, 1) := by decide +kernel
theorem dL_sum_152 : decode cL_sum 152 = .ok (.ladd, 1) := by decide +kernel
theorem dL_sum_153 : decode cL_sum 153 = .ok (.lreturn, 1) := by decide +kernel
set_option maxRecDepth 20000 in
theorem ggL_isSound_L_messages : GoodIn wsL_isSound wsL_messages := goodIn_ca (goodIn_ca (goodIn_r _ [5, 6, 7, 8, 9, 10, 11, 12, 13, 14, 15, 16, 17, 18, 19, 20, 21, 22, 23, 24, 25, 26, 27, 28, 29, 30, 31, 32, 33, 34, 35, 36, 37, 38, 39, 40, 41, 42, 43, 44, 45, 46, 47, 48, 4, 49, 50, 51, 52, 53, 54, 55, 56, 57, 58, 59, 60, 61, 62, 63, 64, 65, 66, 67, 68, 69, 70, 71, 72, 73, 74, 75, 76, 77, 78, 79, 80, 81, 82, 83, 84, 85, 86, 87, 88, 89, 90, 91, 92, 93, 94, 95, 96, 97, 98, 99, 100, 101, 102, 103, 104, 105, 106, 107, 108, 109, 110, 111, 112, 113, 114, 115, 116, 117, 118, 119, 120, 121, 122, 123, 124, 125, 126, 127, 128, 129, 130, 131, 132, 133, 309, 310, 311, 312, 313, 314, 315, 316, 317, 318, 319, 320, 321, 322, 323, 324, 325, 326, 327, 328, 329, 330, 331, 332, 333] (by decide +kernel) (by decide +kernel)) (goodIn_sub (fun _ h => List.mem_cons_of_mem _ (List.mem_append_left _ (List.mem_append_left _ (List.mem_append_left _ (List.mem_append_left _ (List.mem_append_left _ (List.mem_append_right _ h))))))) (by decide +kernel))) (goodIn_sub (fun _ h => List.mem_cons_of_mem _ (List.mem_append_left _ (List.mem_append_left _ (List.mem_append_left _ (List.mem_append_left _ (List.mem_append_right _ h)))))) (by decide +kernel))
set_option maxRecDepth 20000 in
theorem gL_isSound_L_messages : GoodIn wsL_isSound (va_wsS RL 132 yL_messages wsL_messages) := goodIn_app (goodIn_of _ (by decide +kernel)) ggL_isSound_L_messages
set_option maxRecDepth 20000 in
theorem ggL_isSound_L_cases : GoodIn wsL_isSound wsL_cases := goodIn_ca (goodIn_ca (goodIn_ca (goodIn_ca (goodIn_r _ [136, 137, 138, 4, 139, 140, 141, 142, 143, 144, 145, 54, 146, 91, 147, 148, 149, 150, 151, 152, 153, 104, 154, 155, 156, 157, 158, 159, 160, 161, 162, 163, 164, 56, 165, 66, 166, 167, 168, 169, 125, 124, 126, 170, 171, 172, 173, 174, 175, 176, 177, 69, 178, 179, 180, 181, 182, 183, 76, 184, 99, 100, 101, 102, 103, 105, 106, 107, 108, 109, 110, 111, 112, 113, 114, 115, 116, 117, 118, 119, 185, 186, 187, 188, 189, 190, 191, 192, 193, 194, 311, 312, 313, 327, 328, 329, 330, 331, 332, 333, 314, 315, 316, 317, 318, 319, 320, 321, 322, 323, 324, 325, 326] (by decide +kernel) (by decide +kernel)) (goodIn_sub (fun _ h => List.mem_cons_of_mem _ (List.mem_append_left _ (List.mem_append_left _ (List.mem_append_left _ (List.mem_append_left _ (List.mem_append_right _ h)))))) (by decide +kernel))) (goodIn_sub (fun _ h => List.mem_cons_of_mem _ (List.mem_append_left _ (List.mem_append_left _ (List.mem_append_left _ (List.mem_append_right _ h))))) (by decide +kernel))) (goodIn_sub (fun _ h => List.mem_cons_of_mem _ (List.mem_append_left _ (List.mem_append_left _ (List.mem_append_right _ h)))) (by decide +kernel))) (goodIn_sub (fun _ h => List.mem_cons_of_mem _ (List.mem_append_left _ (List.mem_append_right _ h))) (by decide +kernel))
set_option maxRecDepth 20000 in
theorem gL_isSound_L_cases : GoodIn wsL_isSound (va_wsS RL 143 yL_cases wsL_cases) := goodIn_app (goodIn_of _ (by decide +kernel)) ggL_isSound_L_cases
set_option maxRecDepth 20000 in
theorem ggL_isSound_L_message : GoodIn wsL_isSound wsL_message := goodIn_ca (goodIn_ca (goodIn_ca (goodIn_ca (goodIn_r _ [197, 140, 142, 141, 198, 199, 200, 54, 201, 56, 202, 203, 204, 205, 151, 152, 175, 66, 176, 177, 69, 206, 207, 208, 209, 210, 211, 212, 213, 214, 215, 216, 217, 218, 219, 220, 221, 193, 194, 222, 223, 224, 225, 182, 183, 226, 227, 228, 229, 230, 231, 232, 70, 168, 169, 233, 234, 235, 236, 91, 153, 104, 154, 155, 156, 237, 238, 239, 107, 240, 171, 172, 173, 241, 242, 243, 244, 245, 246, 247, 119, 248, 103, 105, 106, 249, 250, 251, 252, 76, 82, 83, 84, 85, 86, 253, 254, 255, 256, 257, 258, 259, 131, 132, 133, 311, 312, 313, 314, 315, 316, 317, 318, 319, 320, 321, 322, 323, 324, 325, 326, 327, 328, 329, 330, 331, 332, 333] (by decide +kernel) (by decide +kernel)) (goodIn_sub (fun _ h => List.mem_cons_of_mem _ (List.mem_append_left _ (List.mem_append_left _ (List.mem_append_left _ (List.mem_append_left _ (List.mem_append_right _ h)))))) (by decide +kernel))) (goodIn_sub (fun _ h => List.mem_cons_of_mem _ (List.mem_append_left _ (List.mem_append_left _ (List.mem_append_left _ (List.mem_append_right _ h))))) (by decide +kernel))) (goodIn_sub (fun _ h => List.mem_cons_of_mem _ (List.mem_append_left _ (List.mem_append_right _ h))) (by decide +kernel))) (goodIn_sub (fun _ h => List.mem_cons_of_mem _ (List.mem_append_left _ (List.mem_append_left _ (List.mem_append_right _ h)))) (by decide +kernel))
set_option maxRecDepth 20000 in
theorem gL_isSound_L_message : GoodIn wsL_isSound (va_wsS RL 136 yL_message wsL_message) := goodIn_app (goodIn_of _ (by decide +kernel)) ggL_isSound_L_message
set_option maxRecDepth 20000 in
theorem ggL_isSound_L_told : GoodIn wsL_isSound wsL_told := goodIn_ca (goodIn_ca (goodIn_r _ [49, 50, 51, 52, 53, 54, 55, 56, 57, 58, 59, 60, 61, 62, 63, 64, 65, 66, 67, 68, 69, 70, 71, 72, 73, 74, 75, 76, 77, 78, 79, 80, 81, 82, 83, 84, 85, 86, 87, 88, 89, 90, 91, 92, 93, 94, 95, 96, 97, 98, 99, 100, 101, 102, 103, 104, 105, 106, 107, 108, 109, 110, 111, 112, 113, 114, 115, 116, 117, 118, 119, 120, 121, 122, 123, 124, 125, 126, 127, 128, 129, 130, 131, 132, 133, 311, 312, 313, 314, 315, 316, 317, 318, 319, 320, 321, 322, 323, 324, 325, 326, 327, 328, 329, 330, 331, 332, 333] (by decide +kernel) (by decide +kernel)) (goodIn_sub (fun _ h => List.mem_cons_of_mem _ (List.mem_append_left _ (List.mem_append_left _ (List.mem_append_left _ (List.mem_append_left _ (List.mem_append_left _ (List.mem_append_right _ h))))))) (by decide +kernel))) (goodIn_sub (fun _ h => List.mem_cons_of_mem _ (List.mem_append_left _ (List.mem_append_left _ (List.mem_append_left _ (List.mem_append_left _ (List.mem_append_right _ h)))))) (by decide +kernel))
set_option maxRecDepth 20000 in
theorem gL_isSound_L_told : GoodIn wsL_isSound (va_wsS RL 118 yL_told wsL_told) := goodIn_app (goodIn_of _ (by decide +kernel)) ggL_isSound_L_told
set_option maxRecDepth 20000 in
theorem ggL_isSound_L_ready : GoodIn wsL_isSound wsL_ready := goodIn_ca (goodIn_ca (goodIn_ca (goodIn_r _ [262, 50, 141, 263, 264, 265, 54, 266, 56, 76, 267, 268, 269, 60, 61, 62, 63, 64, 270, 66, 271, 272, 69, 273, 274, 275, 276, 123, 70, 86, 277, 278, 279, 280, 182, 183, 281, 282, 283, 284, 285, 286, 287, 311, 312, 313, 314, 315, 316, 317, 318, 319, 320, 321, 322, 323, 324, 325, 326] (by decide +kernel) (by decide +kernel)) (goodIn_sub (fun _ h => List.mem_cons_of_mem _ (List.mem_append_left _ (List.mem_append_left _ (List.mem_append_left _ (List.mem_append_left _ (List.mem_append_left _ (List.mem_append_right _ h))))))) (by decide +kernel))) (goodIn_sub (fun _ h => List.mem_cons_of_mem _ (List.mem_append_left _ (List.mem_append_left _ (List.mem_append_left _ (List.mem_append_left _ (List.mem_append_right _ h)))))) (by decide +kernel))) (goodIn_sub (fun _ h => List.mem_cons_of_mem _ (List.mem_append_left _ (List.mem_append_left _ (List.mem_append_right _ h)))) (by decide +kernel))
set_option maxRecDepth 20000 in
theorem gL_isSound_L_ready : GoodIn wsL_isSound (va_wsS RL 146 yL_ready wsL_ready) := goodIn_app (goodIn_of _ (by decide +kernel)) ggL_isSound_L_ready
set_option maxRecDepth 20000 in
theorem ggL_isSound_X2_day : GoodIn wsL_isSound wsX2_day := goodIn_r _ [291, 76, 311, 312, 313] (by decide +kernel) (by decide +kernel)
set_option maxRecDepth 20000 in
theorem gL_isSound_X2_day : GoodIn wsL_isSound (wsV RL 122 RX2 yX2_day wsX2_day) := goodIn_app (goodIn_of _ (by decide +kernel)) ggL_isSound_X2_day
set_option maxRecDepth 20000 in
theorem ggL_isSound_L_of : GoodIn wsL_isSound wsL_of := goodIn_ca (goodIn_ca (goodIn_ca (goodIn_ca (goodIn_r _ [139, 140, 141, 142, 143, 144, 145, 54, 146, 91, 147, 148, 149, 150, 151, 152, 153, 104, 154, 155, 156, 157, 158, 159, 160, 161, 162, 163, 164, 56, 165, 66, 166, 167, 168, 169, 125, 124, 126, 170, 171, 172, 173, 174, 175, 176, 177, 69, 178, 179, 180, 181, 182, 183, 76, 184, 99, 100, 101, 102, 103, 105, 106, 107, 108, 109, 110, 111, 112, 113, 114, 115, 116, 117, 118, 119, 185, 186, 187, 188, 189, 190, 191, 192, 193, 194, 311, 312, 313, 327, 328, 329, 330, 331, 332, 333, 314, 315, 316, 317, 318, 319, 320, 321, 322, 323, 324, 325, 326] (by decide +kernel) (by decide +kernel)) (goodIn_sub (fun _ h => List.mem_cons_of_mem _ (List.mem_append_left _ (List.mem_append_left _ (List.mem_append_left _ (List.mem_append_left _ (List.mem_append_right _ h)))))) (by decide +kernel))) (goodIn_sub (fun _ h => List.mem_cons_of_mem _ (List.mem_append_left _ (List.mem_append_left _ (List.mem_append_left _ (List.mem_append_right _ h))))) (by decide +kernel))) (goodIn_sub (fun _ h => List.mem_cons_of_mem _ (List.mem_append_left _ (List.mem_append_left _ (List.mem_append_right _ h)))) (by decide +kernel))) (goodIn_sub (fun _ h => List.mem_cons_of_mem _ (List.mem_append_left _ (List.mem_append_right _ h))) (by decide +kernel))
set_option maxRecDepth 20000 in
theorem gL_isSound_L_of : GoodIn wsL_isSound (va_wsS RL 105 yL_of wsL_of) := goodIn_app (goodIn_of _ (by decide +kernel)) ggL_isSound_L_of
set_option maxRecDepth 20000 in
theorem ggL_isSound_L_withKey : GoodIn wsL_isSound wsL_withKey := goodIn_ca (goodIn_ca (goodIn_r _ [294, 141, 295, 296, 297, 54, 298, 182, 183, 56, 111, 66, 112, 113, 69, 114, 311, 312, 313, 314, 315, 316, 317, 318, 319, 320, 321, 322, 323, 324, 325, 326] (by decide +kernel) (by decide +kernel)) (goodIn_sub (fun _ h => List.mem_cons_of_mem _ (List.mem_append_left _ (List.mem_append_left _ (List.mem_append_right _ h)))) (by decide +kernel))) (goodIn_sub (fun _ h => List.mem_cons_of_mem _ (List.mem_append_left _ (List.mem_append_left _ (List.mem_append_left _ (List.mem_append_left _ (List.mem_append_right _ h)))))) (by decide +kernel))
set_option maxRecDepth 20000 in
theorem gL_isSound_L_withKey : GoodIn wsL_isSound (va_wsS RL 148 yL_withKey wsL_withKey) := goodIn_app (goodIn_of _ (by decide +kernel)) ggL_isSound_L_withKey
set_option maxRecDepth 20000 in
theorem ggL_isSound_L_share : GoodIn wsL_isSound wsL_share := goodIn_ca (goodIn_ca (goodIn_r _ [301, 302, 1, 303, 304, 305, 54, 306, 307, 308, 56, 131, 66, 132, 133, 69, 70, 311, 312, 313, 314, 315, 316, 317, 318, 319, 320, 321, 322, 323, 324, 325, 326] (by rfl) (by decide +kernel)) (goodIn_sub (fun _ h => List.mem_cons_of_mem _ (List.mem_append_right _ h)) (by decide +kernel))) (goodIn_sub (fun _ h => List.mem_cons_of_mem _ (List.mem_append_left _ (List.mem_append_left _ (List.mem_append_left _ (List.mem_append_left _ (List.mem_append_right _ h)))))) (by decide +kernel))
set_option maxRecDepth 20000 in
theorem gL_isSound_L_share : GoodIn wsL_isSound (va_wsS RL 151 yL_share wsL_share) := goodIn_app (goodIn_of _ (by decide +kernel)) ggL_isSound_L_share
theorem dL_isSound_0 : decode cL_isSound 0 = .ok (.aload_n 0, 1) := by decide +kernel
theorem dL_isSound_1 : decode cL_isSound 1 = .ok (.invokestatic 132, 3) := by decide +kernel
theorem dL_isSound_4 : decode cL_isSound 4 = .ok (.istore_n 1, 1) := by decide +kernel
theorem dL_isSound_5 : decode cL_isSound 5 = .ok (.aload_n 0, 1) := by decide +kernel
theorem dL_isSound_6 : decode cL_isSound 6 = .ok (.invokestatic 143, 3) := by decide +kernel
theorem dL_isSound_9 : decode cL_isSound 9 = .ok (.istore_n 2, 1) := by decide +kernel
theorem dL_isSound_10 : decode cL_isSound 10 = .ok (.iload_n 1, 1) := by decide +kernel
theorem dL_isSound_11 : decode cL_isSound 11 = .ok (.bipush 80, 2) := by decide +kernel
theorem dL_isSound_13 : decode cL_isSound 13 = .ok (.if_icmp .gt 30, 3) := by decide +kernel
theorem dL_isSound_16 : decode cL_isSound 16 = .ok (.iload_n 1, 1) := by decide +kernel
theorem dL_isSound_17 : decode cL_isSound 17 = .ok (.ifCond .le 14, 3) := by decide +kernel
theorem dL_isSound_20 : decode cL_isSound 20 = .ok (.aload_n 0, 1) := by decide +kernel
theorem dL_isSound_21 : decode cL_isSound 21 = .ok (.iload_n 1, 1) := by decide +kernel
theorem dL_isSound_22 : decode cL_isSound 22 = .ok (.iconst 1, 1) := by decide +kernel
theorem dL_isSound_23 : decode cL_isSound 23 = .ok (.isub, 1) := by decide +kernel
theorem dL_isSound_24 : decode cL_isSound 24 = .ok (.iconst 0, 1) := by decide +kernel
theorem dL_isSound_25 : decode cL_isSound 25 = .ok (.invokestatic 136, 3) := by decide +kernel
theorem dL_isSound_28 : decode cL_isSound 28 = .ok (.ifCond .lt 15, 3) := by decide +kernel
theorem dL_isSound_31 : decode cL_isSound 31 = .ok (.aload_n 0, 1) := by decide +kernel
theorem dL_isSound_32 : decode cL_isSound 32 = .ok (.iload_n 1, 1) := by decide +kernel
theorem dL_isSound_33 : decode cL_isSound 33 = .ok (.iconst 0, 1) := by decide +kernel
theorem dL_isSound_34 : decode cL_isSound 34 = .ok (.invokestatic 136, 3) := by decide +kernel
theorem dL_isSound_37 : decode cL_isSound 37 = .ok (.sipush (-1001), 3) := by decide +kernel
theorem dL_isSound_40 : decode cL_isSound 40 = .ok (.if_icmp .eq 5, 3) := by decide +kernel
theorem dL_isSound_43 : decode cL_isSound 43 = .ok (.iconst 0, 1) := by decide +kernel
theorem dL_isSound_44 : decode cL_isSound 44 = .ok (.ireturn, 1) := by decide +kernel
theorem dL_isSound_45 : decode cL_isSound 45 = .ok (.iconst 0, 1) := by decide +kernel
theorem dL_isSound_46 : decode cL_isSound 46 = .ok (.istore_n 3, 1) := by decide +kernel
theorem dL_isSound_47 : decode cL_isSound 47 = .ok (.iconst 0, 1) := by decide +kernel
theorem dL_isSound_48 : decode cL_isSound 48 = .ok (.istore 4, 2) := by decide +kernel
theorem dL_isSound_50 : decode cL_isSound 50 = .ok (.iload 4, 2) := by decide +kernel
theorem dL_isSound_52 : decode cL_isSound 52 = .ok (.iconst 4, 1) := by decide +kernel
theorem dL_isSound_53 : decode cL_isSound 53 = .ok (.if_icmp .ge 37, 3) := by decide +kernel
theorem dL_isSound_56 : decode cL_isSound 56 = .ok (.aload_n 0, 1) := by decide +kernel
theorem dL_isSound_57 : decode cL_isSound 57 = .ok (.bipush 99, 2) := by decide +kernel
theorem dL_isSound_59 : decode cL_isSound 59 = .ok (.iload 4, 2) := by decide +kernel
theorem dL_isSound_61 : decode cL_isSound 61 = .ok (.invokestatic 118, 3) := by decide +kernel
theorem dL_isSound_64 : decode cL_isSound 64 = .ok (.istore 5, 2) := by decide +kernel
theorem dL_isSound_66 : decode cL_isSound 66 = .ok (.iload_n 3, 1) := by decide +kernel
theorem dL_isSound_67 : decode cL_isSound 67 = .ok (.iload 5, 2) := by decide +kernel
theorem dL_isSound_69 : decode cL_isSound 69 = .ok (.iadd, 1) := by decide +kernel
theorem dL_isSound_70 : decode cL_isSound 70 = .ok (.istore_n 3, 1) := by decide +kernel
theorem dL_isSound_71 : decode cL_isSound 71 = .ok (.iload 5, 2) := by decide +kernel
theorem dL_isSound_73 : decode cL_isSound 73 = .ok (.ifCond .lt 9, 3) := by decide +kernel
theorem dL_isSound_76 : decode cL_isSound 76 = .ok (.iload 5, 2) := by decide +kernel
theorem dL_isSound_78 : decode cL_isSound 78 = .ok (.iconst 2, 1) := by decide +kernel
theorem dL_isSound_79 : decode cL_isSound 79 = .ok (.if_icmp .le 5, 3) := by decide +kernel
theorem dL_isSound_82 : decode cL_isSound 82 = .ok (.iconst 0, 1) := by decide +kernel
theorem dL_isSound_83 : decode cL_isSound 83 = .ok (.ireturn, 1) := by decide +kernel
theorem dL_isSound_84 : decode cL_isSound 84 = .ok (.iinc 4 1, 3) := by decide +kernel
theorem dL_isSound_87 : decode cL_isSound 87 = .ok (.goto (-37), 3) := by decide +kernel
theorem dL_isSound_90 : decode cL_isSound 90 = .ok (.iconst 0, 1) := by decide +kernel
theorem dL_isSound_91 : decode cL_isSound 91 = .ok (.istore 4, 2) := by decide +kernel
theorem dL_isSound_93 : decode cL_isSound 93 = .ok (.iload 4, 2) := by decide +kernel
theorem dL_isSound_95 : decode cL_isSound 95 = .ok (.iload_n 1, 1) := by decide +kernel
theorem dL_isSound_96 : decode cL_isSound 96 = .ok (.if_icmp .ge 162, 3) := by decide +kernel
theorem dL_isSound_99 : decode cL_isSound 99 = .ok (.aload_n 0, 1) := by decide +kernel
theorem dL_isSound_100 : decode cL_isSound 100 = .ok (.iload 4, 2) := by decide +kernel
theorem dL_isSound_102 : decode cL_isSound 102 = .ok (.iconst 0, 1) := by decide +kernel
theorem dL_isSound_103 : decode cL_isSound 103 = .ok (.invokestatic 136, 3) := by decide +kernel
theorem dL_isSound_106 : decode cL_isSound 106 = .ok (.istore 5, 2) := by decide +kernel
theorem dL_isSound_108 : decode cL_isSound 108 = .ok (.aload_n 0, 1) := by decide +kernel
theorem dL_isSound_109 : decode cL_isSound 109 = .ok (.iload 4, 2) := by decide +kernel
theorem dL_isSound_111 : decode cL_isSound 111 = .ok (.iconst 1, 1) := by decide +kernel
theorem dL_isSound_112 : decode cL_isSound 112 = .ok (.invokestatic 136, 3) := by decide +kernel
theorem dL_isSound_115 : decode cL_isSound 115 = .ok (.istore 6, 2) := by decide +kernel
theorem dL_isSound_117 : decode cL_isSound 117 = .ok (.aload_n 0, 1) := by decide +kernel
theorem dL_isSound_118 : decode cL_isSound 118 = .ok (.iload 4, 2) := by decide +kernel
theorem dL_isSound_120 : decode cL_isSound 120 = .ok (.iconst 2, 1) := by decide +kernel
theorem dL_isSound_121 : decode cL_isSound 121 = .ok (.invokestatic 136, 3) := by decide +kernel
theorem dL_isSound_124 : decode cL_isSound 124 = .ok (.ifCond .lt 126, 3) := by decide +kernel
theorem dL_isSound_127 : decode cL_isSound 127 = .ok (.aload_n 0, 1) := by decide +kernel
theorem dL_isSound_128 : decode cL_isSound 128 = .ok (.iload 4, 2) := by decide +kernel
theorem dL_isSound_130 : decode cL_isSound 130 = .ok (.iconst 2, 1) := by decide +kernel
theorem dL_isSound_131 : decode cL_isSound 131 = .ok (.invokestatic 136, 3) := by decide +kernel
theorem dL_isSound_134 : decode cL_isSound 134 = .ok (.iconst 3, 1) := by decide +kernel
theorem dL_isSound_135 : decode cL_isSound 135 = .ok (.if_icmp .gt 115, 3) := by decide +kernel
theorem dL_isSound_138 : decode cL_isSound 138 = .ok (.iload 5, 2) := by decide +kernel
theorem dL_isSound_140 : decode cL_isSound 140 = .ok (.bipush 120, 2) := by decide +kernel
theorem dL_isSound_142 : decode cL_isSound 142 = .ok (.if_icmp .ne 7, 3) := by decide +kernel
theorem dL_isSound_145 : decode cL_isSound 145 = .ok (.iconst 1, 1) := by decide +kernel
theorem dL_isSound_146 : decode cL_isSound 146 = .ok (.goto 4, 3) := by decide +kernel
theorem dL_isSound_149 : decode cL_isSound 149 = .ok (.iconst 0, 1) := by decide +kernel
theorem dL_isSound_150 : decode cL_isSound 150 = .ok (.aload_n 0, 1) := by decide +kernel
theorem dL_isSound_151 : decode cL_isSound 151 = .ok (.iload 4, 2) := by decide +kernel
theorem dL_isSound_153 : decode cL_isSound 153 = .ok (.iconst 2, 1) := by decide +kernel
theorem dL_isSound_154 : decode cL_isSound 154 = .ok (.invokestatic 136, 3) := by decide +kernel
theorem dL_isSound_157 : decode cL_isSound 157 = .ok (.iconst 3, 1) := by decide +kernel
theorem dL_isSound_158 : decode cL_isSound 158 = .ok (.if_icmp .ne 7, 3) := by decide +kernel
theorem dL_isSound_161 : decode cL_isSound 161 = .ok (.iconst 1, 1) := by decide +kernel
theorem dL_isSound_162 : decode cL_isSound 162 = .ok (.goto 4, 3) := by decide +kernel
theorem dL_isSound_165 : decode cL_isSound 165 = .ok (.iconst 0, 1) := by decide +kernel
theorem dL_isSound_166 : decode cL_isSound 166 = .ok (.if_icmp .ne 84, 3) := by decide +kernel
theorem dL_isSound_169 : decode cL_isSound 169 = .ok (.iload 5, 2) := by decide +kernel
theorem dL_isSound_171 : decode cL_isSound 171 = .ok (.bipush 119, 2) := by decide +kernel
theorem dL_isSound_173 : decode cL_isSound 173 = .ok (.if_icmp .ne 7, 3) := by decide +kernel
theorem dL_isSound_176 : decode cL_isSound 176 = .ok (.iconst 1, 1) := by decide +kernel
theorem dL_isSound_177 : decode cL_isSound 177 = .ok (.goto 4, 3) := by decide +kernel
theorem dL_isSound_180 : decode cL_isSound 180 = .ok (.iconst 0, 1) := by decide +kernel
theorem dL_isSound_181 : decode cL_isSound 181 = .ok (.aload_n 0, 1) := by decide +kernel
theorem dL_isSound_182 : decode cL_isSound 182 = .ok (.iload 4, 2) := by decide +kernel
theorem dL_isSound_184 : decode cL_isSound 184 = .ok (.iconst 3, 1) := by decide +kernel
theorem dL_isSound_185 : decode cL_isSound 185 = .ok (.invokestatic 136, 3) := by decide +kernel
theorem dL_isSound_188 : decode cL_isSound 188 = .ok (.ifCond .lt 7, 3) := by decide +kernel
theorem dL_isSound_191 : decode cL_isSound 191 = .ok (.iconst 1, 1) := by decide +kernel
theorem dL_isSound_192 : decode cL_isSound 192 = .ok (.goto 4, 3) := by decide +kernel
theorem dL_isSound_195 : decode cL_isSound 195 = .ok (.iconst 0, 1) := by decide +kernel
theorem dL_isSound_196 : decode cL_isSound 196 = .ok (.if_icmp .ne 54, 3) := by decide +kernel
theorem dL_isSound_199 : decode cL_isSound 199 = .ok (.iload 5, 2) := by decide +kernel
theorem dL_isSound_201 : decode cL_isSound 201 = .ok (.bipush 116, 2) := by decide +kernel
theorem dL_isSound_203 : decode cL_isSound 203 = .ok (.if_icmp .ne 7, 3) := by decide +kernel
theorem dL_isSound_206 : decode cL_isSound 206 = .ok (.iconst 1, 1) := by decide +kernel
theorem dL_isSound_207 : decode cL_isSound 207 = .ok (.goto 4, 3) := by decide +kernel
theorem dL_isSound_210 : decode cL_isSound 210 = .ok (.iconst 0, 1) := by decide +kernel
theorem dL_isSound_211 : decode cL_isSound 211 = .ok (.aload_n 0, 1) := by decide +kernel
theorem dL_isSound_212 : decode cL_isSound 212 = .ok (.iload 4, 2) := by decide +kernel
theorem dL_isSound_214 : decode cL_isSound 214 = .ok (.iconst 4, 1) := by decide +kernel
theorem dL_isSound_215 : decode cL_isSound 215 = .ok (.invokestatic 136, 3) := by decide +kernel
theorem dL_isSound_218 : decode cL_isSound 218 = .ok (.ifCond .lt 7, 3) := by decide +kernel
theorem dL_isSound_221 : decode cL_isSound 221 = .ok (.iconst 1, 1) := by decide +kernel
theorem dL_isSound_222 : decode cL_isSound 222 = .ok (.goto 4, 3) := by decide +kernel
theorem dL_isSound_225 : decode cL_isSound 225 = .ok (.iconst 0, 1) := by decide +kernel
theorem dL_isSound_226 : decode cL_isSound 226 = .ok (.if_icmp .ne 24, 3) := by decide +kernel
theorem dL_isSound_229 : decode cL_isSound 229 = .ok (.iload 6, 2) := by decide +kernel
theorem dL_isSound_231 : decode cL_isSound 231 = .ok (.bipush 112, 2) := by decide +kernel
theorem dL_isSound_233 : decode cL_isSound 233 = .ok (.if_icmp .eq 19, 3) := by decide +kernel
theorem dL_isSound_236 : decode cL_isSound 236 = .ok (.iload 6, 2) := by decide +kernel
theorem dL_isSound_238 : decode cL_isSound 238 = .ok (.bipush 110, 2) := by decide +kernel
theorem dL_isSound_240 : decode cL_isSound 240 = .ok (.if_icmp .eq 12, 3) := by decide +kernel
theorem dL_isSound_243 : decode cL_isSound 243 = .ok (.iload 6, 2) := by decide +kernel
theorem dL_isSound_245 : decode cL_isSound 245 = .ok (.bipush 114, 2) := by decide +kernel
theorem dL_isSound_247 : decode cL_isSound 247 = .ok (.if_icmp .eq 5, 3) := by decide +kernel
theorem dL_isSound_250 : decode cL_isSound 250 = .ok (.iconst 0, 1) := by decide +kernel
theorem dL_isSound_251 : decode cL_isSound 251 = .ok (.ireturn, 1) := by decide +kernel
theorem dL_isSound_252 : decode cL_isSound 252 = .ok (.iinc 4 1, 3) := by decide +kernel
theorem dL_isSound_255 : decode cL_isSound 255 = .ok (.goto (-162), 3) := by decide +kernel
theorem dL_isSound_258 : decode cL_isSound 258 = .ok (.iconst 0, 1) := by decide +kernel
theorem dL_isSound_259 : decode cL_isSound 259 = .ok (.istore 4, 2) := by decide +kernel
theorem dL_isSound_261 : decode cL_isSound 261 = .ok (.iconst 0, 1) := by decide +kernel
theorem dL_isSound_262 : decode cL_isSound 262 = .ok (.istore 5, 2) := by decide +kernel
theorem dL_isSound_264 : decode cL_isSound 264 = .ok (.iload 5, 2) := by decide +kernel
theorem dL_isSound_266 : decode cL_isSound 266 = .ok (.iconst 3, 1) := by decide +kernel
theorem dL_isSound_267 : decode cL_isSound 267 = .ok (.if_icmp .ge 129, 3) := by decide +kernel
theorem dL_isSound_270 : decode cL_isSound 270 = .ok (.aload_n 0, 1) := by decide +kernel
theorem dL_isSound_271 : decode cL_isSound 271 = .ok (.iload 5, 2) := by decide +kernel
theorem dL_isSound_273 : decode cL_isSound 273 = .ok (.iconst (-1), 1) := by decide +kernel
theorem dL_isSound_274 : decode cL_isSound 274 = .ok (.invokestatic 146, 3) := by decide +kernel
theorem dL_isSound_277 : decode cL_isSound 277 = .ok (.istore 6, 2) := by decide +kernel
theorem dL_isSound_279 : decode cL_isSound 279 = .ok (.iconst (-1), 1) := by decide +kernel
theorem dL_isSound_280 : decode cL_isSound 280 = .ok (.istore 7, 2) := by decide +kernel
theorem dL_isSound_282 : decode cL_isSound 282 = .ok (.iconst (-1), 1) := by decide +kernel
theorem dL_isSound_283 : decode cL_isSound 283 = .ok (.istore 8, 2) := by decide +kernel
theorem dL_isSound_285 : decode cL_isSound 285 = .ok (.iconst 0, 1) := by decide +kernel
theorem dL_isSound_286 : decode cL_isSound 286 = .ok (.istore 9, 2) := by decide +kernel
theorem dL_isSound_288 : decode cL_isSound 288 = .ok (.iload 9, 2) := by decide +kernel
theorem dL_isSound_290 : decode cL_isSound 290 = .ok (.iload 6, 2) := by decide +kernel
theorem dL_isSound_292 : decode cL_isSound 292 = .ok (.if_icmp .ge 91, 3) := by decide +kernel
theorem dL_isSound_295 : decode cL_isSound 295 = .ok (.aload_n 0, 1) := by decide +kernel
theorem dL_isSound_296 : decode cL_isSound 296 = .ok (.iload 5, 2) := by decide +kernel
theorem dL_isSound_298 : decode cL_isSound 298 = .ok (.iload 9, 2) := by decide +kernel
theorem dL_isSound_300 : decode cL_isSound 300 = .ok (.invokestatic 146, 3) := by decide +kernel
theorem dL_isSound_303 : decode cL_isSound 303 = .ok (.istore 10, 2) := by decide +kernel
theorem dL_isSound_305 : decode cL_isSound 305 = .ok (.aload_n 0, 1) := by decide +kernel
theorem dL_isSound_306 : decode cL_isSound 306 = .ok (.iload 10, 2) := by decide +kernel
theorem dL_isSound_308 : decode cL_isSound 308 = .ok (.iconst 0, 1) := by decide +kernel
theorem dL_isSound_309 : decode cL_isSound 309 = .ok (.invokestatic 136, 3) := by decide +kernel
theorem dL_isSound_312 : decode cL_isSound 312 = .ok (.bipush 119, 2) := by decide +kernel
theorem dL_isSound_314 : decode cL_isSound 314 = .ok (.if_icmp .ne 48, 3) := by decide +kernel
theorem dL_isSound_317 : decode cL_isSound 317 = .ok (.aload_n 0, 1) := by decide +kernel
theorem dL_isSound_318 : decode cL_isSound 318 = .ok (.iload 10, 2) := by decide +kernel
theorem dL_isSound_320 : decode cL_isSound 320 = .ok (.iconst 3, 1) := by decide +kernel
theorem dL_isSound_321 : decode cL_isSound 321 = .ok (.invokestatic 136, 3) := by decide +kernel
theorem dL_isSound_324 : decode cL_isSound 324 = .ok (.aload_n 0, 1) := by decide +kernel
theorem dL_isSound_325 : decode cL_isSound 325 = .ok (.invokevirtual 122, 3) := by decide +kernel
theorem dL_isSound_328 : decode cL_isSound 328 = .ok (.if_icmp .gt 34, 3) := by decide +kernel
theorem dL_isSound_331 : decode cL_isSound 331 = .ok (.aload_n 0, 1) := by decide +kernel
theorem dL_isSound_332 : decode cL_isSound 332 = .ok (.iload 10, 2) := by decide +kernel
theorem dL_isSound_334 : decode cL_isSound 334 = .ok (.iconst 3, 1) := by decide +kernel
theorem dL_isSound_335 : decode cL_isSound 335 = .ok (.invokestatic 136, 3) := by decide +kernel
theorem dL_isSound_338 : decode cL_isSound 338 = .ok (.iload 7, 2) := by decide +kernel
theorem dL_isSound_340 : decode cL_isSound 340 = .ok (.if_icmp .lt 22, 3) := by decide +kernel
theorem dL_isSound_343 : decode cL_isSound 343 = .ok (.aload_n 0, 1) := by decide +kernel
theorem dL_isSound_344 : decode cL_isSound 344 = .ok (.iload 10, 2) := by decide +kernel
theorem dL_isSound_346 : decode cL_isSound 346 = .ok (.iconst 3, 1) := by decide +kernel
theorem dL_isSound_347 : decode cL_isSound 347 = .ok (.invokestatic 136, 3) := by decide +kernel
theorem dL_isSound_350 : decode cL_isSound 350 = .ok (.iload 7, 2) := by decide +kernel
theorem dL_isSound_352 : decode cL_isSound 352 = .ok (.if_icmp .ne 12, 3) := by decide +kernel
theorem dL_isSound_355 : decode cL_isSound 355 = .ok (.iload 10, 2) := by decide +kernel
theorem dL_isSound_357 : decode cL_isSound 357 = .ok (.iload 8, 2) := by decide +kernel
theorem dL_isSound_359 : decode cL_isSound 359 = .ok (.if_icmp .ge 5, 3) := by decide +kernel
theorem dL_isSound_362 : decode cL_isSound 362 = .ok (.iconst 0, 1) := by decide +kernel
theorem dL_isSound_363 : decode cL_isSound 363 = .ok (.ireturn, 1) := by decide +kernel
theorem dL_isSound_364 : decode cL_isSound 364 = .ok (.aload_n 0, 1) := by decide +kernel
theorem dL_isSound_365 : decode cL_isSound 365 = .ok (.iload 10, 2) := by decide +kernel
theorem dL_isSound_367 : decode cL_isSound 367 = .ok (.iconst 3, 1) := by decide +kernel
theorem dL_isSound_368 : decode cL_isSound 368 = .ok (.invokestatic 136, 3) := by decide +kernel
theorem dL_isSound_371 : decode cL_isSound 371 = .ok (.istore 7, 2) := by decide +kernel
theorem dL_isSound_373 : decode cL_isSound 373 = .ok (.iload 10, 2) := by decide +kernel
theorem dL_isSound_375 : decode cL_isSound 375 = .ok (.istore 8, 2) := by decide +kernel
theorem dL_isSound_377 : decode cL_isSound 377 = .ok (.iinc 9 1, 3) := by decide +kernel
theorem dL_isSound_380 : decode cL_isSound 380 = .ok (.goto (-92), 3) := by decide +kernel
theorem dL_isSound_383 : decode cL_isSound 383 = .ok (.iload 4, 2) := by decide +kernel
theorem dL_isSound_385 : decode cL_isSound 385 = .ok (.iload 6, 2) := by decide +kernel
theorem dL_isSound_387 : decode cL_isSound 387 = .ok (.iadd, 1) := by decide +kernel
theorem dL_isSound_388 : decode cL_isSound 388 = .ok (.istore 4, 2) := by decide +kernel
theorem dL_isSound_390 : decode cL_isSound 390 = .ok (.iinc 5 1, 3) := by decide +kernel
theorem dL_isSound_393 : decode cL_isSound 393 = .ok (.goto (-129), 3) := by decide +kernel
theorem dL_isSound_396 : decode cL_isSound 396 = .ok (.iconst 0, 1) := by decide +kernel
theorem dL_isSound_397 : decode cL_isSound 397 = .ok (.istore 5, 2) := by decide +kernel
theorem dL_isSound_399 : decode cL_isSound 399 = .ok (.iload 5, 2) := by decide +kernel
theorem dL_isSound_401 : decode cL_isSound 401 = .ok (.iload_n 2, 1) := by decide +kernel
theorem dL_isSound_402 : decode cL_isSound 402 = .ok (.if_icmp .ge 169, 3) := by decide +kernel
theorem dL_isSound_405 : decode cL_isSound 405 = .ok (.aload_n 0, 1) := by decide +kernel
theorem dL_isSound_406 : decode cL_isSound 406 = .ok (.iload 5, 2) := by decide +kernel
theorem dL_isSound_408 : decode cL_isSound 408 = .ok (.iconst 1, 1) := by decide +kernel
theorem dL_isSound_409 : decode cL_isSound 409 = .ok (.invokestatic 105, 3) := by decide +kernel
theorem dL_isSound_412 : decode cL_isSound 412 = .ok (.istore 6, 2) := by decide +kernel
theorem dL_isSound_414 : decode cL_isSound 414 = .ok (.aload_n 0, 1) := by decide +kernel
theorem dL_isSound_415 : decode cL_isSound 415 = .ok (.iload 5, 2) := by decide +kernel
theorem dL_isSound_417 : decode cL_isSound 417 = .ok (.iconst 3, 1) := by decide +kernel
theorem dL_isSound_418 : decode cL_isSound 418 = .ok (.invokestatic 105, 3) := by decide +kernel
theorem dL_isSound_421 : decode cL_isSound 421 = .ok (.istore 7, 2) := by decide +kernel
theorem dL_isSound_423 : decode cL_isSound 423 = .ok (.iload 6, 2) := by decide +kernel
theorem dL_isSound_425 : decode cL_isSound 425 = .ok (.aload_n 0, 1) := by decide +kernel
theorem dL_isSound_426 : decode cL_isSound 426 = .ok (.iload 5, 2) := by decide +kernel
theorem dL_isSound_428 : decode cL_isSound 428 = .ok (.iconst 2, 1) := by decide +kernel
theorem dL_isSound_429 : decode cL_isSound 429 = .ok (.invokestatic 105, 3) := by decide +kernel
theorem dL_isSound_432 : decode cL_isSound 432 = .ok (.if_icmp .ne 66, 3) := by decide +kernel
theorem dL_isSound_435 : decode cL_isSound 435 = .ok (.iload 6, 2) := by decide +kernel
theorem dL_isSound_437 : decode cL_isSound 437 = .ok (.ifCond .lt 61, 3) := by decide +kernel
theorem dL_isSound_440 : decode cL_isSound 440 = .ok (.iload 6, 2) := by decide +kernel
theorem dL_isSound_442 : decode cL_isSound 442 = .ok (.iconst 3, 1) := by decide +kernel
theorem dL_isSound_443 : decode cL_isSound 443 = .ok (.if_icmp .gt 55, 3) := by decide +kernel
theorem dL_isSound_446 : decode cL_isSound 446 = .ok (.iload 7, 2) := by decide +kernel
theorem dL_isSound_448 : decode cL_isSound 448 = .ok (.ifCond .lt 52, 3) := by decide +kernel
theorem dL_isSound_451 : decode cL_isSound 451 = .ok (.iload 7, 2) := by decide +kernel
theorem dL_isSound_453 : decode cL_isSound 453 = .ok (.aload_n 0, 1) := by decide +kernel
theorem dL_isSound_454 : decode cL_isSound 454 = .ok (.invokevirtual 122, 3) := by decide +kernel
theorem dL_isSound_457 : decode cL_isSound 457 = .ok (.if_icmp .le 41, 3) := by decide +kernel
theorem dL_isSound_460 : decode cL_isSound 460 = .ok (.aload_n 0, 1) := by decide +kernel
theorem dL_isSound_461 : decode cL_isSound 461 = .ok (.iload 5, 2) := by decide +kernel
theorem dL_isSound_463 : decode cL_isSound 463 = .ok (.iconst 0, 1) := by decide +kernel
theorem dL_isSound_464 : decode cL_isSound 464 = .ok (.invokestatic 105, 3) := by decide +kernel
theorem dL_isSound_467 : decode cL_isSound 467 = .ok (.ifCond .eq 31, 3) := by decide +kernel
theorem dL_isSound_470 : decode cL_isSound 470 = .ok (.iload 6, 2) := by decide +kernel
theorem dL_isSound_472 : decode cL_isSound 472 = .ok (.iconst 3, 1) := by decide +kernel
theorem dL_isSound_473 : decode cL_isSound 473 = .ok (.if_icmp .eq 25, 3) := by decide +kernel
theorem dL_isSound_476 : decode cL_isSound 476 = .ok (.aload_n 0, 1) := by decide +kernel
theorem dL_isSound_477 : decode cL_isSound 477 = .ok (.sipush 1000, 3) := by decide +kernel
theorem dL_isSound_480 : decode cL_isSound 480 = .ok (.bipush 10, 2) := by decide +kernel
theorem dL_isSound_482 : decode cL_isSound 482 = .ok (.iload 5, 2) := by decide +kernel
theorem dL_isSound_484 : decode cL_isSound 484 = .ok (.imul, 1) := by decide +kernel
theorem dL_isSound_485 : decode cL_isSound 485 = .ok (.iadd, 1) := by decide +kernel
theorem dL_isSound_486 : decode cL_isSound 486 = .ok (.iload 6, 2) := by decide +kernel
theorem dL_isSound_488 : decode cL_isSound 488 = .ok (.iadd, 1) := by decide +kernel
theorem dL_isSound_489 : decode cL_isSound 489 = .ok (.invokestatic 148, 3) := by decide +kernel
theorem dL_isSound_492 : decode cL_isSound 492 = .ok (.sipush (-1001), 3) := by decide +kernel
theorem dL_isSound_495 : decode cL_isSound 495 = .ok (.if_icmp .eq 5, 3) := by decide +kernel
theorem dL_isSound_498 : decode cL_isSound 498 = .ok (.iconst 0, 1) := by decide +kernel
theorem dL_isSound_499 : decode cL_isSound 499 = .ok (.ireturn, 1) := by decide +kernel
theorem dL_isSound_500 : decode cL_isSound 500 = .ok (.iconst 0, 1) := by decide +kernel
theorem dL_isSound_501 : decode cL_isSound 501 = .ok (.istore 8, 2) := by decide +kernel
theorem dL_isSound_503 : decode cL_isSound 503 = .ok (.iload 8, 2) := by decide +kernel
theorem dL_isSound_505 : decode cL_isSound 505 = .ok (.iload 6, 2) := by decide +kernel
theorem dL_isSound_507 : decode cL_isSound 507 = .ok (.if_icmp .ge 58, 3) := by decide +kernel
theorem dL_isSound_510 : decode cL_isSound 510 = .ok (.aload_n 0, 1) := by decide +kernel
theorem dL_isSound_511 : decode cL_isSound 511 = .ok (.sipush 1000, 3) := by decide +kernel
theorem dL_isSound_514 : decode cL_isSound 514 = .ok (.bipush 10, 2) := by decide +kernel
theorem dL_isSound_516 : decode cL_isSound 516 = .ok (.iload 5, 2) := by decide +kernel
theorem dL_isSound_518 : decode cL_isSound 518 = .ok (.imul, 1) := by decide +kernel
theorem dL_isSound_519 : decode cL_isSound 519 = .ok (.iadd, 1) := by decide +kernel
theorem dL_isSound_520 : decode cL_isSound 520 = .ok (.iload 8, 2) := by decide +kernel
theorem dL_isSound_522 : decode cL_isSound 522 = .ok (.iadd, 1) := by decide +kernel
theorem dL_isSound_523 : decode cL_isSound 523 = .ok (.invokestatic 148, 3) := by decide +kernel
theorem dL_isSound_526 : decode cL_isSound 526 = .ok (.istore 9, 2) := by decide +kernel
theorem dL_isSound_528 : decode cL_isSound 528 = .ok (.iload 9, 2) := by decide +kernel
theorem dL_isSound_530 : decode cL_isSound 530 = .ok (.ifCond .lt 27, 3) := by decide +kernel
theorem dL_isSound_533 : decode cL_isSound 533 = .ok (.aload_n 0, 1) := by decide +kernel
theorem dL_isSound_534 : decode cL_isSound 534 = .ok (.iload 9, 2) := by decide +kernel
theorem dL_isSound_536 : decode cL_isSound 536 = .ok (.iconst 0, 1) := by decide +kernel
theorem dL_isSound_537 : decode cL_isSound 537 = .ok (.invokestatic 136, 3) := by decide +kernel
theorem dL_isSound_540 : decode cL_isSound 540 = .ok (.bipush 100, 2) := by decide +kernel
theorem dL_isSound_542 : decode cL_isSound 542 = .ok (.if_icmp .ne 15, 3) := by decide +kernel
theorem dL_isSound_545 : decode cL_isSound 545 = .ok (.aload_n 0, 1) := by decide +kernel
theorem dL_isSound_546 : decode cL_isSound 546 = .ok (.iload 9, 2) := by decide +kernel
theorem dL_isSound_548 : decode cL_isSound 548 = .ok (.iconst 1, 1) := by decide +kernel
theorem dL_isSound_549 : decode cL_isSound 549 = .ok (.invokestatic 136, 3) := by decide +kernel
theorem dL_isSound_552 : decode cL_isSound 552 = .ok (.bipush 114, 2) := by decide +kernel
theorem dL_isSound_554 : decode cL_isSound 554 = .ok (.if_icmp .eq 5, 3) := by decide +kernel
theorem dL_isSound_557 : decode cL_isSound 557 = .ok (.iconst 0, 1) := by decide +kernel
theorem dL_isSound_558 : decode cL_isSound 558 = .ok (.ireturn, 1) := by decide +kernel
theorem dL_isSound_559 : decode cL_isSound 559 = .ok (.iinc 8 1, 3) := by decide +kernel
theorem dL_isSound_562 : decode cL_isSound 562 = .ok (.goto (-59), 3) := by decide +kernel
theorem dL_isSound_565 : decode cL_isSound 565 = .ok (.iinc 5 1, 3) := by decide +kernel
theorem dL_isSound_568 : decode cL_isSound 568 = .ok (.goto (-169), 3) := by decide +kernel
theorem dL_isSound_571 : decode cL_isSound 571 = .ok (.iload_n 3, 1) := by decide +kernel
theorem dL_isSound_572 : decode cL_isSound 572 = .ok (.aload_n 0, 1) := by decide +kernel
theorem dL_isSound_573 : decode cL_isSound 573 = .ok (.bipush 115, 2) := by decide +kernel
theorem dL_isSound_575 : decode cL_isSound 575 = .ok (.bipush 116, 2) := by decide +kernel
theorem dL_isSound_577 : decode cL_isSound 577 = .ok (.invokestatic 118, 3) := by decide +kernel
theorem dL_isSound_580 : decode cL_isSound 580 = .ok (.if_icmp .ne 56, 3) := by decide +kernel
theorem dL_isSound_583 : decode cL_isSound 583 = .ok (.iload 4, 2) := by decide +kernel
theorem dL_isSound_585 : decode cL_isSound 585 = .ok (.aload_n 0, 1) := by decide +kernel
theorem dL_isSound_586 : decode cL_isSound 586 = .ok (.bipush 115, 2) := by decide +kernel
theorem dL_isSound_588 : decode cL_isSound 588 = .ok (.bipush 119, 2) := by decide +kernel
theorem dL_isSound_590 : decode cL_isSound 590 = .ok (.invokestatic 118, 3) := by decide +kernel
theorem dL_isSound_593 : decode cL_isSound 593 = .ok (.if_icmp .gt 43, 3) := by decide +kernel
theorem dL_isSound_596 : decode cL_isSound 596 = .ok (.aload_n 0, 1) := by decide +kernel
theorem dL_isSound_597 : decode cL_isSound 597 = .ok (.invokestatic 151, 3) := by decide +kernel
theorem dL_isSound_600 : decode cL_isSound 600 = .ok (.ldc 98, 2) := by decide +kernel
theorem dL_isSound_602 : decode cL_isSound 602 = .ok (.fcmp .l, 1) := by decide +kernel
theorem dL_isSound_603 : decode cL_isSound 603 = .ok (.ifCond .ne 7, 3) := by decide +kernel
theorem dL_isSound_606 : decode cL_isSound 606 = .ok (.iconst 1, 1) := by decide +kernel
theorem dL_isSound_607 : decode cL_isSound 607 = .ok (.goto 4, 3) := by decide +kernel
theorem dL_isSound_610 : decode cL_isSound 610 = .ok (.iconst 0, 1) := by decide +kernel
theorem dL_isSound_611 : decode cL_isSound 611 = .ok (.iload_n 1, 1) := by decide +kernel
theorem dL_isSound_612 : decode cL_isSound 612 = .ok (.ifCond .ne 7, 3) := by decide +kernel
theorem dL_isSound_615 : decode cL_isSound 615 = .ok (.iconst 1, 1) := by decide +kernel
theorem dL_isSound_616 : decode cL_isSound 616 = .ok (.goto 4, 3) := by decide +kernel
theorem dL_isSound_619 : decode cL_isSound 619 = .ok (.iconst 0, 1) := by decide +kernel
theorem dL_isSound_620 : decode cL_isSound 620 = .ok (.if_icmp .ne 16, 3) := by decide +kernel
theorem dL_isSound_623 : decode cL_isSound 623 = .ok (.aload_n 0, 1) := by decide +kernel
theorem dL_isSound_624 : decode cL_isSound 624 = .ok (.invokestatic 151, 3) := by decide +kernel
theorem dL_isSound_627 : decode cL_isSound 627 = .ok (.fconst 1, 1) := by decide +kernel
theorem dL_isSound_628 : decode cL_isSound 628 = .ok (.fcmp .g, 1) := by decide +kernel
theorem dL_isSound_629 : decode cL_isSound 629 = .ok (.ifCond .gt 7, 3) := by decide +kernel
theorem dL_isSound_632 : decode cL_isSound 632 = .ok (.iconst 1, 1) := by decide +kernel
theorem dL_isSound_633 : decode cL_isSound 633 = .ok (.goto 4, 3) := by decide +kernel
theorem dL_isSound_636 : decode cL_isSound 636 = .ok (.iconst 0, 1) := by decide +kernel
theorem dL_isSound_637 : decode cL_isSound 637 = .ok (.ireturn, 1) := by decide +kernel
