theorem dL_open_0 : decode cL_open 0 = .ok (.aload_n 3, 1) := by decide +kernel
theorem dL_open_1 : decode cL_open 1 = .ok (.iconst 0, 1) := by decide +kernel
theorem dL_open_2 : decode cL_open 2 = .ok (.aload_n 0, 1) := by decide +kernel
theorem dL_open_3 : decode cL_open 3 = .ok (.iload_n 1, 1) := by decide +kernel
theorem dL_open_4 : decode cL_open 4 = .ok (.iload_n 2, 1) := by decide +kernel
theorem dL_open_5 : decode cL_open 5 = .ok (.invokevirtual 7, 3) := by decide +kernel
theorem dL_open_8 : decode cL_open 8 = .ok (.i2l, 1) := by decide +kernel
theorem dL_open_9 : decode cL_open 9 = .ok (.lastore, 1) := by decide +kernel
theorem dL_open_10 : decode cL_open 10 = .ok (.goto 11, 3) := by decide +kernel
theorem dL_open_13 : decode cL_open 13 = .ok (.astore 4, 2) := by decide +kernel
theorem dL_open_15 : decode cL_open 15 = .ok (.iconst 1, 1) := by decide +kernel
theorem dL_open_16 : decode cL_open 16 = .ok (.ireturn, 1) := by decide +kernel
theorem dL_open_17 : decode cL_open 17 = .ok (.astore 4, 2) := by decide +kernel
theorem dL_open_19 : decode cL_open 19 = .ok (.iconst 2, 1) := by decide +kernel
theorem dL_open_20 : decode cL_open 20 = .ok (.ireturn, 1) := by decide +kernel
theorem dL_open_21 : decode cL_open 21 = .ok (.iconst 0, 1) := by decide +kernel
theorem dL_open_22 : decode cL_open 22 = .ok (.ireturn, 1) := by decide +kernel
set_option maxRecDepth 20000 in
theorem ggL_amount_X2_amount : GoodIn wsL_amount wsX2_amount := goodIn_ca (goodIn_ca (goodIn_r _ [6, 7, 8, 9, 10, 5, 11, 12, 13, 14, 15, 16, 17, 18, 19, 20, 21, 22, 23, 24, 25, 26, 27, 28] (by decide +kernel) (by decide +kernel)) (goodIn_sub (fun _ h => List.mem_cons_of_mem _ (List.mem_append_left _ (List.mem_append_right _ h))) (by decide +kernel))) (goodIn_sub (fun _ h => List.mem_cons_of_mem _ (List.mem_append_right _ h)) (by decide +kernel))
set_option maxRecDepth 20000 in
theorem gL_amount_X2_amount : GoodIn wsL_amount (wsV RL 17 RX2 yX2_amount wsX2_amount) := goodIn_app (goodIn_of _ (by decide +kernel)) ggL_amount_X2_amount
theorem dL_amount_0 : decode cL_amount 0 = .ok (.aload_n 2, 1) := by decide +kernel
theorem dL_amount_1 : decode cL_amount 1 = .ok (.iconst 0, 1) := by decide +kernel
theorem dL_amount_2 : decode cL_amount 2 = .ok (.aload_n 0, 1) := by decide +kernel
theorem dL_amount_3 : decode cL_amount 3 = .ok (.iload_n 1, 1) := by decide +kernel
theorem dL_amount_4 : decode cL_amount 4 = .ok (.invokevirtual 17, 3) := by decide +kernel
theorem dL_amount_7 : decode cL_amount 7 = .ok (.i2l, 1) := by decide +kernel
theorem dL_amount_8 : decode cL_amount 8 = .ok (.lastore, 1) := by decide +kernel
theorem dL_amount_9 : decode cL_amount 9 = .ok (.goto 6, 3) := by decide +kernel
theorem dL_amount_12 : decode cL_amount 12 = .ok (.astore_n 3, 1) := by decide +kernel
theorem dL_amount_13 : decode cL_amount 13 = .ok (.iconst 1, 1) := by decide +kernel
theorem dL_amount_14 : decode cL_amount 14 = .ok (.ireturn, 1) := by decide +kernel
theorem dL_amount_15 : decode cL_amount 15 = .ok (.iconst 0, 1) := by decide +kernel
theorem dL_amount_16 : decode cL_amount 16 = .ok (.ireturn, 1) := by decide +kernel
set_option maxRecDepth 20000 in
theorem ggL_pause_X2_pause : GoodIn wsL_pause wsX2_pause := goodIn_ca (goodIn_ca (goodIn_ca (goodIn_ca (goodIn_r _ [8, 9, 10, 11, 12, 13, 14, 15, 7, 16, 17, 18, 19, 20, 21, 22, 23, 24, 25, 26, 27, 28, 29, 30, 31, 32, 33, 34, 35, 36, 37, 38, 39, 40, 41, 42, 43, 44, 45, 46, 47, 48, 49, 50, 51, 52, 53, 54] (by decide +kernel) (by decide +kernel)) (goodIn_sub (fun _ h => List.mem_cons_of_mem _ (List.mem_append_left _ (List.mem_append_left _ (List.mem_append_right _ h)))) (by decide +kernel))) (goodIn_sub (fun _ h => List.mem_cons_of_mem _ (List.mem_append_left _ (List.mem_append_right _ h))) (by decide +kernel))) (goodIn_sub (fun _ h => List.mem_cons_of_mem _ (List.mem_append_right _ h)) (by decide +kernel))) (goodIn_sub (fun _ h => List.mem_cons_of_mem _ (List.mem_append_left _ (List.mem_append_left _ (List.mem_append_left _ (List.mem_append_right _ h))))) (by decide +kernel))
set_option maxRecDepth 20000 in
theorem gL_pause_X2_pause : GoodIn wsL_pause (wsV RL 23 RX2 yX2_pause wsX2_pause) := goodIn_app (goodIn_of _ (by decide +kernel)) ggL_pause_X2_pause
theorem dL_pause_0 : decode cL_pause 0 = .ok (.aload_n 3, 1) := by decide +kernel
theorem dL_pause_1 : decode cL_pause 1 = .ok (.iconst 0, 1) := by decide +kernel
theorem dL_pause_2 : decode cL_pause 2 = .ok (.aload_n 0, 1) := by decide +kernel
theorem dL_pause_3 : decode cL_pause 3 = .ok (.iload_n 1, 1) := by decide +kernel
theorem dL_pause_4 : decode cL_pause 4 = .ok (.iload_n 2, 1) := by decide +kernel
theorem dL_pause_5 : decode cL_pause 5 = .ok (.invokevirtual 23, 3) := by decide +kernel
theorem dL_pause_8 : decode cL_pause 8 = .ok (.i2l, 1) := by decide +kernel
theorem dL_pause_9 : decode cL_pause 9 = .ok (.lastore, 1) := by decide +kernel
theorem dL_pause_10 : decode cL_pause 10 = .ok (.goto 15, 3) := by decide +kernel
theorem dL_pause_13 : decode cL_pause 13 = .ok (.astore 4, 2) := by decide +kernel
theorem dL_pause_15 : decode cL_pause 15 = .ok (.iconst 1, 1) := by decide +kernel
theorem dL_pause_16 : decode cL_pause 16 = .ok (.ireturn, 1) := by decide +kernel
theorem dL_pause_17 : decode cL_pause 17 = .ok (.astore 4, 2) := by decide +kernel
theorem dL_pause_19 : decode cL_pause 19 = .ok (.iconst 2, 1) := by decide +kernel
theorem dL_pause_20 : decode cL_pause 20 = .ok (.ireturn, 1) := by decide +kernel
theorem dL_pause_21 : decode cL_pause 21 = .ok (.astore 4, 2) := by decide +kernel
theorem dL_pause_23 : decode cL_pause 23 = .ok (.iconst 3, 1) := by decide +kernel
theorem dL_pause_24 : decode cL_pause 24 = .ok (.ireturn, 1) := by decide +kernel
theorem dL_pause_25 : decode cL_pause 25 = .ok (.iconst 0, 1) := by decide +kernel
theorem dL_pause_26 : decode cL_pause 26 = .ok (.ireturn, 1) := by decide +kernel
set_option maxRecDepth 20000 in
theorem ggL_awaitNote_X2_awaitNote : GoodIn wsL_awaitNote wsX2_awaitNote := goodIn_ca (goodIn_ca (goodIn_ca (goodIn_r _ [7, 8, 9, 10, 11, 6, 12, 13, 14, 15, 16, 17, 18, 19, 20, 21, 22, 23, 24, 25, 26, 27, 28, 29, 30, 31, 32, 33, 34, 35, 36, 37, 38, 39] (by decide +kernel) (by decide +kernel)) (goodIn_sub (fun _ h => List.mem_cons_of_mem _ (List.mem_append_left _ (List.mem_append_left _ (List.mem_append_right _ h)))) (by decide +kernel))) (goodIn_sub (fun _ h => List.mem_cons_of_mem _ (List.mem_append_left _ (List.mem_append_right _ h))) (by decide +kernel))) (goodIn_sub (fun _ h => List.mem_cons_of_mem _ (List.mem_append_right _ h)) (by decide +kernel))
set_option maxRecDepth 20000 in
theorem gL_awaitNote_X2_awaitNote : GoodIn wsL_awaitNote (wsV RL 26 RX2 yX2_awaitNote wsX2_awaitNote) := goodIn_app (goodIn_of _ (by decide +kernel)) ggL_awaitNote_X2_awaitNote
theorem dL_awaitNote_0 : decode cL_awaitNote 0 = .ok (.aload_n 2, 1) := by decide +kernel
theorem dL_awaitNote_1 : decode cL_awaitNote 1 = .ok (.iconst 0, 1) := by decide +kernel
theorem dL_awaitNote_2 : decode cL_awaitNote 2 = .ok (.aload_n 0, 1) := by decide +kernel
theorem dL_awaitNote_3 : decode cL_awaitNote 3 = .ok (.iload_n 1, 1) := by decide +kernel
theorem dL_awaitNote_4 : decode cL_awaitNote 4 = .ok (.invokevirtual 26, 3) := by decide +kernel
theorem dL_awaitNote_7 : decode cL_awaitNote 7 = .ok (.ifCond .eq 7, 3) := by decide +kernel
theorem dL_awaitNote_10 : decode cL_awaitNote 10 = .ok (.lconst 1, 1) := by decide +kernel
theorem dL_awaitNote_11 : decode cL_awaitNote 11 = .ok (.goto 4, 3) := by decide +kernel
theorem dL_awaitNote_14 : decode cL_awaitNote 14 = .ok (.lconst 0, 1) := by decide +kernel
theorem dL_awaitNote_15 : decode cL_awaitNote 15 = .ok (.lastore, 1) := by decide +kernel
theorem dL_awaitNote_16 : decode cL_awaitNote 16 = .ok (.goto 9, 3) := by decide +kernel
theorem dL_awaitNote_19 : decode cL_awaitNote 19 = .ok (.astore_n 3, 1) := by decide +kernel
theorem dL_awaitNote_20 : decode cL_awaitNote 20 = .ok (.iconst 1, 1) := by decide +kernel
theorem dL_awaitNote_21 : decode cL_awaitNote 21 = .ok (.ireturn, 1) := by decide +kernel
theorem dL_awaitNote_22 : decode cL_awaitNote 22 = .ok (.astore_n 3, 1) := by decide +kernel
theorem dL_awaitNote_23 : decode cL_awaitNote 23 = .ok (.iconst 2, 1) := by decide +kernel
theorem dL_awaitNote_24 : decode cL_awaitNote 24 = .ok (.ireturn, 1) := by decide +kernel
theorem dL_awaitNote_25 : decode cL_awaitNote 25 = .ok (.iconst 0, 1) := by decide +kernel
theorem dL_awaitNote_26 : decode cL_awaitNote 26 = .ok (.ireturn, 1) := by decide +kernel
set_option maxRecDepth 20000 in
theorem ggL_letters_X2_letters : GoodIn wsL_letters wsX2_letters := goodIn_ca (goodIn_ca (goodIn_r _ [6, 7, 8, 9, 10, 5, 11, 12, 13, 14, 15, 16, 17, 18, 19, 20, 21, 22, 23, 24, 25, 26, 27, 28] (by decide +kernel) (by decide +kernel)) (goodIn_sub (fun _ h => List.mem_cons_of_mem _ (List.mem_append_left _ (List.mem_append_right _ h))) (by decide +kernel))) (goodIn_sub (fun _ h => List.mem_cons_of_mem _ (List.mem_append_right _ h)) (by decide +kernel))
set_option maxRecDepth 20000 in
theorem gL_letters_X2_letters : GoodIn wsL_letters (wsV RL 30 RX2 yX2_letters wsX2_letters) := goodIn_app (goodIn_of _ (by decide +kernel)) ggL_letters_X2_letters
theorem dL_letters_0 : decode cL_letters 0 = .ok (.aload_n 2, 1) := by decide +kernel
theorem dL_letters_1 : decode cL_letters 1 = .ok (.iconst 0, 1) := by decide +kernel
theorem dL_letters_2 : decode cL_letters 2 = .ok (.aload_n 0, 1) := by decide +kernel
theorem dL_letters_3 : decode cL_letters 3 = .ok (.iload_n 1, 1) := by decide +kernel
theorem dL_letters_4 : decode cL_letters 4 = .ok (.invokevirtual 30, 3) := by decide +kernel
theorem dL_letters_7 : decode cL_letters 7 = .ok (.i2l, 1) := by decide +kernel
theorem dL_letters_8 : decode cL_letters 8 = .ok (.lastore, 1) := by decide +kernel
theorem dL_letters_9 : decode cL_letters 9 = .ok (.goto 6, 3) := by decide +kernel
theorem dL_letters_12 : decode cL_letters 12 = .ok (.astore_n 3, 1) := by decide +kernel
theorem dL_letters_13 : decode cL_letters 13 = .ok (.iconst 1, 1) := by decide +kernel
theorem dL_letters_14 : decode cL_letters 14 = .ok (.ireturn, 1) := by decide +kernel
theorem dL_letters_15 : decode cL_letters 15 = .ok (.iconst 0, 1) := by decide +kernel
theorem dL_letters_16 : decode cL_letters 16 = .ok (.ireturn, 1) := by decide +kernel
set_option maxRecDepth 20000 in
theorem ggL_lettersByMessages_X2_lettersByMessages : GoodIn wsL_lettersByMessages wsX2_lettersByMessages := goodIn_ca (goodIn_ca (goodIn_r _ [6, 7, 8, 9, 10, 11, 5, 12, 13, 14, 15, 16, 17, 18, 19, 20, 21, 22, 23, 24, 25, 26, 27, 28, 29, 30, 31, 32, 33, 34, 35, 36, 37, 38, 39, 40, 41, 42, 43, 44, 45, 46, 47, 48, 49, 50, 51, 52, 53, 54, 55, 56, 57, 58, 59, 60] (by decide +kernel) (by decide +kernel)) (goodIn_sub (fun _ h => List.mem_cons_of_mem _ (List.mem_append_left _ (List.mem_append_right _ h))) (by decide +kernel))) (goodIn_sub (fun _ h => List.mem_cons_of_mem _ (List.mem_append_right _ h)) (by decide +kernel))
set_option maxRecDepth 20000 in
theorem gL_lettersByMessages_X2_lettersByMessages : GoodIn wsL_lettersByMessages (wsV RL 33 RX2 yX2_lettersByMessages wsX2_lettersByMessages) := goodIn_app (goodIn_of _ (by decide +kernel)) ggL_lettersByMessages_X2_lettersByMessages
theorem dL_lettersByMessages_0 : decode cL_lettersByMessages 0 = .ok (.aload_n 2, 1) := by decide +kernel
theorem dL_lettersByMessages_1 : decode cL_lettersByMessages 1 = .ok (.iconst 0, 1) := by decide +kernel
theorem dL_lettersByMessages_2 : decode cL_lettersByMessages 2 = .ok (.aload_n 0, 1) := by decide +kernel
theorem dL_lettersByMessages_3 : decode cL_lettersByMessages 3 = .ok (.iload_n 1, 1) := by decide +kernel
theorem dL_lettersByMessages_4 : decode cL_lettersByMessages 4 = .ok (.invokevirtual 33, 3) := by decide +kernel
theorem dL_lettersByMessages_7 : decode cL_lettersByMessages 7 = .ok (.i2l, 1) := by decide +kernel
theorem dL_lettersByMessages_8 : decode cL_lettersByMessages 8 = .ok (.lastore, 1) := by decide +kernel
theorem dL_lettersByMessages_9 : decode cL_lettersByMessages 9 = .ok (.goto 6, 3) := by decide +kernel
theorem dL_lettersByMessages_12 : decode cL_lettersByMessages 12 = .ok (.astore_n 3, 1) := by decide +kernel
theorem dL_lettersByMessages_13 : decode cL_lettersByMessages 13 = .ok (.iconst 1, 1) := by decide +kernel
theorem dL_lettersByMessages_14 : decode cL_lettersByMessages 14 = .ok (.ireturn, 1) := by decide +kernel
theorem dL_lettersByMessages_15 : decode cL_lettersByMessages 15 = .ok (.iconst 0, 1) := by decide +kernel
theorem dL_lettersByMessages_16 : decode cL_lettersByMessages 16 = .ok (.ireturn, 1) := by decide +kernel
set_option maxRecDepth 20000 in
theorem ggL_nextReminder_X2_nextReminder : GoodIn wsL_nextReminder wsX2_nextReminder := goodIn_ca (goodIn_ca (goodIn_ca (goodIn_r _ [7, 8, 9, 10, 11, 12, 13, 14, 15, 16, 17, 18, 6, 19, 20, 21, 22, 23, 24, 25, 26, 27, 28, 29, 30, 31, 32, 33, 34, 35, 36, 37, 38, 39, 40, 41, 42, 43, 44, 45, 46, 47, 48, 49, 50, 51, 52, 53, 54, 55, 56, 57, 58, 59, 60, 61, 62, 63, 64, 65, 66, 67, 68, 69, 70, 71, 72] (by decide +kernel) (by decide +kernel)) (goodIn_sub (fun _ h => List.mem_cons_of_mem _ (List.mem_append_left _ (List.mem_append_right _ h))) (by decide +kernel))) (goodIn_sub (fun _ h => List.mem_cons_of_mem _ (List.mem_append_left _ (List.mem_append_left _ (List.mem_append_right _ h)))) (by decide +kernel))) (goodIn_sub (fun _ h => List.mem_cons_of_mem _ (List.mem_append_right _ h)) (by decide +kernel))
set_option maxRecDepth 20000 in
theorem gL_nextReminder_X2_nextReminder : GoodIn wsL_nextReminder (wsV RL 36 RX2 yX2_nextReminder wsX2_nextReminder) := goodIn_app (goodIn_of _ (by decide +kernel)) ggL_nextReminder_X2_nextReminder
theorem dL_nextReminder_0 : decode cL_nextReminder 0 = .ok (.aload_n 2, 1) := by decide +kernel
theorem dL_nextReminder_1 : decode cL_nextReminder 1 = .ok (.iconst 0, 1) := by decide +kernel
theorem dL_nextReminder_2 : decode cL_nextReminder 2 = .ok (.aload_n 0, 1) := by decide +kernel
theorem dL_nextReminder_3 : decode cL_nextReminder 3 = .ok (.iload_n 1, 1) := by decide +kernel
theorem dL_nextReminder_4 : decode cL_nextReminder 4 = .ok (.invokevirtual 36, 3) := by decide +kernel
theorem dL_nextReminder_7 : decode cL_nextReminder 7 = .ok (.i2l, 1) := by decide +kernel
theorem dL_nextReminder_8 : decode cL_nextReminder 8 = .ok (.lastore, 1) := by decide +kernel
theorem dL_nextReminder_9 : decode cL_nextReminder 9 = .ok (.goto 9, 3) := by decide +kernel
theorem dL_nextReminder_12 : decode cL_nextReminder 12 = .ok (.astore_n 3, 1) := by decide +kernel
theorem dL_nextReminder_13 : decode cL_nextReminder 13 = .ok (.iconst 1, 1) := by decide +kernel
theorem dL_nextReminder_14 : decode cL_nextReminder 14 = .ok (.ireturn, 1) := by decide +kernel
theorem dL_nextReminder_15 : decode cL_nextReminder 15 = .ok (.astore_n 3, 1) := by decide +kernel
theorem dL_nextReminder_16 : decode cL_nextReminder 16 = .ok (.iconst 2, 1) := by decide +kernel
theorem dL_nextReminder_17 : decode cL_nextReminder 17 = .ok (.ireturn, 1) := by decide +kernel
theorem dL_nextReminder_18 : decode cL_nextReminder 18 = .ok (.iconst 0, 1) := by decide +kernel
theorem dL_nextReminder_19 : decode cL_nextReminder 19 = .ok (.ireturn, 1) := by decide +kernel
set_option maxRecDepth 20000 in
theorem ggL_post_X2_post : GoodIn wsL_post wsX2_post := goodIn_ca (goodIn_ca (goodIn_ca (goodIn_r _ [7, 8, 9, 10, 11, 12, 13, 14, 15, 16, 6, 17, 18, 19, 20, 21, 22, 23, 24, 25, 26, 27, 28, 29, 30, 31, 32, 33, 34, 35, 36, 37, 38, 39, 40, 41, 42, 43, 44, 45, 46, 47, 48, 49, 50, 51, 52, 53, 54, 55, 56, 57, 58, 59, 60, 61, 62, 63, 64, 65, 66] (by decide +kernel) (by decide +kernel)) (goodIn_sub (fun _ h => List.mem_cons_of_mem _ (List.mem_append_left _ (List.mem_append_right _ h))) (by decide +kernel))) (goodIn_sub (fun _ h => List.mem_cons_of_mem _ (List.mem_append_right _ h)) (by decide +kernel))) (goodIn_sub (fun _ h => List.mem_cons_of_mem _ (List.mem_append_left _ (List.mem_append_left _ (List.mem_append_right _ h)))) (by decide +kernel))
set_option maxRecDepth 20000 in
theorem gL_post_X2_post : GoodIn wsL_post (wsV RL 41 RX2 yX2_post wsX2_post) := goodIn_app (goodIn_of _ (by decide +kernel)) ggL_post_X2_post
theorem dL_post_0 : decode cL_post 0 = .ok (.aload 7, 2) := by decide +kernel
theorem dL_post_2 : decode cL_post 2 = .ok (.iconst 0, 1) := by decide +kernel
theorem dL_post_3 : decode cL_post 3 = .ok (.aload_n 0, 1) := by decide +kernel
theorem dL_post_4 : decode cL_post 4 = .ok (.iload_n 1, 1) := by decide +kernel
theorem dL_post_5 : decode cL_post 5 = .ok (.iload_n 2, 1) := by decide +kernel
theorem dL_post_6 : decode cL_post 6 = .ok (.iload_n 3, 1) := by decide +kernel
theorem dL_post_7 : decode cL_post 7 = .ok (.iload 4, 2) := by decide +kernel
theorem dL_post_9 : decode cL_post 9 = .ok (.iload 5, 2) := by decide +kernel
theorem dL_post_11 : decode cL_post 11 = .ok (.iload 6, 2) := by decide +kernel
theorem dL_post_13 : decode cL_post 13 = .ok (.invokevirtual 41, 3) := by decide +kernel
theorem dL_post_16 : decode cL_post 16 = .ok (.i2l, 1) := by decide +kernel
theorem dL_post_17 : decode cL_post 17 = .ok (.lastore, 1) := by decide +kernel
theorem dL_post_18 : decode cL_post 18 = .ok (.goto 11, 3) := by decide +kernel
theorem dL_post_21 : decode cL_post 21 = .ok (.astore 8, 2) := by decide +kernel
theorem dL_post_23 : decode cL_post 23 = .ok (.iconst 1, 1) := by decide +kernel
theorem dL_post_24 : decode cL_post 24 = .ok (.ireturn, 1) := by decide +kernel
theorem dL_post_25 : decode cL_post 25 = .ok (.astore 8, 2) := by decide +kernel
theorem dL_post_27 : decode cL_post 27 = .ok (.iconst 2, 1) := by decide +kernel
theorem dL_post_28 : decode cL_post 28 = .ok (.ireturn, 1) := by decide +kernel
theorem dL_post_29 : decode cL_post 29 = .ok (.iconst 0, 1) := by decide +kernel
theorem dL_post_30 : decode cL_post 30 = .ok (.ireturn, 1) := by decide +kernel
set_option maxRecDepth 20000 in
theorem ggL_withKey_X2_withKey : GoodIn wsL_withKey wsX2_withKey := goodIn_ca (goodIn_ca (goodIn_r _ [6, 7, 8, 9, 10, 11, 12, 13, 14, 15, 16, 17, 18, 19, 20, 21, 22, 23, 24, 25, 26, 27, 28, 29, 30, 31] (by decide +kernel) (by decide +kernel)) (goodIn_sub (fun _ h => List.mem_cons_of_mem _ (List.mem_append_right _ h)) (by decide +kernel))) (goodIn_sub (fun _ h => List.mem_cons_of_mem _ (List.mem_append_left _ (List.mem_append_right _ h))) (by decide +kernel))
set_option maxRecDepth 20000 in
theorem gL_withKey_X2_withKey : GoodIn wsL_withKey (wsV RL 45 RX2 yX2_withKey wsX2_withKey) := goodIn_app (goodIn_of _ (by decide +kernel)) ggL_withKey_X2_withKey
theorem dL_withKey_0 : decode cL_withKey 0 = .ok (.aload_n 2, 1) := by decide +kernel
theorem dL_withKey_1 : decode cL_withKey 1 = .ok (.iconst 0, 1) := by decide +kernel
theorem dL_withKey_2 : decode cL_withKey 2 = .ok (.aload_n 0, 1) := by decide +kernel
theorem dL_withKey_3 : decode cL_withKey 3 = .ok (.iload_n 1, 1) := by decide +kernel
theorem dL_withKey_4 : decode cL_withKey 4 = .ok (.invokevirtual 45, 3) := by decide +kernel
theorem dL_withKey_7 : decode cL_withKey 7 = .ok (.i2l, 1) := by decide +kernel
theorem dL_withKey_8 : decode cL_withKey 8 = .ok (.lastore, 1) := by decide +kernel
theorem dL_withKey_9 : decode cL_withKey 9 = .ok (.goto 6, 3) := by decide +kernel
theorem dL_withKey_12 : decode cL_withKey 12 = .ok (.astore_n 3, 1) := by decide +kernel
theorem dL_withKey_13 : decode cL_withKey 13 = .ok (.iconst 1, 1) := by decide +kernel
theorem dL_withKey_14 : decode cL_withKey 14 = .ok (.ireturn, 1) := by decide +kernel
theorem dL_withKey_15 : decode cL_withKey 15 = .ok (.iconst 0, 1) := by decide +kernel
theorem dL_withKey_16 : decode cL_withKey 16 = .ok (.ireturn, 1) := by decide +kernel
set_option maxRecDepth 20000 in
theorem ggL_state_X2_state : GoodIn wsL_state wsX2_state := goodIn_ca (goodIn_ca (goodIn_r _ [6, 7, 8, 9, 10, 5, 11, 12, 13, 14, 15, 16, 17, 18, 19, 20, 21, 22, 23, 24, 25, 26, 27, 28, 29, 30, 31, 32, 33, 34] (by decide +kernel) (by decide +kernel)) (goodIn_sub (fun _ h => List.mem_cons_of_mem _ (List.mem_append_left _ (List.mem_append_right _ h))) (by decide +kernel))) (goodIn_sub (fun _ h => List.mem_cons_of_mem _ (List.mem_append_right _ h)) (by decide +kernel))
set_option maxRecDepth 20000 in
theorem gL_state_X2_state : GoodIn wsL_state (wsV RL 48 RX2 yX2_state wsX2_state) := goodIn_app (goodIn_of _ (by decide +kernel)) ggL_state_X2_state
theorem dL_state_0 : decode cL_state 0 = .ok (.aload_n 2, 1) := by decide +kernel
theorem dL_state_1 : decode cL_state 1 = .ok (.iconst 0, 1) := by decide +kernel
theorem dL_state_2 : decode cL_state 2 = .ok (.aload_n 0, 1) := by decide +kernel
theorem dL_state_3 : decode cL_state 3 = .ok (.iload_n 1, 1) := by decide +kernel
theorem dL_state_4 : decode cL_state 4 = .ok (.invokevirtual 48, 3) := by decide +kernel
theorem dL_state_7 : decode cL_state 7 = .ok (.i2l, 1) := by decide +kernel
theorem dL_state_8 : decode cL_state 8 = .ok (.lastore, 1) := by decide +kernel
theorem dL_state_9 : decode cL_state 9 = .ok (.goto 6, 3) := by decide +kernel
theorem dL_state_12 : decode cL_state 12 = .ok (.astore_n 3, 1) := by decide +kernel
theorem dL_state_13 : decode cL_state 13 = .ok (.iconst 1, 1) := by decide +kernel
theorem dL_state_14 : decode cL_state 14 = .ok (.ireturn, 1) := by decide +kernel
theorem dL_state_15 : decode cL_state 15 = .ok (.iconst 0, 1) := by decide +kernel
theorem dL_state_16 : decode cL_state 16 = .ok (.ireturn, 1) := by decide +kernel
set_option maxRecDepth 20000 in
theorem ggL_kind_X2_kind : GoodIn wsL_kind wsX2_kind := goodIn_ca (goodIn_ca (goodIn_r _ [6, 7, 8, 9, 10, 5, 11, 12, 13, 14, 15, 16, 17, 18, 19, 20, 21, 22, 23, 24, 25, 26, 27, 28, 29, 30, 31, 32, 33, 34] (by decide +kernel) (by decide +kernel)) (goodIn_sub (fun _ h => List.mem_cons_of_mem _ (List.mem_append_left _ (List.mem_append_right _ h))) (by decide +kernel))) (goodIn_sub (fun _ h => List.mem_cons_of_mem _ (List.mem_append_right _ h)) (by decide +kernel))
set_option maxRecDepth 20000 in
theorem gL_kind_X2_kind : GoodIn wsL_kind (wsV RL 52 RX2 yX2_kind wsX2_kind) := goodIn_app (goodIn_of _ (by decide +kernel)) ggL_kind_X2_kind
theorem dL_kind_0 : decode cL_kind 0 = .ok (.aload_n 2, 1) := by decide +kernel
theorem dL_kind_1 : decode cL_kind 1 = .ok (.iconst 0, 1) := by decide +kernel
theorem dL_kind_2 : decode cL_kind 2 = .ok (.aload_n 0, 1) := by decide +kernel
theorem dL_kind_3 : decode cL_kind 3 = .ok (.iload_n 1, 1) := by decide +kernel
theorem dL_kind_4 : decode cL_kind 4 = .ok (.invokevirtual 52, 3) := by decide +kernel
theorem dL_kind_7 : decode cL_kind 7 = .ok (.i2l, 1) := by decide +kernel
theorem dL_kind_8 : decode cL_kind 8 = .ok (.lastore, 1) := by decide +kernel
theorem dL_kind_9 : decode cL_kind 9 = .ok (.goto 6, 3) := by decide +kernel
theorem dL_kind_12 : decode cL_kind 12 = .ok (.astore_n 3, 1) := by decide +kernel
theorem dL_kind_13 : decode cL_kind 13 = .ok (.iconst 1, 1) := by decide +kernel
theorem dL_kind_14 : decode cL_kind 14 = .ok (.ireturn, 1) := by decide +kernel
theorem dL_kind_15 : decode cL_kind 15 = .ok (.iconst 0, 1) := by decide +kernel
theorem dL_kind_16 : decode cL_kind 16 = .ok (.ireturn, 1) := by decide +kernel
set_option maxRecDepth 20000 in
theorem ggL_tries_X2_tries : GoodIn wsL_tries wsX2_tries := goodIn_ca (goodIn_ca (goodIn_r _ [6, 7, 8, 9, 10, 5, 11, 12, 13, 14, 15, 16, 17, 18, 19, 20, 21, 22, 23, 24, 25, 26, 27, 28, 29, 30, 31, 32, 33, 34] (by decide +kernel) (by decide +kernel)) (goodIn_sub (fun _ h => List.mem_cons_of_mem _ (List.mem_append_left _ (List.mem_append_right _ h))) (by decide +kernel))) (goodIn_sub (fun _ h => List.mem_cons_of_mem _ (List.mem_append_right _ h)) (by decide +kernel))
set_option maxRecDepth 20000 in
theorem gL_tries_X2_tries : GoodIn wsL_tries (wsV RL 55 RX2 yX2_tries wsX2_tries) := goodIn_app (goodIn_of _ (by decide +kernel)) ggL_tries_X2_tries
theorem dL_tries_0 : decode cL_tries 0 = .ok (.aload_n 2, 1) := by decide +kernel
theorem dL_tries_1 : decode cL_tries 1 = .ok (.iconst 0, 1) := by decide +kernel
theorem dL_tries_2 : decode cL_tries 2 = .ok (.aload_n 0, 1) := by decide +kernel
theorem dL_tries_3 : decode cL_tries 3 = .ok (.iload_n 1, 1) := by decide +kernel
theorem dL_tries_4 : decode cL_tries 4 = .ok (.invokevirtual 55, 3) := by decide +kernel
theorem dL_tries_7 : decode cL_tries 7 = .ok (.i2l, 1) := by decide +kernel
theorem dL_tries_8 : decode cL_tries 8 = .ok (.lastore, 1) := by decide +kernel
theorem dL_tries_9 : decode cL_tries 9 = .ok (.goto 6, 3) := by decide +kernel
theorem dL_tries_12 : decode cL_tries 12 = .ok (.astore_n 3, 1) := by decide +kernel
theorem dL_tries_13 : decode cL_tries 13 = .ok (.iconst 1, 1) := by decide +kernel
theorem dL_tries_14 : decode cL_tries 14 = .ok (.ireturn, 1) := by decide +kernel
theorem dL_tries_15 : decode cL_tries 15 = .ok (.iconst 0, 1) := by decide +kernel
theorem dL_tries_16 : decode cL_tries 16 = .ok (.ireturn, 1) := by decide +kernel
set_option maxRecDepth 20000 in
theorem ggL_readyAt_X2_readyAt : GoodIn wsL_readyAt wsX2_readyAt := goodIn_ca (goodIn_ca (goodIn_ca (goodIn_r _ [7, 8, 9, 10, 11, 6, 12, 13, 14, 15, 16, 17, 18, 19, 20, 21, 22, 23, 24, 25, 26, 27, 28, 29, 30, 31, 32, 33, 34, 35, 36, 37, 38, 39, 40, 41] (by decide +kernel) (by decide +kernel)) (goodIn_sub (fun _ h => List.mem_cons_of_mem _ (List.mem_append_left _ (List.mem_append_left _ (List.mem_append_right _ h)))) (by decide +kernel))) (goodIn_sub (fun _ h => List.mem_cons_of_mem _ (List.mem_append_left _ (List.mem_append_right _ h))) (by decide +kernel))) (goodIn_sub (fun _ h => List.mem_cons_of_mem _ (List.mem_append_right _ h)) (by decide +kernel))
set_option maxRecDepth 20000 in
theorem gL_readyAt_X2_readyAt : GoodIn wsL_readyAt (wsV RL 58 RX2 yX2_readyAt wsX2_readyAt) := goodIn_app (goodIn_of _ (by decide +kernel)) ggL_readyAt_X2_readyAt
theorem dL_readyAt_0 : decode cL_readyAt 0 = .ok (.aload_n 2, 1) := by decide +kernel
theorem dL_readyAt_1 : decode cL_readyAt 1 = .ok (.iconst 0, 1) := by decide +kernel
theorem dL_readyAt_2 : decode cL_readyAt 2 = .ok (.aload_n 0, 1) := by decide +kernel
theorem dL_readyAt_3 : decode cL_readyAt 3 = .ok (.iload_n 1, 1) := by decide +kernel
theorem dL_readyAt_4 : decode cL_readyAt 4 = .ok (.invokevirtual 58, 3) := by decide +kernel
theorem dL_readyAt_7 : decode cL_readyAt 7 = .ok (.i2l, 1) := by decide +kernel
theorem dL_readyAt_8 : decode cL_readyAt 8 = .ok (.lastore, 1) := by decide +kernel
theorem dL_readyAt_9 : decode cL_readyAt 9 = .ok (.goto 9, 3) := by decide +kernel
theorem dL_readyAt_12 : decode cL_readyAt 12 = .ok (.astore_n 3, 1) := by decide +kernel
theorem dL_readyAt_13 : decode cL_readyAt 13 = .ok (.iconst 1, 1) := by decide +kernel
theorem dL_readyAt_14 : decode cL_readyAt 14 = .ok (.ireturn, 1) := by decide +kernel
theorem dL_readyAt_15 : decode cL_readyAt 15 = .ok (.astore_n 3, 1) := by decide +kernel
theorem dL_readyAt_16 : decode cL_readyAt 16 = .ok (.iconst 2, 1) := by decide +kernel
theorem dL_readyAt_17 : decode cL_readyAt 17 = .ok (.ireturn, 1) := by decide +kernel
theorem dL_readyAt_18 : decode cL_readyAt 18 = .ok (.iconst 0, 1) := by decide +kernel
theorem dL_readyAt_19 : decode cL_readyAt 19 = .ok (.ireturn, 1) := by decide +kernel
set_option maxRecDepth 20000 in
theorem ggL_ready_X2_ready : GoodIn wsL_ready wsX2_ready := goodIn_ca (goodIn_ca (goodIn_r _ [6, 7, 8, 9, 10, 5, 11, 12, 13, 14, 15, 16, 17, 18, 19, 20, 21, 22, 23, 24, 25, 26, 27, 28, 29, 30, 31, 32, 33, 34, 35, 36, 37, 38, 39, 40, 41, 42, 43, 44] (by decide +kernel) (by decide +kernel)) (goodIn_sub (fun _ h => List.mem_cons_of_mem _ (List.mem_append_right _ h)) (by decide +kernel))) (goodIn_sub (fun _ h => List.mem_cons_of_mem _ (List.mem_append_left _ (List.mem_append_right _ h))) (by decide +kernel))
set_option maxRecDepth 20000 in
theorem gL_ready_X2_ready : GoodIn wsL_ready (wsV RL 61 RX2 yX2_ready wsX2_ready) := goodIn_app (goodIn_of _ (by decide +kernel)) ggL_ready_X2_ready
theorem dL_ready_0 : decode cL_ready 0 = .ok (.aload_n 2, 1) := by decide +kernel
theorem dL_ready_1 : decode cL_ready 1 = .ok (.iconst 0, 1) := by decide +kernel
theorem dL_ready_2 : decode cL_ready 2 = .ok (.aload_n 0, 1) := by decide +kernel
theorem dL_ready_3 : decode cL_ready 3 = .ok (.iload_n 1, 1) := by decide +kernel
theorem dL_ready_4 : decode cL_ready 4 = .ok (.invokevirtual 61, 3) := by decide +kernel
theorem dL_ready_7 : decode cL_ready 7 = .ok (.i2l, 1) := by decide +kernel
theorem dL_ready_8 : decode cL_ready 8 = .ok (.lastore, 1) := by decide +kernel
theorem dL_ready_9 : decode cL_ready 9 = .ok (.goto 6, 3) := by decide +kernel
theorem dL_ready_12 : decode cL_ready 12 = .ok (.astore_n 3, 1) := by decide +kernel
theorem dL_ready_13 : decode cL_ready 13 = .ok (.iconst 1, 1) := by decide +kernel
theorem dL_ready_14 : decode cL_ready 14 = .ok (.ireturn, 1) := by decide +kernel
theorem dL_ready_15 : decode cL_ready 15 = .ok (.iconst 0, 1) := by decide +kernel
theorem dL_ready_16 : decode cL_ready 16 = .ok (.ireturn, 1) := by decide +kernel
set_option maxRecDepth 20000 in
theorem ggL_readyAtPlace_X2_readyAtPlace : GoodIn wsL_readyAtPlace wsX2_readyAtPlace := goodIn_ca (goodIn_ca (goodIn_ca (goodIn_r _ [7, 8, 9, 10, 11, 12, 13, 6, 14, 15, 16, 17, 18, 19, 20, 21, 22, 23, 24, 25, 26, 27, 28, 29, 30, 31, 32, 33, 34, 35, 36, 37, 38, 39, 40, 41, 42, 43, 44, 45, 46, 47, 48, 49, 50, 51, 52, 53, 54] (by decide +kernel) (by decide +kernel)) (goodIn_sub (fun _ h => List.mem_cons_of_mem _ (List.mem_append_left _ (List.mem_append_right _ h))) (by decide +kernel))) (goodIn_sub (fun _ h => List.mem_cons_of_mem _ (List.mem_append_right _ h)) (by decide +kernel))) (goodIn_sub (fun _ h => List.mem_cons_of_mem _ (List.mem_append_left _ (List.mem_append_left _ (List.mem_append_right _ h)))) (by decide +kernel))
set_option maxRecDepth 20000 in
theorem gL_readyAtPlace_X2_readyAtPlace : GoodIn wsL_readyAtPlace (wsV RL 64 RX2 yX2_readyAtPlace wsX2_readyAtPlace) := goodIn_app (goodIn_of _ (by decide +kernel)) ggL_readyAtPlace_X2_readyAtPlace
theorem dL_readyAtPlace_0 : decode cL_readyAtPlace 0 = .ok (.aload_n 3, 1) := by decide +kernel
theorem dL_readyAtPlace_1 : decode cL_readyAtPlace 1 = .ok (.iconst 0, 1) := by decide +kernel
theorem dL_readyAtPlace_2 : decode cL_readyAtPlace 2 = .ok (.aload_n 0, 1) := by decide +kernel
theorem dL_readyAtPlace_3 : decode cL_readyAtPlace 3 = .ok (.iload_n 1, 1) := by decide +kernel
theorem dL_readyAtPlace_4 : decode cL_readyAtPlace 4 = .ok (.iload_n 2, 1) := by decide +kernel
theorem dL_readyAtPlace_5 : decode cL_readyAtPlace 5 = .ok (.invokevirtual 64, 3) := by decide +kernel
theorem dL_readyAtPlace_8 : decode cL_readyAtPlace 8 = .ok (.i2l, 1) := by decide +kernel
theorem dL_readyAtPlace_9 : decode cL_readyAtPlace 9 = .ok (.lastore, 1) := by decide +kernel
theorem dL_readyAtPlace_10 : decode cL_readyAtPlace 10 = .ok (.goto 11, 3) := by decide +kernel
theorem dL_readyAtPlace_13 : decode cL_readyAtPlace 13 = .ok (.astore 4, 2) := by decide +kernel
theorem dL_readyAtPlace_15 : decode cL_readyAtPlace 15 = .ok (.iconst 1, 1) := by decide +kernel
theorem dL_readyAtPlace_16 : decode cL_readyAtPlace 16 = .ok (.ireturn, 1) := by decide +kernel
theorem dL_readyAtPlace_17 : decode cL_readyAtPlace 17 = .ok (.astore 4, 2) := by decide +kernel
theorem dL_readyAtPlace_19 : decode cL_readyAtPlace 19 = .ok (.iconst 2, 1) := by decide +kernel
theorem dL_readyAtPlace_20 : decode cL_readyAtPlace 20 = .ok (.ireturn, 1) := by decide +kernel
theorem dL_readyAtPlace_21 : decode cL_readyAtPlace 21 = .ok (.iconst 0, 1) := by decide +kernel
theorem dL_readyAtPlace_22 : decode cL_readyAtPlace 22 = .ok (.ireturn, 1) := by decide +kernel
set_option maxRecDepth 20000 in
theorem ggL_take_X2_take : GoodIn wsL_take wsX2_take := goodIn_ca (goodIn_ca (goodIn_ca (goodIn_ca (goodIn_r _ [8, 9, 10, 11, 12, 13, 14, 15, 16, 7, 17, 18, 19, 20, 21, 22, 23, 24, 25, 26, 27, 28, 29, 30, 31, 32, 33, 34, 35, 36, 37, 38, 39, 40, 41, 42, 43, 44, 45, 46, 47, 48, 49, 50, 51, 52, 53, 54, 55, 56, 57, 58, 59, 60, 61, 62, 63, 64, 65] (by decide +kernel) (by decide +kernel)) (goodIn_sub (fun _ h => List.mem_cons_of_mem _ (List.mem_append_left _ (List.mem_append_left _ (List.mem_append_right _ h)))) (by decide +kernel))) (goodIn_sub (fun _ h => List.mem_cons_of_mem _ (List.mem_append_left _ (List.mem_append_right _ h))) (by decide +kernel))) (goodIn_sub (fun _ h => List.mem_cons_of_mem _ (List.mem_append_right _ h)) (by decide +kernel))) (goodIn_sub (fun _ h => List.mem_cons_of_mem _ (List.mem_append_left _ (List.mem_append_left _ (List.mem_append_left _ (List.mem_append_right _ h))))) (by decide +kernel))
set_option maxRecDepth 20000 in
theorem gL_take_X2_take : GoodIn wsL_take (wsV RL 67 RX2 yX2_take wsX2_take) := goodIn_app (goodIn_of _ (by decide +kernel)) ggL_take_X2_take
theorem dL_take_0 : decode cL_take 0 = .ok (.aload_n 3, 1) := by decide +kernel
theorem dL_take_1 : decode cL_take 1 = .ok (.iconst 0, 1) := by decide +kernel
theorem dL_take_2 : decode cL_take 2 = .ok (.aload_n 0, 1) := by decide +kernel
theorem dL_take_3 : decode cL_take 3 = .ok (.iload_n 1, 1) := by decide +kernel
theorem dL_take_4 : decode cL_take 4 = .ok (.iload_n 2, 1) := by decide +kernel
theorem dL_take_5 : decode cL_take 5 = .ok (.invokevirtual 67, 3) := by decide +kernel
theorem dL_take_8 : decode cL_take 8 = .ok (.i2l, 1) := by decide +kernel
theorem dL_take_9 : decode cL_take 9 = .ok (.lastore, 1) := by decide +kernel
theorem dL_take_10 : decode cL_take 10 = .ok (.goto 15, 3) := by decide +kernel
theorem dL_take_13 : decode cL_take 13 = .ok (.astore 4, 2) := by decide +kernel
theorem dL_take_15 : decode cL_take 15 = .ok (.iconst 1, 1) := by decide +kernel
theorem dL_take_16 : decode cL_take 16 = .ok (.ireturn, 1) := by decide +kernel
theorem dL_take_17 : decode cL_take 17 = .ok (.astore 4, 2) := by decide +kernel
theorem dL_take_19 : decode cL_take 19 = .ok (.iconst 2, 1) := by decide +kernel
theorem dL_take_20 : decode cL_take 20 = .ok (.ireturn, 1) := by decide +kernel
theorem dL_take_21 : decode cL_take 21 = .ok (.astore 4, 2) := by decide +kernel
theorem dL_take_23 : decode cL_take 23 = .ok (.iconst 3, 1) := by decide +kernel
theorem dL_take_24 : decode cL_take 24 = .ok (.ireturn, 1) := by decide +kernel
theorem dL_take_25 : decode cL_take 25 = .ok (.iconst 0, 1) := by decide +kernel
theorem dL_take_26 : decode cL_take 26 = .ok (.ireturn, 1) := by decide +kernel
set_option maxRecDepth 20000 in
theorem ggL_finish_X2_finish : GoodIn wsL_finish wsX2_finish := goodIn_ca (goodIn_ca (goodIn_ca (goodIn_r _ [7, 8, 9, 10, 11, 6, 12, 13, 14, 15, 16, 17, 18, 19, 20, 21, 22, 23, 24, 25, 26, 27, 28, 29, 30, 31, 32, 33, 34, 35, 36, 37, 38, 39, 40, 41, 42, 43, 44, 45, 46, 47, 48, 49, 50, 51, 52, 53, 54, 55, 56, 57, 58, 59, 60, 61, 62, 63, 64, 65, 66, 67, 68, 69, 70, 71, 72, 73, 74, 75, 76, 77, 78, 79, 80, 81, 82, 83, 84] (by decide +kernel) (by decide +kernel)) (goodIn_sub (fun _ h => List.mem_cons_of_mem _ (List.mem_append_left _ (List.mem_append_right _ h))) (by decide +kernel))) (goodIn_sub (fun _ h => List.mem_cons_of_mem _ (List.mem_append_left _ (List.mem_append_left _ (List.mem_append_right _ h)))) (by decide +kernel))) (goodIn_sub (fun _ h => List.mem_cons_of_mem _ (List.mem_append_right _ h)) (by decide +kernel))
set_option maxRecDepth 20000 in
theorem gL_finish_X2_finish : GoodIn wsL_finish (wsV RL 70 RX2 yX2_finish wsX2_finish) := goodIn_app (goodIn_of _ (by decide +kernel)) ggL_finish_X2_finish
theorem dL_finish_0 : decode cL_finish 0 = .ok (.aload_n 2, 1) := by decide +kernel
theorem dL_finish_1 : decode cL_finish 1 = .ok (.iconst 0, 1) := by decide +kernel
theorem dL_finish_2 : decode cL_finish 2 = .ok (.aload_n 0, 1) := by decide +kernel
theorem dL_finish_3 : decode cL_finish 3 = .ok (.iload_n 1, 1) := by decide +kernel
theorem dL_finish_4 : decode cL_finish 4 = .ok (.invokevirtual 70, 3) := by decide +kernel
theorem dL_finish_7 : decode cL_finish 7 = .ok (.ifCond .eq 7, 3) := by decide +kernel
theorem dL_finish_10 : decode cL_finish 10 = .ok (.lconst 1, 1) := by decide +kernel
theorem dL_finish_11 : decode cL_finish 11 = .ok (.goto 4, 3) := by decide +kernel
theorem dL_finish_14 : decode cL_finish 14 = .ok (.lconst 0, 1) := by decide +kernel
theorem dL_finish_15 : decode cL_finish 15 = .ok (.lastore, 1) := by decide +kernel
theorem dL_finish_16 : decode cL_finish 16 = .ok (.goto 9, 3) := by decide +kernel
theorem dL_finish_19 : decode cL_finish 19 = .ok (.astore_n 3, 1) := by decide +kernel
theorem dL_finish_20 : decode cL_finish 20 = .ok (.iconst 1, 1) := by decide +kernel
theorem dL_finish_21 : decode cL_finish 21 = .ok (.ireturn, 1) := by decide +kernel
theorem dL_finish_22 : decode cL_finish 22 = .ok (.astore_n 3, 1) := by decide +kernel
theorem dL_finish_23 : decode cL_finish 23 = .ok (.iconst 2, 1) := by decide +kernel
theorem dL_finish_24 : decode cL_finish 24 = .ok (.ireturn, 1) := by decide +kernel
theorem dL_finish_25 : decode cL_finish 25 = .ok (.iconst 0, 1) := by decide +kernel
theorem dL_finish_26 : decode cL_finish 26 = .ok (.ireturn, 1) := by decide +kernel
set_option maxRecDepth 20000 in
theorem ggL_handBack_X2_handBack : GoodIn wsL_handBack wsX2_handBack := goodIn_ca (goodIn_ca (goodIn_ca (goodIn_r _ [7, 8, 9, 10, 11, 12, 6, 13, 14, 15, 16, 17, 18, 19, 20, 21, 22, 23, 24, 25, 26, 27, 28, 29, 30, 31, 32, 33, 34, 35, 36, 37, 38, 39, 40, 41, 42, 43, 44, 45, 46, 47, 48] (by decide +kernel) (by decide +kernel)) (goodIn_sub (fun _ h => List.mem_cons_of_mem _ (List.mem_append_left _ (List.mem_append_left _ (List.mem_append_right _ h)))) (by decide +kernel))) (goodIn_sub (fun _ h => List.mem_cons_of_mem _ (List.mem_append_left _ (List.mem_append_right _ h))) (by decide +kernel))) (goodIn_sub (fun _ h => List.mem_cons_of_mem _ (List.mem_append_right _ h)) (by decide +kernel))
set_option maxRecDepth 20000 in
theorem gL_handBack_X2_handBack : GoodIn wsL_handBack (wsV RL 73 RX2 yX2_handBack wsX2_handBack) := goodIn_app (goodIn_of _ (by decide +kernel)) ggL_handBack_X2_handBack
theorem dL_handBack_0 : decode cL_handBack 0 = .ok (.aload_n 2, 1) := by decide +kernel
theorem dL_handBack_1 : decode cL_handBack 1 = .ok (.iconst 0, 1) := by decide +kernel
theorem dL_handBack_2 : decode cL_handBack 2 = .ok (.aload_n 0, 1) := by decide +kernel
theorem dL_handBack_3 : decode cL_handBack 3 = .ok (.iload_n 1, 1) := by decide +kernel
theorem dL_handBack_4 : decode cL_handBack 4 = .ok (.invokevirtual 73, 3) := by decide +kernel
theorem dL_handBack_7 : decode cL_handBack 7 = .ok (.i2l, 1) := by decide +kernel
theorem dL_handBack_8 : decode cL_handBack 8 = .ok (.lastore, 1) := by decide +kernel
theorem dL_handBack_9 : decode cL_handBack 9 = .ok (.goto 9, 3) := by decide +kernel
theorem dL_handBack_12 : decode cL_handBack 12 = .ok (.astore_n 3, 1) := by decide +kernel
theorem dL_handBack_13 : decode cL_handBack 13 = .ok (.iconst 1, 1) := by decide +kernel
theorem dL_handBack_14 : decode cL_handBack 14 = .ok (.ireturn, 1) := by decide +kernel
theorem dL_handBack_15 : decode cL_handBack 15 = .ok (.astore_n 3, 1) := by decide +kernel
theorem dL_handBack_16 : decode cL_handBack 16 = .ok (.iconst 2, 1) := by decide +kernel
theorem dL_handBack_17 : decode cL_handBack 17 = .ok (.ireturn, 1) := by decide +kernel
theorem dL_handBack_18 : decode cL_handBack 18 = .ok (.iconst 0, 1) := by decide +kernel
theorem dL_handBack_19 : decode cL_handBack 19 = .ok (.ireturn, 1) := by decide +kernel
set_option maxRecDepth 20000 in
theorem ggL_revive_X2_revive : GoodIn wsL_revive wsX2_revive := goodIn_ca (goodIn_ca (goodIn_ca (goodIn_r _ [7, 8, 9, 10, 11, 12, 6, 13, 14, 15, 16, 17, 18, 19, 20, 21, 22, 23, 24, 25, 26, 27, 28, 29, 30, 31, 32, 33, 34, 35, 36, 37, 38, 39, 40, 41, 42, 43, 44, 45, 46, 47, 48, 49, 50, 51] (by decide +kernel) (by decide +kernel)) (goodIn_sub (fun _ h => List.mem_cons_of_mem _ (List.mem_append_left _ (List.mem_append_right _ h))) (by decide +kernel))) (goodIn_sub (fun _ h => List.mem_cons_of_mem _ (List.mem_append_left _ (List.mem_append_left _ (List.mem_append_right _ h)))) (by decide +kernel))) (goodIn_sub (fun _ h => List.mem_cons_of_mem _ (List.mem_append_right _ h)) (by decide +kernel))
set_option maxRecDepth 20000 in
theorem gL_revive_X2_revive : GoodIn wsL_revive (wsV RL 76 RX2 yX2_revive wsX2_revive) := goodIn_app (goodIn_of _ (by decide +kernel)) ggL_revive_X2_revive
theorem dL_revive_0 : decode cL_revive 0 = .ok (.aload_n 2, 1) := by decide +kernel
theorem dL_revive_1 : decode cL_revive 1 = .ok (.iconst 0, 1) := by decide +kernel
theorem dL_revive_2 : decode cL_revive 2 = .ok (.aload_n 0, 1) := by decide +kernel
theorem dL_revive_3 : decode cL_revive 3 = .ok (.iload_n 1, 1) := by decide +kernel
theorem dL_revive_4 : decode cL_revive 4 = .ok (.invokevirtual 76, 3) := by decide +kernel
theorem dL_revive_7 : decode cL_revive 7 = .ok (.i2l, 1) := by decide +kernel
theorem dL_revive_8 : decode cL_revive 8 = .ok (.lastore, 1) := by decide +kernel
theorem dL_revive_9 : decode cL_revive 9 = .ok (.goto 9, 3) := by decide +kernel
theorem dL_revive_12 : decode cL_revive 12 = .ok (.astore_n 3, 1) := by decide +kernel
theorem dL_revive_13 : decode cL_revive 13 = .ok (.iconst 1, 1) := by decide +kernel
theorem dL_revive_14 : decode cL_revive 14 = .ok (.ireturn, 1) := by decide +kernel
theorem dL_revive_15 : decode cL_revive 15 = .ok (.astore_n 3, 1) := by decide +kernel
theorem dL_revive_16 : decode cL_revive 16 = .ok (.iconst 2, 1) := by decide +kernel
theorem dL_revive_17 : decode cL_revive 17 = .ok (.ireturn, 1) := by decide +kernel
theorem dL_revive_18 : decode cL_revive 18 = .ok (.iconst 0, 1) := by decide +kernel
theorem dL_revive_19 : decode cL_revive 19 = .ok (.ireturn, 1) := by decide +kernel
set_option maxRecDepth 20000 in
theorem ggL_clerk_X2_clerk : GoodIn wsL_clerk wsX2_clerk := goodIn_ca (goodIn_ca (goodIn_ca (goodIn_r _ [7, 8, 9, 10, 11, 12, 13, 6, 14, 15, 16, 17, 18, 19, 20, 21, 22, 23, 24, 25, 26, 27, 28, 29, 30, 31, 32, 33, 34, 35, 36, 37] (by decide +kernel) (by decide +kernel)) (goodIn_sub (fun _ h => List.mem_cons_of_mem _ (List.mem_append_left _ (List.mem_append_left _ (List.mem_append_right _ h)))) (by decide +kernel))) (goodIn_sub (fun _ h => List.mem_cons_of_mem _ (List.mem_append_left _ (List.mem_append_right _ h))) (by decide +kernel))) (goodIn_sub (fun _ h => List.mem_cons_of_mem _ (List.mem_append_right _ h)) (by decide +kernel))
set_option maxRecDepth 20000 in
theorem gL_clerk_X2_clerk : GoodIn wsL_clerk (wsV RL 79 RX2 yX2_clerk wsX2_clerk) := goodIn_app (goodIn_of _ (by decide +kernel)) ggL_clerk_X2_clerk
theorem dL_clerk_0 : decode cL_clerk 0 = .ok (.aload_n 2, 1) := by decide +kernel
theorem dL_clerk_1 : decode cL_clerk 1 = .ok (.iconst 0, 1) := by decide +kernel
theorem dL_clerk_2 : decode cL_clerk 2 = .ok (.aload_n 0, 1) := by decide +kernel
theorem dL_clerk_3 : decode cL_clerk 3 = .ok (.iload_n 1, 1) := by decide +kernel
theorem dL_clerk_4 : decode cL_clerk 4 = .ok (.invokevirtual 79, 3) := by decide +kernel
theorem dL_clerk_7 : decode cL_clerk 7 = .ok (.i2l, 1) := by decide +kernel
theorem dL_clerk_8 : decode cL_clerk 8 = .ok (.lastore, 1) := by decide +kernel
theorem dL_clerk_9 : decode cL_clerk 9 = .ok (.goto 9, 3) := by decide +kernel
theorem dL_clerk_12 : decode cL_clerk 12 = .ok (.astore_n 3, 1) := by decide +kernel
theorem dL_clerk_13 : decode cL_clerk 13 = .ok (.iconst 1, 1) := by decide +kernel
theorem dL_clerk_14 : decode cL_clerk 14 = .ok (.ireturn, 1) := by decide +kernel
theorem dL_clerk_15 : decode cL_clerk 15 = .ok (.astore_n 3, 1) := by decide +kernel
theorem dL_clerk_16 : decode cL_clerk 16 = .ok (.iconst 2, 1) := by decide +kernel
theorem dL_clerk_17 : decode cL_clerk 17 = .ok (.ireturn, 1) := by decide +kernel
theorem dL_clerk_18 : decode cL_clerk 18 = .ok (.iconst 0, 1) := by decide +kernel
theorem dL_clerk_19 : decode cL_clerk 19 = .ok (.ireturn, 1) := by decide +kernel
set_option maxRecDepth 20000 in
theorem ggL_has_X2_has : GoodIn wsL_has wsX2_has := goodIn_ca (goodIn_ca (goodIn_r _ [6, 7, 8, 9, 5, 10, 11, 12, 13, 14, 15, 16, 17, 18, 19, 20, 21, 22, 23, 24, 25, 26, 27, 28, 29, 30, 31, 32, 33, 34, 35, 36, 37, 38] (by decide +kernel) (by decide +kernel)) (goodIn_sub (fun _ h => List.mem_cons_of_mem _ (List.mem_append_right _ h)) (by decide +kernel))) (goodIn_sub (fun _ h => List.mem_cons_of_mem _ (List.mem_append_left _ (List.mem_append_right _ h))) (by decide +kernel))
set_option maxRecDepth 20000 in
theorem gL_has_X2_has : GoodIn wsL_has (wsV RL 82 RX2 yX2_has wsX2_has) := goodIn_app (goodIn_of _ (by decide +kernel)) ggL_has_X2_has
theorem dL_has_0 : decode cL_has 0 = .ok (.aload_n 2, 1) := by decide +kernel
theorem dL_has_1 : decode cL_has 1 = .ok (.iconst 0, 1) := by decide +kernel
theorem dL_has_2 : decode cL_has 2 = .ok (.aload_n 0, 1) := by decide +kernel
theorem dL_has_3 : decode cL_has 3 = .ok (.iload_n 1, 1) := by decide +kernel
theorem dL_has_4 : decode cL_has 4 = .ok (.invokevirtual 82, 3) := by decide +kernel
theorem dL_has_7 : decode cL_has 7 = .ok (.i2l, 1) := by decide +kernel
theorem dL_has_8 : decode cL_has 8 = .ok (.lastore, 1) := by decide +kernel
theorem dL_has_9 : decode cL_has 9 = .ok (.goto 6, 3) := by decide +kernel
theorem dL_has_12 : decode cL_has 12 = .ok (.astore_n 3, 1) := by decide +kernel
theorem dL_has_13 : decode cL_has 13 = .ok (.iconst 1, 1) := by decide +kernel
theorem dL_has_14 : decode cL_has 14 = .ok (.ireturn, 1) := by decide +kernel
theorem dL_has_15 : decode cL_has 15 = .ok (.iconst 0, 1) := by decide +kernel
theorem dL_has_16 : decode cL_has 16 = .ok (.ireturn, 1) := by decide +kernel
set_option maxRecDepth 20000 in
theorem ggL_pass_X2_pass : GoodIn wsL_pass wsX2_pass := goodIn_ca (goodIn_ca (goodIn_r _ [6, 7, 8, 9, 10, 11, 12, 5, 13, 14, 15, 16, 17, 18, 19, 20, 21, 22, 23, 24, 25, 26, 27, 28, 29, 30, 31, 32, 33, 34, 35, 36, 37, 38, 39, 40, 41, 42, 43, 44, 45, 46, 47, 48, 49, 50, 51, 52, 53, 54, 55, 56, 57, 58, 59, 60, 61, 62, 63, 64, 65, 66, 67, 68, 69, 70, 71, 72, 73, 74, 75, 76, 77, 78, 79, 80, 81, 82, 83, 84, 85, 86, 87, 88, 89] (by decide +kernel) (by decide +kernel)) (goodIn_sub (fun _ h => List.mem_cons_of_mem _ (List.mem_append_right _ h)) (by decide +kernel))) (goodIn_sub (fun _ h => List.mem_cons_of_mem _ (List.mem_append_left _ (List.mem_append_right _ h))) (by decide +kernel))
set_option maxRecDepth 20000 in
theorem gL_pass_X2_pass : GoodIn wsL_pass (wsV RL 85 RX2 yX2_pass wsX2_pass) := goodIn_app (goodIn_of _ (by decide +kernel)) ggL_pass_X2_pass
theorem dL_pass_0 : decode cL_pass 0 = .ok (.aload_n 2, 1) := by decide +kernel
theorem dL_pass_1 : decode cL_pass 1 = .ok (.iconst 0, 1) := by decide +kernel
theorem dL_pass_2 : decode cL_pass 2 = .ok (.aload_n 0, 1) := by decide +kernel
theorem dL_pass_3 : decode cL_pass 3 = .ok (.iload_n 1, 1) := by decide +kernel
theorem dL_pass_4 : decode cL_pass 4 = .ok (.invokevirtual 85, 3) := by decide +kernel
theorem dL_pass_7 : decode cL_pass 7 = .ok (.i2l, 1) := by decide +kernel
theorem dL_pass_8 : decode cL_pass 8 = .ok (.lastore, 1) := by decide +kernel
theorem dL_pass_9 : decode cL_pass 9 = .ok (.goto 6, 3) := by decide +kernel
theorem dL_pass_12 : decode cL_pass 12 = .ok (.astore_n 3, 1) := by decide +kernel
theorem dL_pass_13 : decode cL_pass 13 = .ok (.iconst 1, 1) := by decide +kernel
theorem dL_pass_14 : decode cL_pass 14 = .ok (.ireturn, 1) := by decide +kernel
theorem dL_pass_15 : decode cL_pass 15 = .ok (.iconst 0, 1) := by decide +kernel
theorem dL_pass_16 : decode cL_pass 16 = .ok (.ireturn, 1) := by decide +kernel
set_option maxRecDepth 20000 in
theorem ggL_count_X2_count : GoodIn wsL_count wsX2_count := goodIn_ca (goodIn_ca (goodIn_r _ [6, 7, 8, 9, 10, 11, 12, 13, 14, 15, 16, 17, 18, 19, 20, 21, 22, 23, 24, 25, 26, 27, 28, 29, 30, 31] (by decide +kernel) (by decide +kernel)) (goodIn_sub (fun _ h => List.mem_cons_of_mem _ (List.mem_append_right _ h)) (by decide +kernel))) (goodIn_sub (fun _ h => List.mem_cons_of_mem _ (List.mem_append_left _ (List.mem_append_right _ h))) (by decide +kernel))
set_option maxRecDepth 20000 in
theorem gL_count_X2_count : GoodIn wsL_count (wsV RL 88 RX2 yX2_count wsX2_count) := goodIn_app (goodIn_of _ (by decide +kernel)) ggL_count_X2_count
theorem dL_count_0 : decode cL_count 0 = .ok (.aload_n 2, 1) := by decide +kernel
theorem dL_count_1 : decode cL_count 1 = .ok (.iconst 0, 1) := by decide +kernel
theorem dL_count_2 : decode cL_count 2 = .ok (.aload_n 0, 1) := by decide +kernel
theorem dL_count_3 : decode cL_count 3 = .ok (.iload_n 1, 1) := by decide +kernel
theorem dL_count_4 : decode cL_count 4 = .ok (.invokevirtual 88, 3) := by decide +kernel
theorem dL_count_7 : decode cL_count 7 = .ok (.i2l, 1) := by decide +kernel
theorem dL_count_8 : decode cL_count 8 = .ok (.lastore, 1) := by decide +kernel
theorem dL_count_9 : decode cL_count 9 = .ok (.goto 6, 3) := by decide +kernel
theorem dL_count_12 : decode cL_count 12 = .ok (.astore_n 3, 1) := by decide +kernel
theorem dL_count_13 : decode cL_count 13 = .ok (.iconst 1, 1) := by decide +kernel
theorem dL_count_14 : decode cL_count 14 = .ok (.ireturn, 1) := by decide +kernel
theorem dL_count_15 : decode cL_count 15 = .ok (.iconst 0, 1) := by decide +kernel
theorem dL_count_16 : decode cL_count 16 = .ok (.ireturn, 1) := by decide +kernel
set_option maxRecDepth 20000 in
theorem ggL_doneShare_X2_doneShare : GoodIn wsL_doneShare wsX2_doneShare := goodIn_ca (goodIn_ca (goodIn_r _ [6, 7, 8, 9, 10, 11, 12, 13, 14, 15, 16, 17, 18, 19, 20, 21, 22, 23, 24, 25, 26, 27, 28, 29, 30, 31] (by decide +kernel) (by decide +kernel)) (goodIn_sub (fun _ h => List.mem_cons_of_mem _ (List.mem_append_right _ h)) (by decide +kernel))) (goodIn_sub (fun _ h => List.mem_cons_of_mem _ (List.mem_append_left _ (List.mem_append_right _ h))) (by decide +kernel))
set_option maxRecDepth 20000 in
theorem gL_doneShare_X2_doneShare : GoodIn wsL_doneShare (wsV RL 92 RX2 yX2_doneShare wsX2_doneShare) := goodIn_app (goodIn_of _ (by decide +kernel)) ggL_doneShare_X2_doneShare
theorem dL_doneShare_0 : decode cL_doneShare 0 = .ok (.aload_n 1, 1) := by decide +kernel
theorem dL_doneShare_1 : decode cL_doneShare 1 = .ok (.iconst 0, 1) := by decide +kernel
theorem dL_doneShare_2 : decode cL_doneShare 2 = .ok (.aload_n 0, 1) := by decide +kernel
theorem dL_doneShare_3 : decode cL_doneShare 3 = .ok (.invokevirtual 92, 3) := by decide +kernel
theorem dL_doneShare_6 : decode cL_doneShare 6 = .ok (.f2d, 1) := by decide +kernel
theorem dL_doneShare_7 : decode cL_doneShare 7 = .ok (.dastore, 1) := by decide +kernel
theorem dL_doneShare_8 : decode cL_doneShare 8 = .ok (.goto 6, 3) := by decide +kernel
theorem dL_doneShare_11 : decode cL_doneShare 11 = .ok (.astore_n 2, 1) := by decide +kernel
theorem dL_doneShare_12 : decode cL_doneShare 12 = .ok (.iconst 1, 1) := by decide +kernel
theorem dL_doneShare_13 : decode cL_doneShare 13 = .ok (.ireturn, 1) := by decide +kernel
theorem dL_doneShare_14 : decode cL_doneShare 14 = .ok (.iconst 0, 1) := by decide +kernel
theorem dL_doneShare_15 : decode cL_doneShare 15 = .ok (.ireturn, 1) := by decide +kernel
set_option maxRecDepth 20000 in
theorem ggL_meanAmount_X2_meanAmount : GoodIn wsL_meanAmount wsX2_meanAmount := goodIn_ca (goodIn_ca (goodIn_r _ [6, 7, 8, 9, 10, 11, 12, 13, 14, 15, 16, 17, 18, 19, 20, 21, 22, 23, 24, 25, 26, 27, 28, 29, 30, 31, 32] (by decide +kernel) (by decide +kernel)) (goodIn_sub (fun _ h => List.mem_cons_of_mem _ (List.mem_append_right _ h)) (by decide +kernel))) (goodIn_sub (fun _ h => List.mem_cons_of_mem _ (List.mem_append_left _ (List.mem_append_right _ h))) (by decide +kernel))
set_option maxRecDepth 20000 in
theorem gL_meanAmount_X2_meanAmount : GoodIn wsL_meanAmount (wsV RL 98 RX2 yX2_meanAmount wsX2_meanAmount) := goodIn_app (goodIn_of _ (by decide +kernel)) ggL_meanAmount_X2_meanAmount
theorem dL_meanAmount_0 : decode cL_meanAmount 0 = .ok (.aload_n 1, 1) := by decide +kernel
theorem dL_meanAmount_1 : decode cL_meanAmount 1 = .ok (.iconst 0, 1) := by decide +kernel
theorem dL_meanAmount_2 : decode cL_meanAmount 2 = .ok (.aload_n 0, 1) := by decide +kernel
theorem dL_meanAmount_3 : decode cL_meanAmount 3 = .ok (.invokevirtual 98, 3) := by decide +kernel
theorem dL_meanAmount_6 : decode cL_meanAmount 6 = .ok (.dastore, 1) := by decide +kernel
theorem dL_meanAmount_7 : decode cL_meanAmount 7 = .ok (.goto 6, 3) := by decide +kernel
theorem dL_meanAmount_10 : decode cL_meanAmount 10 = .ok (.astore_n 2, 1) := by decide +kernel
theorem dL_meanAmount_11 : decode cL_meanAmount 11 = .ok (.iconst 1, 1) := by decide +kernel
theorem dL_meanAmount_12 : decode cL_meanAmount 12 = .ok (.ireturn, 1) := by decide +kernel
theorem dL_meanAmount_13 : decode cL_meanAmount 13 = .ok (.iconst 0, 1) := by decide +kernel
theorem dL_meanAmount_14 : decode cL_meanAmount 14 = .ok (.ireturn, 1) := by decide +kernel
set_option maxRecDepth 20000 in
theorem ggL_law_X2_init : GoodIn wsL_law wsX2_init := goodIn_r _ [10, 11, 12, 13, 14, 15, 16, 17, 18, 19, 20, 21, 22, 23, 24, 25, 26, 27, 28, 29, 30, 31, 32, 33, 34, 35, 36, 37, 38, 39, 40, 41, 42, 43, 44, 45, 46, 47, 48, 600, 601, 602, 603, 604, 605, 606, 578, 579, 580, 607, 608, 609, 610, 611, 612, 613, 614, 615, 616, 617, 618, 619] (by decide +kernel) (by decide +kernel)
set_option maxRecDepth 20000 in
theorem gL_law_X2_init : GoodIn wsL_law (wsX2_init) := ggL_law_X2_init
set_option maxRecDepth 20000 in
theorem ggL_law_X3_init : GoodIn wsL_law wsX3_init := goodIn_r _ [51, 52, 12, 13, 26, 53, 54, 55, 56, 32, 57, 58, 59, 39, 60, 61, 62, 63, 64, 65, 66, 67, 581, 582, 583, 584, 585, 586, 587, 588, 589, 590, 591, 592, 593, 594, 595, 596, 597, 598, 599] (by decide +kernel) (by decide +kernel)
set_option maxRecDepth 20000 in
theorem gL_law_X3_init : GoodIn wsL_law (wsX3_init) := ggL_law_X3_init
set_option maxRecDepth 20000 in
theorem ggL_law_L_open : GoodIn wsL_law wsL_open := goodIn_ca (goodIn_ca (goodIn_ca (goodIn_r _ [71, 72, 73, 74, 75, 76, 2, 77, 78, 79, 80, 81, 17, 21, 22, 82, 83, 84, 85, 16, 86, 87, 88, 89, 90, 91, 27, 28, 29, 92, 20, 93, 94, 95, 43, 41, 44, 96, 97, 98, 99, 578, 579, 580, 600, 601, 602, 603, 604, 605, 606, 607, 608, 609, 610, 611, 612, 613, 614, 615, 616, 617, 618, 619] (by decide +kernel) (by decide +kernel)) (goodIn_sub (fun _ h => List.mem_append_left _ (List.mem_append_left _ (List.mem_append_left _ (List.mem_append_left _ (List.mem_append_left _ (List.mem_append_right _ h)))))) (by decide +kernel))) (goodIn_sub (fun _ h => List.mem_append_left _ (List.mem_append_left _ (List.mem_append_left _ (List.mem_append_left _ (List.mem_append_right _ h))))) (by decide +kernel))) (goodIn_sub (fun _ h => List.mem_append_left _ (List.mem_append_left _ (List.mem_append_left _ (List.mem_append_right _ h)))) (by decide +kernel))
set_option maxRecDepth 20000 in
theorem gL_law_L_open : GoodIn wsL_law (va_wsS RL 106 yL_open wsL_open) := goodIn_app (goodIn_of _ (by decide +kernel)) ggL_law_L_open
set_option maxRecDepth 20000 in
theorem ggL_law_X3_open : GoodIn wsL_law wsX3_open := goodIn_ca (goodIn_r _ [103, 104, 105, 53, 54, 106, 65, 61, 63, 107, 108, 97, 98, 99, 109, 110, 5, 111, 581, 582, 583, 584, 585, 586, 587, 588, 589, 590, 591, 592, 593, 594, 595, 596, 597, 598, 599] (by decide +kernel) (by decide +kernel)) (goodIn_sub (fun _ h => List.mem_append_left _ (List.mem_append_left _ (List.mem_append_left _ (List.mem_append_left _ (List.mem_append_left _ (List.mem_append_right _ h)))))) (by decide +kernel))
set_option maxRecDepth 20000 in
theorem gL_law_X3_open : GoodIn wsL_law (wsV RL 111 RX3 yX3_open wsX3_open) := goodIn_app (goodIn_of _ (by decide +kernel)) ggL_law_X3_open
set_option maxRecDepth 20000 in
theorem ggL_law_X3_thrown : GoodIn wsL_law wsX3_thrown := goodIn_r _ [115, 105, 581, 582, 583, 584, 585, 586, 587, 588, 589, 590, 591, 592, 593, 594, 595, 596, 597, 598, 599] (by decide +kernel) (by decide +kernel)
set_option maxRecDepth 20000 in
theorem gL_law_X3_thrown : GoodIn wsL_law (wsV RL 112 RX3 yX3_thrown wsX3_thrown) := goodIn_app (goodIn_of _ (by decide +kernel)) ggL_law_X3_thrown
set_option maxRecDepth 20000 in
theorem ggL_law_L_amount : GoodIn wsL_law wsL_amount := goodIn_ca (goodIn_ca (goodIn_r _ [118, 119, 120, 121, 122, 2, 123, 17, 124, 125, 126, 127, 128, 129, 130, 16, 131, 132, 88, 578, 579, 580, 600, 601, 602, 603, 604, 605, 606] (by decide +kernel) (by decide +kernel)) (goodIn_sub (fun _ h => List.mem_append_left _ (List.mem_append_left _ (List.mem_append_left _ (List.mem_append_left _ (List.mem_append_left _ (List.mem_append_right _ h)))))) (by decide +kernel))) (goodIn_sub (fun _ h => List.mem_append_left _ (List.mem_append_left _ (List.mem_append_right _ h))) (by decide +kernel))
set_option maxRecDepth 20000 in
theorem gL_law_L_amount : GoodIn wsL_law (va_wsS RL 116 yL_amount wsL_amount) := goodIn_app (goodIn_of _ (by decide +kernel)) ggL_law_L_amount
set_option maxRecDepth 20000 in
theorem ggL_law_X3_amount : GoodIn wsL_law wsX3_amount := goodIn_ca (goodIn_r _ [136, 53, 137, 138, 139, 5, 140, 104, 105, 109, 110, 111, 581, 582, 583, 584, 585, 586, 587, 588, 589, 590, 591, 592, 593, 594, 595, 596, 597, 598, 599] (by decide +kernel) (by decide +kernel)) (goodIn_sub (fun _ h => List.mem_append_left _ (List.mem_append_left _ (List.mem_append_left _ (List.mem_append_left _ (List.mem_append_left _ (List.mem_append_right _ h)))))) (by decide +kernel))
set_option maxRecDepth 20000 in
theorem gL_law_X3_amount : GoodIn wsL_law (wsV RL 119 RX3 yX3_amount wsX3_amount) := goodIn_app (goodIn_of _ (by decide +kernel)) ggL_law_X3_amount
set_option maxRecDepth 20000 in
theorem ggL_law_L_pause : GoodIn wsL_law wsL_pause := goodIn_ca (goodIn_ca (goodIn_ca (goodIn_ca (goodIn_r _ [143, 119, 72, 73, 144, 145, 146, 2, 147, 78, 79, 17, 22, 124, 125, 126, 127, 128, 129, 130, 16, 131, 132, 88, 82, 83, 84, 148, 149, 150, 151, 80, 81, 152, 153, 154, 28, 155, 156, 157, 31, 158, 97, 98, 99, 578, 579, 580, 600, 601, 602, 603, 604, 605, 606] (by decide +kernel) (by decide +kernel)) (goodIn_sub (fun _ h => List.mem_append_left _ (List.mem_append_left _ (List.mem_append_left _ (List.mem_append_left _ (List.mem_append_left _ (List.mem_append_right _ h)))))) (by decide +kernel))) (goodIn_sub (fun _ h => List.mem_append_left _ (List.mem_append_left _ (List.mem_append_left _ (List.mem_append_left _ (List.mem_append_right _ h))))) (by decide +kernel))) (goodIn_sub (fun _ h => List.mem_append_left _ (List.mem_append_left _ (List.mem_append_right _ h))) (by decide +kernel))) (goodIn_sub (fun _ h => List.mem_append_left _ (List.mem_append_left _ (List.mem_append_left _ (List.mem_append_right _ h)))) (by decide +kernel))
set_option maxRecDepth 20000 in
theorem gL_law_L_pause : GoodIn wsL_law (va_wsS RL 120 yL_pause wsL_pause) := goodIn_app (goodIn_of _ (by decide +kernel)) ggL_law_L_pause
set_option maxRecDepth 20000 in
theorem ggL_law_X3_pause : GoodIn wsL_law wsX3_pause := goodIn_ca (goodIn_r _ [162, 53, 105, 56, 107, 108, 97, 98, 99, 137, 138, 139, 5, 140, 104, 109, 110, 111, 581, 582, 583, 584, 585, 586, 587, 588, 589, 590, 591, 592, 593, 594, 595, 596, 597, 598, 599] (by decide +kernel) (by decide +kernel)) (goodIn_sub (fun _ h => List.mem_append_left _ (List.mem_append_left _ (List.mem_append_left _ (List.mem_append_left _ (List.mem_append_left _ (List.mem_append_right _ h)))))) (by decide +kernel))
set_option maxRecDepth 20000 in
theorem gL_law_X3_pause : GoodIn wsL_law (wsV RL 122 RX3 yX3_pause wsX3_pause) := goodIn_app (goodIn_of _ (by decide +kernel)) ggL_law_X3_pause
set_option maxRecDepth 20000 in
theorem ggL_law_L_awaitNote : GoodIn wsL_law wsL_awaitNote := goodIn_ca (goodIn_ca (goodIn_ca (goodIn_r _ [165, 119, 73, 166, 167, 168, 2, 169, 17, 124, 125, 126, 127, 128, 129, 130, 16, 131, 132, 88, 148, 149, 150, 151, 80, 81, 152, 153, 154, 28, 578, 579, 580, 600, 601, 602, 603, 604, 605, 606] (by decide +kernel) (by decide +kernel)) (goodIn_sub (fun _ h => List.mem_append_left _ (List.mem_append_left _ (List.mem_append_left _ (List.mem_append_left _ (List.mem_append_left _ (List.mem_append_right _ h)))))) (by decide +kernel))) (goodIn_sub (fun _ h => List.mem_append_left _ (List.mem_append_left _ (List.mem_append_right _ h))) (by decide +kernel))) (goodIn_sub (fun _ h => List.mem_append_left _ (List.mem_append_left _ (List.mem_append_left _ (List.mem_append_right _ h)))) (by decide +kernel))
set_option maxRecDepth 20000 in
theorem gL_law_L_awaitNote : GoodIn wsL_law (va_wsS RL 123 yL_awaitNote wsL_awaitNote) := goodIn_app (goodIn_of _ (by decide +kernel)) ggL_law_L_awaitNote
set_option maxRecDepth 20000 in
theorem ggL_law_X3_awaitNote : GoodIn wsL_law wsX3_awaitNote := goodIn_ca (goodIn_r _ [173, 53, 105, 57, 137, 138, 139, 5, 140, 104, 109, 110, 111, 581, 582, 583, 584, 585, 586, 587, 588, 589, 590, 591, 592, 593, 594, 595, 596, 597, 598, 599] (by decide +kernel) (by decide +kernel)) (goodIn_sub (fun _ h => List.mem_append_left _ (List.mem_append_left _ (List.mem_append_left _ (List.mem_append_left _ (List.mem_append_left _ (List.mem_append_right _ h)))))) (by decide +kernel))
set_option maxRecDepth 20000 in
theorem gL_law_X3_awaitNote : GoodIn wsL_law (wsV RL 125 RX3 yX3_awaitNote wsX3_awaitNote) := goodIn_app (goodIn_of _ (by decide +kernel)) ggL_law_X3_awaitNote
set_option maxRecDepth 20000 in
theorem ggL_law_L_letters : GoodIn wsL_law wsL_letters := goodIn_ca (goodIn_ca (goodIn_r _ [176, 119, 177, 178, 179, 2, 180, 17, 124, 125, 126, 127, 128, 129, 130, 16, 131, 132, 88, 578, 579, 580, 600, 601, 602, 603, 604, 605, 606] (by decide +kernel) (by decide +kernel)) (goodIn_sub (fun _ h => List.mem_append_left _ (List.mem_append_left _ (List.mem_append_left _ (List.mem_append_left _ (List.mem_append_left _ (List.mem_append_right _ h)))))) (by decide +kernel))) (goodIn_sub (fun _ h => List.mem_append_left _ (List.mem_append_left _ (List.mem_append_right _ h))) (by decide +kernel))
set_option maxRecDepth 20000 in
theorem gL_law_L_letters : GoodIn wsL_law (va_wsS RL 126 yL_letters wsL_letters) := goodIn_app (goodIn_of _ (by decide +kernel)) ggL_law_L_letters
set_option maxRecDepth 20000 in
theorem ggL_law_X3_letters : GoodIn wsL_law wsX3_letters := goodIn_ca (goodIn_r _ [184, 55, 137, 138, 139, 5, 140, 104, 105, 109, 110, 111, 581, 582, 583, 584, 585, 586, 587, 588, 589, 590, 591, 592, 593, 594, 595, 596, 597, 598, 599] (by decide +kernel) (by decide +kernel)) (goodIn_sub (fun _ h => List.mem_append_left _ (List.mem_append_left _ (List.mem_append_left _ (List.mem_append_left _ (List.mem_append_left _ (List.mem_append_right _ h)))))) (by decide +kernel))
set_option maxRecDepth 20000 in
theorem gL_law_X3_letters : GoodIn wsL_law (wsV RL 128 RX3 yX3_letters wsX3_letters) := goodIn_app (goodIn_of _ (by decide +kernel)) ggL_law_X3_letters
set_option maxRecDepth 20000 in
theorem ggL_law_L_lettersByMessages : GoodIn wsL_law wsL_lettersByMessages := goodIn_ca (goodIn_ca (goodIn_r _ [187, 119, 188, 189, 190, 2, 191, 21, 17, 124, 125, 126, 127, 128, 129, 130, 16, 131, 132, 88, 192, 20, 193, 194, 195, 48, 41, 40, 42, 96, 97, 98, 99, 196, 197, 198, 199, 95, 578, 579, 580, 600, 601, 602, 603, 604, 605, 606, 607, 608, 609, 610, 611, 612, 613, 614, 615, 616, 617, 618, 619] (by decide +kernel) (by decide +kernel)) (goodIn_sub (fun _ h => List.mem_append_left _ (List.mem_append_left _ (List.mem_append_left _ (List.mem_append_left _ (List.mem_append_left _ (List.mem_append_right _ h)))))) (by decide +kernel))) (goodIn_sub (fun _ h => List.mem_append_left _ (List.mem_append_left _ (List.mem_append_right _ h))) (by decide +kernel))
set_option maxRecDepth 20000 in
theorem gL_law_L_lettersByMessages : GoodIn wsL_law (va_wsS RL 129 yL_lettersByMessages wsL_lettersByMessages) := goodIn_app (goodIn_of _ (by decide +kernel)) ggL_law_L_lettersByMessages
set_option maxRecDepth 20000 in
theorem ggL_law_X3_lettersByMessages : GoodIn wsL_law wsX3_lettersByMessages := goodIn_ca (goodIn_r _ [203, 204, 182, 183, 5, 184, 55, 137, 138, 139, 140, 104, 105, 109, 110, 111, 581, 582, 583, 584, 585, 586, 587, 588, 589, 590, 591, 592, 593, 594, 595, 596, 597, 598, 599] (by decide +kernel) (by decide +kernel)) (goodIn_sub (fun _ h => List.mem_append_left _ (List.mem_append_left _ (List.mem_append_left _ (List.mem_append_left _ (List.mem_append_left _ (List.mem_append_right _ h)))))) (by decide +kernel))
set_option maxRecDepth 20000 in
theorem gL_law_X3_lettersByMessages : GoodIn wsL_law (wsV RL 131 RX3 yX3_lettersByMessages wsX3_lettersByMessages) := goodIn_app (goodIn_of _ (by decide +kernel)) ggL_law_X3_lettersByMessages
set_option maxRecDepth 20000 in
theorem ggL_law_L_nextReminder : GoodIn wsL_law wsL_nextReminder := goodIn_ca (goodIn_ca (goodIn_ca (goodIn_r _ [207, 119, 208, 209, 210, 211, 2, 212, 213, 214, 22, 17, 215, 97, 98, 99, 124, 125, 126, 127, 128, 129, 130, 16, 131, 132, 88, 216, 217, 218, 219, 21, 152, 153, 154, 28, 220, 221, 222, 223, 20, 224, 225, 95, 38, 226, 227, 228, 29, 30, 578, 579, 580, 600, 601, 602, 603, 604, 605, 606, 607, 608, 609, 610, 611, 612, 613, 614, 615, 616, 617, 618, 619] (by decide +kernel) (by decide +kernel)) (goodIn_sub (fun _ h => List.mem_append_left _ (List.mem_append_left _ (List.mem_append_left _ (List.mem_append_left _ (List.mem_append_left _ (List.mem_append_right _ h)))))) (by decide +kernel))) (goodIn_sub (fun _ h => List.mem_append_left _ (List.mem_append_right _ h)) (by decide +kernel))) (goodIn_sub (fun _ h => List.mem_append_left _ (List.mem_append_left _ (List.mem_append_right _ h))) (by decide +kernel))
set_option maxRecDepth 20000 in
theorem gL_law_L_nextReminder : GoodIn wsL_law (va_wsS RL 132 yL_nextReminder wsL_nextReminder) := goodIn_app (goodIn_of _ (by decide +kernel)) ggL_law_L_nextReminder
set_option maxRecDepth 20000 in
theorem ggL_law_X3_nextReminder : GoodIn wsL_law wsX3_nextReminder := goodIn_ca (goodIn_r _ [232, 105, 107, 108, 97, 98, 99, 137, 138, 139, 5, 140, 104, 109, 110, 111, 233, 234, 235, 236, 53, 57, 55, 237, 238, 239, 240, 106, 59, 241, 242, 243, 244, 56, 54, 581, 582, 583, 584, 585, 586, 587, 588, 589, 590, 591, 592, 593, 594, 595, 596, 597, 598, 599] (by decide +kernel) (by decide +kernel)) (goodIn_sub (fun _ h => List.mem_append_left _ (List.mem_append_left _ (List.mem_append_left _ (List.mem_append_left _ (List.mem_append_left _ (List.mem_append_right _ h)))))) (by decide +kernel))
set_option maxRecDepth 20000 in
theorem gL_law_X3_nextReminder : GoodIn wsL_law (wsV RL 134 RX3 yX3_nextReminder wsX3_nextReminder) := goodIn_app (goodIn_of _ (by decide +kernel)) ggL_law_X3_nextReminder
set_option maxRecDepth 20000 in
theorem ggL_law_L_post : GoodIn wsL_law wsL_post := goodIn_ca (goodIn_ca (goodIn_ca (goodIn_r _ [247, 72, 73, 248, 249, 250, 2, 251, 78, 79, 80, 81, 21, 22, 17, 252, 253, 254, 82, 83, 84, 223, 20, 224, 225, 95, 38, 255, 256, 257, 258, 259, 260, 37, 40, 41, 42, 44, 43, 130, 16, 131, 132, 88, 578, 579, 580, 607, 608, 609, 610, 611, 612, 613, 614, 615, 616, 617, 618, 619, 600, 601, 602, 603, 604, 605, 606] (by decide +kernel) (by decide +kernel)) (goodIn_sub (fun _ h => List.mem_append_left _ (List.mem_append_left _ (List.mem_append_left _ (List.mem_append_left _ (List.mem_append_left _ (List.mem_append_right _ h)))))) (by decide +kernel))) (goodIn_sub (fun _ h => List.mem_append_left _ (List.mem_append_left _ (List.mem_append_left _ (List.mem_append_left _ (List.mem_append_right _ h))))) (by decide +kernel))) (goodIn_sub (fun _ h => List.mem_append_left _ (List.mem_append_left _ (List.mem_append_left _ (List.mem_append_right _ h)))) (by decide +kernel))
set_option maxRecDepth 20000 in
theorem gL_law_L_post : GoodIn wsL_law (va_wsS RL 135 yL_post wsL_post) := goodIn_app (goodIn_of _ (by decide +kernel)) ggL_law_L_post
set_option maxRecDepth 20000 in
theorem ggL_law_X3_post : GoodIn wsL_law wsX3_post := goodIn_ca (goodIn_r _ [264, 106, 105, 107, 109, 110, 5, 111, 265, 266, 267, 268, 237, 238, 239, 240, 59, 269, 270, 271, 272, 58, 60, 61, 62, 63, 65, 104, 581, 582, 583, 584, 585, 586, 587, 588, 589, 590, 591, 592, 593, 594, 595, 596, 597, 598, 599] (by decide +kernel) (by decide +kernel)) (goodIn_sub (fun _ h => List.mem_append_left _ (List.mem_append_left _ (List.mem_append_left _ (List.mem_append_left _ (List.mem_append_left _ (List.mem_append_right _ h)))))) (by decide +kernel))
set_option maxRecDepth 20000 in
theorem gL_law_X3_post : GoodIn wsL_law (wsV RL 138 RX3 yX3_post wsX3_post) := goodIn_app (goodIn_of _ (by decide +kernel)) ggL_law_X3_post
set_option maxRecDepth 20000 in
theorem ggL_law_L_withKey : GoodIn wsL_law wsL_withKey := goodIn_ca (goodIn_ca (goodIn_r _ [275, 208, 276, 277, 278, 2, 279, 213, 214, 21, 223, 20, 224, 225, 95, 38, 578, 579, 580, 607, 608, 609, 610, 611, 612, 613, 614, 615, 616, 617, 618, 619] (by decide +kernel) (by decide +kernel)) (goodIn_sub (fun _ h => List.mem_append_left _ (List.mem_append_left _ (List.mem_append_left _ (List.mem_append_left _ (List.mem_append_left _ (List.mem_append_right _ h)))))) (by decide +kernel))) (goodIn_sub (fun _ h => List.mem_append_left _ (List.mem_append_right _ h)) (by decide +kernel))
set_option maxRecDepth 20000 in
theorem gL_law_L_withKey : GoodIn wsL_law (va_wsS RL 139 yL_withKey wsL_withKey) := goodIn_app (goodIn_of _ (by decide +kernel)) ggL_law_L_withKey
set_option maxRecDepth 20000 in
theorem ggL_law_X3_withKey : GoodIn wsL_law wsX3_withKey := goodIn_ca (goodIn_r _ [283, 105, 237, 238, 239, 5, 240, 106, 59, 581, 582, 583, 584, 585, 586, 587, 588, 589, 590, 591, 592, 593, 594, 595, 596, 597, 598, 599] (by decide +kernel) (by decide +kernel)) (goodIn_sub (fun _ h => List.mem_append_left _ (List.mem_append_left _ (List.mem_append_left _ (List.mem_append_left _ (List.mem_append_left _ (List.mem_append_right _ h)))))) (by decide +kernel))
set_option maxRecDepth 20000 in
theorem gL_law_X3_withKey : GoodIn wsL_law (wsV RL 141 RX3 yX3_withKey wsX3_withKey) := goodIn_app (goodIn_of _ (by decide +kernel)) ggL_law_X3_withKey
set_option maxRecDepth 20000 in
theorem ggL_law_L_state : GoodIn wsL_law wsL_state := goodIn_ca (goodIn_ca (goodIn_r _ [286, 119, 287, 288, 289, 2, 290, 21, 291, 292, 293, 294, 128, 129, 197, 20, 198, 199, 95, 578, 579, 580, 607, 608, 609, 610, 611, 612, 613, 614, 615, 616, 617, 618, 619] (by decide +kernel) (by decide +kernel)) (goodIn_sub (fun _ h => List.mem_append_left _ (List.mem_append_left _ (List.mem_append_left _ (List.mem_append_left _ (List.mem_append_left _ (List.mem_append_right _ h)))))) (by decide +kernel))) (goodIn_sub (fun _ h => List.mem_append_left _ (List.mem_append_left _ (List.mem_append_right _ h))) (by decide +kernel))
set_option maxRecDepth 20000 in
theorem gL_law_L_state : GoodIn wsL_law (va_wsS RL 142 yL_state wsL_state) := goodIn_app (goodIn_of _ (by decide +kernel)) ggL_law_L_state
set_option maxRecDepth 20000 in
theorem ggL_law_X3_state : GoodIn wsL_law wsX3_state := goodIn_ca (goodIn_r _ [298, 65, 299, 300, 301, 5, 302, 106, 105, 109, 110, 111, 581, 582, 583, 584, 585, 586, 587, 588, 589, 590, 591, 592, 593, 594, 595, 596, 597, 598, 599] (by decide +kernel) (by decide +kernel)) (goodIn_sub (fun _ h => List.mem_append_left _ (List.mem_append_left _ (List.mem_append_left _ (List.mem_append_left _ (List.mem_append_left _ (List.mem_append_right _ h)))))) (by decide +kernel))
set_option maxRecDepth 20000 in
theorem gL_law_X3_state : GoodIn wsL_law (wsV RL 144 RX3 yX3_state wsX3_state) := goodIn_app (goodIn_of _ (by decide +kernel)) ggL_law_X3_state
set_option maxRecDepth 20000 in
theorem ggL_law_L_kind : GoodIn wsL_law wsL_kind := goodIn_ca (goodIn_ca (goodIn_r _ [305, 119, 306, 307, 308, 2, 309, 21, 291, 292, 293, 294, 128, 129, 197, 20, 198, 199, 95, 578, 579, 580, 607, 608, 609, 610, 611, 612, 613, 614, 615, 616, 617, 618, 619] (by decide +kernel) (by decide +kernel)) (goodIn_sub (fun _ h => List.mem_append_left _ (List.mem_append_left _ (List.mem_append_left _ (List.mem_append_left _ (List.mem_append_left _ (List.mem_append_right _ h)))))) (by decide +kernel))) (goodIn_sub (fun _ h => List.mem_append_left _ (List.mem_append_left _ (List.mem_append_right _ h))) (by decide +kernel))
set_option maxRecDepth 20000 in
theorem gL_law_L_kind : GoodIn wsL_law (va_wsS RL 145 yL_kind wsL_kind) := goodIn_app (goodIn_of _ (by decide +kernel)) ggL_law_L_kind
set_option maxRecDepth 20000 in
theorem ggL_law_X3_kind : GoodIn wsL_law wsX3_kind := goodIn_ca (goodIn_r _ [313, 60, 299, 300, 301, 5, 302, 106, 105, 109, 110, 111, 581, 582, 583, 584, 585, 586, 587, 588, 589, 590, 591, 592, 593, 594, 595, 596, 597, 598, 599] (by decide +kernel) (by decide +kernel)) (goodIn_sub (fun _ h => List.mem_append_left _ (List.mem_append_left _ (List.mem_append_left _ (List.mem_append_left _ (List.mem_append_left _ (List.mem_append_right _ h)))))) (by decide +kernel))
set_option maxRecDepth 20000 in
theorem gL_law_X3_kind : GoodIn wsL_law (wsV RL 147 RX3 yX3_kind wsX3_kind) := goodIn_app (goodIn_of _ (by decide +kernel)) ggL_law_X3_kind
set_option maxRecDepth 20000 in
theorem ggL_law_L_tries : GoodIn wsL_law wsL_tries := goodIn_ca (goodIn_ca (goodIn_r _ [316, 119, 317, 318, 319, 2, 320, 21, 291, 292, 293, 294, 128, 129, 197, 20, 198, 199, 95, 578, 579, 580, 607, 608, 609, 610, 611, 612, 613, 614, 615, 616, 617, 618, 619] (by decide +kernel) (by decide +kernel)) (goodIn_sub (fun _ h => List.mem_append_left _ (List.mem_append_left _ (List.mem_append_left _ (List.mem_append_left _ (List.mem_append_left _ (List.mem_append_right _ h)))))) (by decide +kernel))) (goodIn_sub (fun _ h => List.mem_append_left _ (List.mem_append_left _ (List.mem_append_right _ h))) (by decide +kernel))
set_option maxRecDepth 20000 in
theorem gL_law_L_tries : GoodIn wsL_law (va_wsS RL 148 yL_tries wsL_tries) := goodIn_app (goodIn_of _ (by decide +kernel)) ggL_law_L_tries
set_option maxRecDepth 20000 in
theorem ggL_law_X3_tries : GoodIn wsL_law wsX3_tries := goodIn_ca (goodIn_r _ [324, 64, 299, 300, 301, 5, 302, 106, 105, 109, 110, 111, 581, 582, 583, 584, 585, 586, 587, 588, 589, 590, 591, 592, 593, 594, 595, 596, 597, 598, 599] (by decide +kernel) (by decide +kernel)) (goodIn_sub (fun _ h => List.mem_append_left _ (List.mem_append_left _ (List.mem_append_left _ (List.mem_append_left _ (List.mem_append_left _ (List.mem_append_right _ h)))))) (by decide +kernel))
set_option maxRecDepth 20000 in
theorem gL_law_X3_tries : GoodIn wsL_law (wsV RL 150 RX3 yX3_tries wsX3_tries) := goodIn_app (goodIn_of _ (by decide +kernel)) ggL_law_X3_tries
set_option maxRecDepth 20000 in
theorem ggL_law_L_readyAt : GoodIn wsL_law wsL_readyAt := goodIn_ca (goodIn_ca (goodIn_ca (goodIn_r _ [327, 119, 73, 328, 329, 330, 2, 331, 21, 291, 292, 293, 294, 128, 129, 197, 20, 198, 199, 95, 332, 333, 334, 335, 80, 81, 578, 579, 580, 607, 608, 609, 610, 611, 612, 613, 614, 615, 616, 617, 618, 619] (by decide +kernel) (by decide +kernel)) (goodIn_sub (fun _ h => List.mem_append_left _ (List.mem_append_left _ (List.mem_append_left _ (List.mem_append_left _ (List.mem_append_left _ (List.mem_append_right _ h)))))) (by decide +kernel))) (goodIn_sub (fun _ h => List.mem_append_left _ (List.mem_append_left _ (List.mem_append_right _ h))) (by decide +kernel))) (goodIn_sub (fun _ h => List.mem_append_left _ (List.mem_append_left _ (List.mem_append_left _ (List.mem_append_right _ h)))) (by decide +kernel))
set_option maxRecDepth 20000 in
theorem gL_law_L_readyAt : GoodIn wsL_law (va_wsS RL 151 yL_readyAt wsL_readyAt) := goodIn_app (goodIn_of _ (by decide +kernel)) ggL_law_L_readyAt
set_option maxRecDepth 20000 in
theorem ggL_law_X3_readyAt : GoodIn wsL_law wsX3_readyAt := goodIn_ca (goodIn_r _ [339, 65, 105, 63, 299, 300, 301, 5, 302, 106, 109, 110, 111, 581, 582, 583, 584, 585, 586, 587, 588, 589, 590, 591, 592, 593, 594, 595, 596, 597, 598, 599] (by decide +kernel) (by decide +kernel)) (goodIn_sub (fun _ h => List.mem_append_left _ (List.mem_append_left _ (List.mem_append_left _ (List.mem_append_left _ (List.mem_append_left _ (List.mem_append_right _ h)))))) (by decide +kernel))
set_option maxRecDepth 20000 in
theorem gL_law_X3_readyAt : GoodIn wsL_law (wsV RL 153 RX3 yX3_readyAt wsX3_readyAt) := goodIn_app (goodIn_of _ (by decide +kernel)) ggL_law_X3_readyAt
set_option maxRecDepth 20000 in
theorem ggL_law_L_ready : GoodIn wsL_law wsL_ready := goodIn_ca (goodIn_ca (goodIn_r _ [342, 72, 343, 344, 345, 2, 346, 21, 22, 252, 253, 254, 78, 79, 82, 83, 84, 347, 20, 348, 349, 95, 350, 351, 352, 353, 37, 43, 44, 578, 579, 580, 607, 608, 609, 610, 611, 612, 613, 614, 615, 616, 617, 618, 619] (by decide +kernel) (by decide +kernel)) (goodIn_sub (fun _ h => List.mem_append_left _ (List.mem_append_left _ (List.mem_append_left _ (List.mem_append_left _ (List.mem_append_left _ (List.mem_append_right _ h)))))) (by decide +kernel))) (goodIn_sub (fun _ h => List.mem_append_left _ (List.mem_append_left _ (List.mem_append_left _ (List.mem_append_left _ (List.mem_append_right _ h))))) (by decide +kernel))
set_option maxRecDepth 20000 in
theorem gL_law_L_ready : GoodIn wsL_law (va_wsS RL 154 yL_ready wsL_ready) := goodIn_app (goodIn_of _ (by decide +kernel)) ggL_law_L_ready
set_option maxRecDepth 20000 in
theorem ggL_law_X3_ready : GoodIn wsL_law wsX3_ready := goodIn_ca (goodIn_r _ [357, 105, 109, 110, 5, 111, 358, 359, 360, 361, 106, 362, 363, 364, 365, 58, 65, 63, 107, 581, 582, 583, 584, 585, 586, 587, 588, 589, 590, 591, 592, 593, 594, 595, 596, 597, 598, 599] (by decide +kernel) (by decide +kernel)) (goodIn_sub (fun _ h => List.mem_append_left _ (List.mem_append_left _ (List.mem_append_left _ (List.mem_append_left _ (List.mem_append_left _ (List.mem_append_right _ h)))))) (by decide +kernel))
set_option maxRecDepth 20000 in
theorem gL_law_X3_ready : GoodIn wsL_law (wsV RL 156 RX3 yX3_ready wsX3_ready) := goodIn_app (goodIn_of _ (by decide +kernel)) ggL_law_X3_ready
set_option maxRecDepth 20000 in
theorem ggL_law_L_readyAtPlace : GoodIn wsL_law wsL_readyAtPlace := goodIn_ca (goodIn_ca (goodIn_ca (goodIn_r _ [368, 72, 208, 369, 370, 371, 2, 372, 213, 214, 21, 22, 252, 253, 254, 78, 79, 82, 83, 84, 347, 20, 348, 349, 95, 350, 351, 352, 353, 37, 43, 44, 373, 374, 375, 376, 377, 378, 379, 578, 579, 580, 607, 608, 609, 610, 611, 612, 613, 614, 615, 616, 617, 618, 619] (by decide +kernel) (by decide +kernel)) (goodIn_sub (fun _ h => List.mem_append_left _ (List.mem_append_left _ (List.mem_append_left _ (List.mem_append_left _ (List.mem_append_left _ (List.mem_append_right _ h)))))) (by decide +kernel))) (goodIn_sub (fun _ h => List.mem_append_left _ (List.mem_append_right _ h)) (by decide +kernel))) (goodIn_sub (fun _ h => List.mem_append_left _ (List.mem_append_left _ (List.mem_append_left _ (List.mem_append_left _ (List.mem_append_right _ h))))) (by decide +kernel))
set_option maxRecDepth 20000 in
theorem gL_law_L_readyAtPlace : GoodIn wsL_law (va_wsS RL 157 yL_readyAtPlace wsL_readyAtPlace) := goodIn_app (goodIn_of _ (by decide +kernel)) ggL_law_L_readyAtPlace
set_option maxRecDepth 20000 in
theorem ggL_law_X3_readyAtPlace : GoodIn wsL_law wsX3_readyAtPlace := goodIn_ca (goodIn_r _ [383, 105, 109, 110, 5, 111, 265, 266, 267, 268, 384, 385, 386, 387, 106, 63, 362, 363, 364, 365, 58, 65, 107, 581, 582, 583, 584, 585, 586, 587, 588, 589, 590, 591, 592, 593, 594, 595, 596, 597, 598, 599] (by decide +kernel) (by decide +kernel)) (goodIn_sub (fun _ h => List.mem_append_left _ (List.mem_append_left _ (List.mem_append_left _ (List.mem_append_left _ (List.mem_append_left _ (List.mem_append_right _ h)))))) (by decide +kernel))
set_option maxRecDepth 20000 in
theorem gL_law_X3_readyAtPlace : GoodIn wsL_law (wsV RL 159 RX3 yX3_readyAtPlace wsX3_readyAtPlace) := goodIn_app (goodIn_of _ (by decide +kernel)) ggL_law_X3_readyAtPlace
set_option maxRecDepth 20000 in
theorem ggL_law_L_take : GoodIn wsL_law wsL_take := goodIn_ca (goodIn_ca (goodIn_ca (goodIn_ca (goodIn_r _ [390, 72, 73, 208, 391, 392, 393, 2, 394, 80, 81, 213, 214, 21, 22, 395, 396, 397, 78, 79, 82, 83, 84, 252, 253, 254, 398, 20, 399, 400, 95, 43, 46, 373, 374, 375, 350, 351, 352, 353, 37, 44, 376, 377, 378, 379, 401, 402, 403, 47, 578, 579, 580, 607, 608, 609, 610, 611, 612, 613, 614, 615, 616, 617, 618, 619] (by decide +kernel) (by decide +kernel)) (goodIn_sub (fun _ h => List.mem_append_left _ (List.mem_append_left _ (List.mem_append_left _ (List.mem_append_left _ (List.mem_append_left _ (List.mem_append_right _ h)))))) (by decide +kernel))) (goodIn_sub (fun _ h => List.mem_append_left _ (List.mem_append_left _ (List.mem_append_left _ (List.mem_append_right _ h)))) (by decide +kernel))) (goodIn_sub (fun _ h => List.mem_append_left _ (List.mem_append_right _ h)) (by decide +kernel))) (goodIn_sub (fun _ h => List.mem_append_left _ (List.mem_append_left _ (List.mem_append_left _ (List.mem_append_left _ (List.mem_append_right _ h))))) (by decide +kernel))
set_option maxRecDepth 20000 in
theorem gL_law_L_take : GoodIn wsL_law (va_wsS RL 160 yL_take wsL_take) := goodIn_app (goodIn_of _ (by decide +kernel)) ggL_law_L_take
set_option maxRecDepth 20000 in
theorem ggL_law_X3_take : GoodIn wsL_law wsX3_take := goodIn_ca (goodIn_r _ [407, 105, 65, 66, 67, 107, 109, 110, 5, 111, 265, 266, 267, 268, 384, 385, 386, 387, 106, 63, 362, 363, 364, 365, 58, 408, 409, 410, 411, 581, 582, 583, 584, 585, 586, 587, 588, 589, 590, 591, 592, 593, 594, 595, 596, 597, 598, 599] (by decide +kernel) (by decide +kernel)) (goodIn_sub (fun _ h => List.mem_append_left _ (List.mem_append_left _ (List.mem_append_left _ (List.mem_append_left _ (List.mem_append_left _ (List.mem_append_right _ h)))))) (by decide +kernel))
set_option maxRecDepth 20000 in
theorem gL_law_X3_take : GoodIn wsL_law (wsV RL 162 RX3 yX3_take wsX3_take) := goodIn_app (goodIn_of _ (by decide +kernel)) ggL_law_X3_take
set_option maxRecDepth 20000 in
theorem ggL_law_L_finish : GoodIn wsL_law wsL_finish := goodIn_ca (goodIn_ca (goodIn_ca (goodIn_r _ [414, 119, 73, 415, 416, 417, 2, 418, 21, 291, 292, 293, 294, 128, 129, 197, 20, 198, 199, 95, 332, 333, 334, 335, 80, 81, 419, 420, 421, 43, 195, 48, 422, 423, 424, 425, 17, 130, 16, 131, 132, 88, 426, 427, 428, 28, 158, 97, 98, 99, 429, 430, 431, 33, 432, 433, 434, 30, 435, 152, 153, 154, 578, 579, 580, 607, 608, 609, 610, 611, 612, 613, 614, 615, 616, 617, 618, 619, 600, 601, 602, 603, 604, 605, 606] (by decide +kernel) (by decide +kernel)) (goodIn_sub (fun _ h => List.mem_append_left _ (List.mem_append_left _ (List.mem_append_left _ (List.mem_append_left _ (List.mem_append_left _ (List.mem_append_right _ h)))))) (by decide +kernel))) (goodIn_sub (fun _ h => List.mem_append_left _ (List.mem_append_left _ (List.mem_append_right _ h))) (by decide +kernel))) (goodIn_sub (fun _ h => List.mem_append_left _ (List.mem_append_left _ (List.mem_append_left _ (List.mem_append_right _ h)))) (by decide +kernel))
set_option maxRecDepth 20000 in
theorem gL_law_L_finish : GoodIn wsL_law (va_wsS RL 163 yL_finish wsL_finish) := goodIn_app (goodIn_of _ (by decide +kernel)) ggL_law_L_finish
set_option maxRecDepth 20000 in
theorem ggL_law_X3_finish : GoodIn wsL_law wsX3_finish := goodIn_ca (goodIn_r _ [439, 65, 105, 61, 60, 53, 62, 108, 97, 98, 99, 57, 55, 299, 300, 301, 5, 302, 106, 109, 110, 111, 581, 582, 583, 584, 585, 586, 587, 588, 589, 590, 591, 592, 593, 594, 595, 596, 597, 598, 599] (by decide +kernel) (by decide +kernel)) (goodIn_sub (fun _ h => List.mem_append_left _ (List.mem_append_left _ (List.mem_append_left _ (List.mem_append_left _ (List.mem_append_left _ (List.mem_append_right _ h)))))) (by decide +kernel))
set_option maxRecDepth 20000 in
theorem gL_law_X3_finish : GoodIn wsL_law (wsV RL 165 RX3 yX3_finish wsX3_finish) := goodIn_app (goodIn_of _ (by decide +kernel)) ggL_law_X3_finish
set_option maxRecDepth 20000 in
theorem ggL_law_L_handBack : GoodIn wsL_law wsL_handBack := goodIn_ca (goodIn_ca (goodIn_ca (goodIn_r _ [442, 119, 73, 443, 444, 445, 2, 446, 21, 22, 291, 292, 293, 294, 128, 129, 197, 20, 198, 199, 95, 332, 333, 334, 335, 80, 81, 447, 448, 449, 45, 43, 44, 578, 579, 580, 607, 608, 609, 610, 611, 612, 613, 614, 615, 616, 617, 618, 619] (by decide +kernel) (by decide +kernel)) (goodIn_sub (fun _ h => List.mem_append_left _ (List.mem_append_left _ (List.mem_append_left _ (List.mem_append_left _ (List.mem_append_left _ (List.mem_append_right _ h)))))) (by decide +kernel))) (goodIn_sub (fun _ h => List.mem_append_left _ (List.mem_append_left _ (List.mem_append_right _ h))) (by decide +kernel))) (goodIn_sub (fun _ h => List.mem_append_left _ (List.mem_append_left _ (List.mem_append_left _ (List.mem_append_right _ h)))) (by decide +kernel))
set_option maxRecDepth 20000 in
theorem gL_law_L_handBack : GoodIn wsL_law (va_wsS RL 166 yL_handBack wsL_handBack) := goodIn_app (goodIn_of _ (by decide +kernel)) ggL_law_L_handBack
set_option maxRecDepth 20000 in
theorem ggL_law_X3_handBack : GoodIn wsL_law wsX3_handBack := goodIn_ca (goodIn_r _ [453, 65, 105, 299, 300, 301, 5, 302, 106, 109, 110, 111, 454, 455, 456, 457, 64, 63, 107, 581, 582, 583, 584, 585, 586, 587, 588, 589, 590, 591, 592, 593, 594, 595, 596, 597, 598, 599] (by decide +kernel) (by decide +kernel)) (goodIn_sub (fun _ h => List.mem_append_left _ (List.mem_append_left _ (List.mem_append_left _ (List.mem_append_left _ (List.mem_append_left _ (List.mem_append_right _ h)))))) (by decide +kernel))
set_option maxRecDepth 20000 in
theorem gL_law_X3_handBack : GoodIn wsL_law (wsV RL 168 RX3 yX3_handBack wsX3_handBack) := goodIn_app (goodIn_of _ (by decide +kernel)) ggL_law_X3_handBack
set_option maxRecDepth 20000 in
theorem ggL_law_L_revive : GoodIn wsL_law wsL_revive := goodIn_ca (goodIn_ca (goodIn_ca (goodIn_r _ [460, 119, 73, 461, 462, 463, 2, 464, 21, 22, 291, 292, 293, 294, 128, 129, 197, 20, 198, 199, 95, 332, 333, 334, 335, 80, 81, 465, 466, 467, 43, 44, 45, 468, 469, 470, 578, 579, 580, 607, 608, 609, 610, 611, 612, 613, 614, 615, 616, 617, 618, 619] (by decide +kernel) (by decide +kernel)) (goodIn_sub (fun _ h => List.mem_append_left _ (List.mem_append_left _ (List.mem_append_left _ (List.mem_append_left _ (List.mem_append_left _ (List.mem_append_right _ h)))))) (by decide +kernel))) (goodIn_sub (fun _ h => List.mem_append_left _ (List.mem_append_left _ (List.mem_append_right _ h))) (by decide +kernel))) (goodIn_sub (fun _ h => List.mem_append_left _ (List.mem_append_left _ (List.mem_append_left _ (List.mem_append_right _ h)))) (by decide +kernel))
set_option maxRecDepth 20000 in
theorem gL_law_L_revive : GoodIn wsL_law (va_wsS RL 169 yL_revive wsL_revive) := goodIn_app (goodIn_of _ (by decide +kernel)) ggL_law_L_revive
set_option maxRecDepth 20000 in
theorem ggL_law_X3_revive : GoodIn wsL_law wsX3_revive := goodIn_ca (goodIn_r _ [474, 65, 105, 63, 107, 64, 299, 300, 301, 5, 302, 106, 109, 110, 111, 475, 476, 477, 478, 581, 582, 583, 584, 585, 586, 587, 588, 589, 590, 591, 592, 593, 594, 595, 596, 597, 598, 599] (by decide +kernel) (by decide +kernel)) (goodIn_sub (fun _ h => List.mem_append_left _ (List.mem_append_left _ (List.mem_append_left _ (List.mem_append_left _ (List.mem_append_left _ (List.mem_append_right _ h)))))) (by decide +kernel))
set_option maxRecDepth 20000 in
theorem gL_law_X3_revive : GoodIn wsL_law (wsV RL 171 RX3 yX3_revive wsX3_revive) := goodIn_app (goodIn_of _ (by decide +kernel)) ggL_law_X3_revive
set_option maxRecDepth 20000 in
theorem ggL_law_L_clerk : GoodIn wsL_law wsL_clerk := goodIn_ca (goodIn_ca (goodIn_ca (goodIn_r _ [481, 119, 208, 482, 483, 484, 2, 485, 213, 214, 21, 291, 292, 293, 294, 128, 129, 197, 20, 198, 199, 95, 578, 579, 580, 607, 608, 609, 610, 611, 612, 613, 614, 615, 616, 617, 618, 619] (by decide +kernel) (by decide +kernel)) (goodIn_sub (fun _ h => List.mem_append_left _ (List.mem_append_left _ (List.mem_append_left _ (List.mem_append_left _ (List.mem_append_left _ (List.mem_append_right _ h)))))) (by decide +kernel))) (goodIn_sub (fun _ h => List.mem_append_left _ (List.mem_append_right _ h)) (by decide +kernel))) (goodIn_sub (fun _ h => List.mem_append_left _ (List.mem_append_left _ (List.mem_append_right _ h))) (by decide +kernel))
set_option maxRecDepth 20000 in
theorem gL_law_L_clerk : GoodIn wsL_law (va_wsS RL 172 yL_clerk wsL_clerk) := goodIn_app (goodIn_of _ (by decide +kernel)) ggL_law_L_clerk
set_option maxRecDepth 20000 in
theorem ggL_law_X3_clerk : GoodIn wsL_law wsX3_clerk := goodIn_ca (goodIn_r _ [489, 65, 105, 66, 299, 300, 301, 5, 302, 106, 109, 110, 111, 581, 582, 583, 584, 585, 586, 587, 588, 589, 590, 591, 592, 593, 594, 595, 596, 597, 598, 599] (by decide +kernel) (by decide +kernel)) (goodIn_sub (fun _ h => List.mem_append_left _ (List.mem_append_left _ (List.mem_append_left _ (List.mem_append_left _ (List.mem_append_left _ (List.mem_append_right _ h)))))) (by decide +kernel))
set_option maxRecDepth 20000 in
theorem gL_law_X3_clerk : GoodIn wsL_law (wsV RL 174 RX3 yX3_clerk wsX3_clerk) := goodIn_app (goodIn_of _ (by decide +kernel)) ggL_law_X3_clerk
set_option maxRecDepth 20000 in
theorem ggL_law_L_has : GoodIn wsL_law wsL_has := goodIn_ca (goodIn_ca (goodIn_r _ [492, 72, 493, 494, 495, 2, 496, 21, 395, 396, 397, 78, 79, 82, 83, 84, 398, 20, 399, 400, 95, 43, 46, 578, 579, 580, 607, 608, 609, 610, 611, 612, 613, 614, 615, 616, 617, 618, 619] (by decide +kernel) (by decide +kernel)) (goodIn_sub (fun _ h => List.mem_append_left _ (List.mem_append_left _ (List.mem_append_left _ (List.mem_append_left _ (List.mem_append_left _ (List.mem_append_right _ h)))))) (by decide +kernel))) (goodIn_sub (fun _ h => List.mem_append_left _ (List.mem_append_left _ (List.mem_append_left _ (List.mem_append_left _ (List.mem_append_right _ h))))) (by decide +kernel))
set_option maxRecDepth 20000 in
theorem gL_law_L_has : GoodIn wsL_law (va_wsS RL 175 yL_has wsL_has) := goodIn_app (goodIn_of _ (by decide +kernel)) ggL_law_L_has
set_option maxRecDepth 20000 in
theorem ggL_law_X3_has : GoodIn wsL_law wsX3_has := goodIn_ca (goodIn_r _ [500, 105, 109, 110, 5, 111, 408, 409, 410, 411, 106, 65, 66, 581, 582, 583, 584, 585, 586, 587, 588, 589, 590, 591, 592, 593, 594, 595, 596, 597, 598, 599] (by decide +kernel) (by decide +kernel)) (goodIn_sub (fun _ h => List.mem_append_left _ (List.mem_append_left _ (List.mem_append_left _ (List.mem_append_left _ (List.mem_append_left _ (List.mem_append_right _ h)))))) (by decide +kernel))
set_option maxRecDepth 20000 in
theorem gL_law_X3_has : GoodIn wsL_law (wsV RL 177 RX3 yX3_has wsX3_has) := goodIn_app (goodIn_of _ (by decide +kernel)) ggL_law_X3_has
set_option maxRecDepth 20000 in
theorem ggL_law_L_pass : GoodIn wsL_law wsL_pass := goodIn_ca (goodIn_ca (goodIn_r _ [503, 72, 504, 505, 506, 2, 507, 78, 79, 22, 21, 82, 83, 84, 508, 20, 509, 510, 95, 43, 47, 511, 447, 448, 449, 45, 44, 512, 513, 514, 515, 17, 255, 256, 257, 516, 517, 518, 519, 216, 217, 218, 219, 152, 16, 153, 154, 28, 220, 221, 222, 223, 224, 225, 38, 226, 227, 228, 29, 30, 258, 259, 260, 37, 40, 41, 42, 578, 579, 580, 607, 608, 609, 610, 611, 612, 613, 614, 615, 616, 617, 618, 619, 600, 601, 602, 603, 604, 605, 606] (by decide +kernel) (by decide +kernel)) (goodIn_sub (fun _ h => List.mem_append_left _ (List.mem_append_left _ (List.mem_append_left _ (List.mem_append_left _ (List.mem_append_left _ (List.mem_append_right _ h)))))) (by decide +kernel))) (goodIn_sub (fun _ h => List.mem_append_left _ (List.mem_append_left _ (List.mem_append_left _ (List.mem_append_left _ (List.mem_append_right _ h))))) (by decide +kernel))
set_option maxRecDepth 20000 in
theorem gL_law_L_pass : GoodIn wsL_law (va_wsS RL 178 yL_pass wsL_pass) := goodIn_app (goodIn_of _ (by decide +kernel)) ggL_law_L_pass
set_option maxRecDepth 20000 in
theorem ggL_law_X3_pass : GoodIn wsL_law wsX3_pass := goodIn_ca (goodIn_r _ [523, 107, 105, 109, 110, 5, 111, 524, 525, 526, 527, 106, 65, 67, 104, 55, 454, 455, 456, 457, 64, 63, 233, 234, 235, 236, 53, 57, 237, 238, 239, 240, 59, 241, 242, 243, 244, 56, 54, 108, 97, 98, 99, 269, 270, 271, 272, 58, 60, 61, 62, 581, 582, 583, 584, 585, 586, 587, 588, 589, 590, 591, 592, 593, 594, 595, 596, 597, 598, 599] (by decide +kernel) (by decide +kernel)) (goodIn_sub (fun _ h => List.mem_append_left _ (List.mem_append_left _ (List.mem_append_left _ (List.mem_append_left _ (List.mem_append_left _ (List.mem_append_right _ h)))))) (by decide +kernel))
set_option maxRecDepth 20000 in
theorem gL_law_X3_pass : GoodIn wsL_law (wsV RL 180 RX3 yX3_pass wsX3_pass) := goodIn_app (goodIn_of _ (by decide +kernel)) ggL_law_X3_pass
set_option maxRecDepth 20000 in
theorem ggL_law_X2_day : GoodIn wsL_law wsX2_day := goodIn_r _ [531, 22, 578, 579, 580] (by decide +kernel) (by decide +kernel)
set_option maxRecDepth 20000 in
theorem gL_law_X2_day : GoodIn wsL_law (wsV RL 181 RX2 yX2_day wsX2_day) := goodIn_app (goodIn_of _ (by decide +kernel)) ggL_law_X2_day
set_option maxRecDepth 20000 in
theorem ggL_law_X3_day : GoodIn wsL_law wsX3_day := goodIn_r _ [535, 105, 107, 581, 582, 583, 584, 585, 586, 587, 588, 589, 590, 591, 592, 593, 594, 595, 596, 597, 598, 599] (by decide +kernel) (by decide +kernel)
set_option maxRecDepth 20000 in
theorem gL_law_X3_day : GoodIn wsL_law (wsV RL 184 RX3 yX3_day wsX3_day) := goodIn_app (goodIn_of _ (by decide +kernel)) ggL_law_X3_day
set_option maxRecDepth 20000 in
theorem ggL_law_L_count : GoodIn wsL_law wsL_count := goodIn_ca (goodIn_ca (goodIn_r _ [538, 72, 539, 540, 541, 2, 542, 78, 79, 21, 468, 20, 469, 470, 95, 43, 578, 579, 580, 607, 608, 609, 610, 611, 612, 613, 614, 615, 616, 617, 618, 619] (by decide +kernel) (by decide +kernel)) (goodIn_sub (fun _ h => List.mem_append_left _ (List.mem_append_left _ (List.mem_append_left _ (List.mem_append_left _ (List.mem_append_left _ (List.mem_append_right _ h)))))) (by decide +kernel))) (goodIn_sub (fun _ h => List.mem_append_left _ (List.mem_append_left _ (List.mem_append_left _ (List.mem_append_left _ (List.mem_append_right _ h))))) (by decide +kernel))
set_option maxRecDepth 20000 in
theorem gL_law_L_count : GoodIn wsL_law (va_wsS RL 185 yL_count wsL_count) := goodIn_app (goodIn_of _ (by decide +kernel)) ggL_law_L_count
set_option maxRecDepth 20000 in
theorem ggL_law_X3_count : GoodIn wsL_law wsX3_count := goodIn_ca (goodIn_r _ [546, 105, 475, 476, 477, 5, 478, 106, 65, 581, 582, 583, 584, 585, 586, 587, 588, 589, 590, 591, 592, 593, 594, 595, 596, 597, 598, 599] (by decide +kernel) (by decide +kernel)) (goodIn_sub (fun _ h => List.mem_append_left _ (List.mem_append_left _ (List.mem_append_left _ (List.mem_append_left _ (List.mem_append_left _ (List.mem_append_right _ h)))))) (by decide +kernel))
set_option maxRecDepth 20000 in
theorem gL_law_X3_count : GoodIn wsL_law (wsV RL 188 RX3 yX3_count wsX3_count) := goodIn_app (goodIn_of _ (by decide +kernel)) ggL_law_X3_count
set_option maxRecDepth 20000 in
theorem ggL_law_L_doneShare : GoodIn wsL_law wsL_doneShare := goodIn_ca (goodIn_ca (goodIn_r _ [549, 550, 551, 552, 553, 2, 554, 555, 556, 21, 468, 20, 469, 470, 95, 43, 578, 579, 580, 607, 608, 609, 610, 611, 612, 613, 614, 615, 616, 617, 618, 619] (by decide +kernel) (by decide +kernel)) (goodIn_sub (fun _ h => List.mem_append_left _ (List.mem_append_left _ (List.mem_append_left _ (List.mem_append_left _ (List.mem_append_left _ (List.mem_append_right _ h)))))) (by decide +kernel))) (goodIn_sub (fun _ h => List.mem_append_right _ h) (by decide +kernel))
set_option maxRecDepth 20000 in
theorem gL_law_L_doneShare : GoodIn wsL_law (va_wsS RL 189 yL_doneShare wsL_doneShare) := goodIn_app (goodIn_of _ (by decide +kernel)) ggL_law_L_doneShare
set_option maxRecDepth 20000 in
theorem ggL_law_X3_doneShare : GoodIn wsL_law wsX3_doneShare := goodIn_ca (goodIn_r _ [560, 106, 105, 475, 476, 477, 5, 478, 65, 581, 582, 583, 584, 585, 586, 587, 588, 589, 590, 591, 592, 593, 594, 595, 596, 597, 598, 599] (by decide +kernel) (by decide +kernel)) (goodIn_sub (fun _ h => List.mem_append_left _ (List.mem_append_left _ (List.mem_append_left _ (List.mem_append_left _ (List.mem_append_left _ (List.mem_append_right _ h)))))) (by decide +kernel))
set_option maxRecDepth 20000 in
theorem gL_law_X3_doneShare : GoodIn wsL_law (wsV RL 192 RX3 yX3_doneShare wsX3_doneShare) := goodIn_app (goodIn_of _ (by decide +kernel)) ggL_law_X3_doneShare
set_option maxRecDepth 20000 in
theorem ggL_law_L_meanAmount : GoodIn wsL_law wsL_meanAmount := goodIn_ca (goodIn_ca (goodIn_r _ [563, 550, 564, 565, 566, 2, 567, 555, 556, 17, 568, 16, 569, 570, 88, 435, 152, 153, 154, 28, 571, 572, 573, 578, 579, 580, 600, 601, 602, 603, 604, 605, 606] (by decide +kernel) (by decide +kernel)) (goodIn_sub (fun _ h => List.mem_append_left _ (List.mem_append_left _ (List.mem_append_left _ (List.mem_append_left _ (List.mem_append_left _ (List.mem_append_right _ h)))))) (by decide +kernel))) (goodIn_sub (fun _ h => List.mem_append_right _ h) (by decide +kernel))
set_option maxRecDepth 20000 in
theorem gL_law_L_meanAmount : GoodIn wsL_law (va_wsS RL 193 yL_meanAmount wsL_meanAmount) := goodIn_app (goodIn_of _ (by decide +kernel)) ggL_law_L_meanAmount
set_option maxRecDepth 20000 in
theorem ggL_law_X3_meanAmount : GoodIn wsL_law wsX3_meanAmount := goodIn_ca (goodIn_r _ [577, 104, 53, 105, 581, 582, 583, 584, 585, 586, 587, 588, 589, 590, 591, 592, 593, 594, 595, 596, 597, 598, 599] (by decide +kernel) (by decide +kernel)) (goodIn_sub (fun _ h => List.mem_append_left _ (List.mem_append_left _ (List.mem_append_left _ (List.mem_append_left _ (List.mem_append_left _ (List.mem_append_right _ h)))))) (by decide +kernel))
set_option maxRecDepth 20000 in
theorem gL_law_X3_meanAmount : GoodIn wsL_law (wsV RL 195 RX3 yX3_meanAmount wsX3_meanAmount) := goodIn_app (goodIn_of _ (by decide +kernel)) ggL_law_X3_meanAmount
theorem dL_law_0 : decode cL_law 0 = .ok (.new 8, 3) := by decide +kernel
theorem dL_law_3 : decode cL_law 3 = .ok (.dup, 1) := by decide +kernel
theorem dL_law_4 : decode cL_law 4 = .ok (.invokespecial 102, 3) := by decide +kernel
theorem dL_law_7 : decode cL_law 7 = .ok (.astore_n 1, 1) := by decide +kernel
theorem dL_law_8 : decode cL_law 8 = .ok (.new 103, 3) := by decide +kernel
theorem dL_law_11 : decode cL_law 11 = .ok (.dup, 1) := by decide +kernel
theorem dL_law_12 : decode cL_law 12 = .ok (.invokespecial 105, 3) := by decide +kernel
theorem dL_law_15 : decode cL_law 15 = .ok (.astore_n 2, 1) := by decide +kernel
theorem dL_law_16 : decode cL_law 16 = .ok (.iconst 1, 1) := by decide +kernel
theorem dL_law_17 : decode cL_law 17 = .ok (.newarray .long, 2) := by decide +kernel
theorem dL_law_19 : decode cL_law 19 = .ok (.astore_n 3, 1) := by decide +kernel
theorem dL_law_20 : decode cL_law 20 = .ok (.iconst 1, 1) := by decide +kernel
theorem dL_law_21 : decode cL_law 21 = .ok (.newarray .double, 2) := by decide +kernel
theorem dL_law_23 : decode cL_law 23 = .ok (.astore 4, 2) := by decide +kernel
theorem dL_law_25 : decode cL_law 25 = .ok (.iconst 0, 1) := by decide +kernel
theorem dL_law_26 : decode cL_law 26 = .ok (.istore 5, 2) := by decide +kernel
theorem dL_law_28 : decode cL_law 28 = .ok (.iload 5, 2) := by decide +kernel
theorem dL_law_30 : decode cL_law 30 = .ok (.aload_n 0, 1) := by decide +kernel
theorem dL_law_31 : decode cL_law 31 = .ok (.arraylength, 1) := by decide +kernel
theorem dL_law_32 : decode cL_law 32 = .ok (.bipush 7, 2) := by decide +kernel
theorem dL_law_34 : decode cL_law 34 = .ok (.isub, 1) := by decide +kernel
theorem dL_law_35 : decode cL_law 35 = .ok (.if_icmp .gt 1695, 3) := by decide +kernel
theorem dL_law_38 : decode cL_law 38 = .ok (.aload_n 0, 1) := by decide +kernel
theorem dL_law_39 : decode cL_law 39 = .ok (.iload 5, 2) := by decide +kernel
theorem dL_law_41 : decode cL_law 41 = .ok (.iaload, 1) := by decide +kernel
theorem dL_law_42 : decode cL_law 42 = .ok (.bipush 31, 2) := by decide +kernel
theorem dL_law_44 : decode cL_law 44 = .ok (.iand, 1) := by decide +kernel
theorem dL_law_45 : decode cL_law 45 = .ok (.tableswitch 1679 0 25 #[119, 187, 243, 311, 374, 430, 486, 542, 662, 718, 774, 830, 886, 942, 998, 1066, 1134, 1197, 1253, 1309, 1365, 1421, 1477, 1490, 1548, 1614], 119) := by decide +kernel
theorem dL_law_164 : decode cL_law 164 = .ok (.aload_n 1, 1) := by decide +kernel
theorem dL_law_165 : decode cL_law 165 = .ok (.aload_n 0, 1) := by decide +kernel
theorem dL_law_166 : decode cL_law 166 = .ok (.iload 5, 2) := by decide +kernel
theorem dL_law_168 : decode cL_law 168 = .ok (.iconst 1, 1) := by decide +kernel
theorem dL_law_169 : decode cL_law 169 = .ok (.iadd, 1) := by decide +kernel
theorem dL_law_170 : decode cL_law 170 = .ok (.iaload, 1) := by decide +kernel
theorem dL_law_171 : decode cL_law 171 = .ok (.aload_n 0, 1) := by decide +kernel
theorem dL_law_172 : decode cL_law 172 = .ok (.iload 5, 2) := by decide +kernel
theorem dL_law_174 : decode cL_law 174 = .ok (.iconst 2, 1) := by decide +kernel
theorem dL_law_175 : decode cL_law 175 = .ok (.iadd, 1) := by decide +kernel
theorem dL_law_176 : decode cL_law 176 = .ok (.iaload, 1) := by decide +kernel
theorem dL_law_177 : decode cL_law 177 = .ok (.aload_n 3, 1) := by decide +kernel
theorem dL_law_178 : decode cL_law 178 = .ok (.invokestatic 106, 3) := by decide +kernel
theorem dL_law_181 : decode cL_law 181 = .ok (.istore 6, 2) := by decide +kernel
theorem dL_law_183 : decode cL_law 183 = .ok (.aload_n 2, 1) := by decide +kernel
theorem dL_law_184 : decode cL_law 184 = .ok (.aload_n 0, 1) := by decide +kernel
theorem dL_law_185 : decode cL_law 185 = .ok (.iload 5, 2) := by decide +kernel
theorem dL_law_187 : decode cL_law 187 = .ok (.iconst 1, 1) := by decide +kernel
theorem dL_law_188 : decode cL_law 188 = .ok (.iadd, 1) := by decide +kernel
theorem dL_law_189 : decode cL_law 189 = .ok (.iaload, 1) := by decide +kernel
theorem dL_law_190 : decode cL_law 190 = .ok (.aload_n 0, 1) := by decide +kernel
theorem dL_law_191 : decode cL_law 191 = .ok (.iload 5, 2) := by decide +kernel
theorem dL_law_193 : decode cL_law 193 = .ok (.iconst 2, 1) := by decide +kernel
theorem dL_law_194 : decode cL_law 194 = .ok (.iadd, 1) := by decide +kernel
theorem dL_law_195 : decode cL_law 195 = .ok (.iaload, 1) := by decide +kernel
theorem dL_law_196 : decode cL_law 196 = .ok (.invokevirtual 111, 3) := by decide +kernel
theorem dL_law_199 : decode cL_law 199 = .ok (.istore 7, 2) := by decide +kernel
theorem dL_law_201 : decode cL_law 201 = .ok (.aload_n 2, 1) := by decide +kernel
theorem dL_law_202 : decode cL_law 202 = .ok (.invokevirtual 112, 3) := by decide +kernel
theorem dL_law_205 : decode cL_law 205 = .ok (.iload 6, 2) := by decide +kernel
theorem dL_law_207 : decode cL_law 207 = .ok (.if_icmp .eq 5, 3) := by decide +kernel
theorem dL_law_210 : decode cL_law 210 = .ok (.iconst 0, 1) := by decide +kernel
theorem dL_law_211 : decode cL_law 211 = .ok (.ireturn, 1) := by decide +kernel
theorem dL_law_212 : decode cL_law 212 = .ok (.iload 6, 2) := by decide +kernel
theorem dL_law_214 : decode cL_law 214 = .ok (.ifCond .ne 15, 3) := by decide +kernel
theorem dL_law_217 : decode cL_law 217 = .ok (.aload_n 3, 1) := by decide +kernel
theorem dL_law_218 : decode cL_law 218 = .ok (.iconst 0, 1) := by decide +kernel
theorem dL_law_219 : decode cL_law 219 = .ok (.laload, 1) := by decide +kernel
theorem dL_law_220 : decode cL_law 220 = .ok (.iload 7, 2) := by decide +kernel
theorem dL_law_222 : decode cL_law 222 = .ok (.i2l, 1) := by decide +kernel
theorem dL_law_223 : decode cL_law 223 = .ok (.lcmp, 1) := by decide +kernel
theorem dL_law_224 : decode cL_law 224 = .ok (.ifCond .eq 5, 3) := by decide +kernel
theorem dL_law_227 : decode cL_law 227 = .ok (.iconst 0, 1) := by decide +kernel
theorem dL_law_228 : decode cL_law 228 = .ok (.ireturn, 1) := by decide +kernel
theorem dL_law_229 : decode cL_law 229 = .ok (.goto 1495, 3) := by decide +kernel
theorem dL_law_232 : decode cL_law 232 = .ok (.aload_n 1, 1) := by decide +kernel
theorem dL_law_233 : decode cL_law 233 = .ok (.aload_n 0, 1) := by decide +kernel
theorem dL_law_234 : decode cL_law 234 = .ok (.iload 5, 2) := by decide +kernel
theorem dL_law_236 : decode cL_law 236 = .ok (.iconst 1, 1) := by decide +kernel
theorem dL_law_237 : decode cL_law 237 = .ok (.iadd, 1) := by decide +kernel
theorem dL_law_238 : decode cL_law 238 = .ok (.iaload, 1) := by decide +kernel
theorem dL_law_239 : decode cL_law 239 = .ok (.aload_n 3, 1) := by decide +kernel
theorem dL_law_240 : decode cL_law 240 = .ok (.invokestatic 116, 3) := by decide +kernel
theorem dL_law_243 : decode cL_law 243 = .ok (.istore 6, 2) := by decide +kernel
theorem dL_law_245 : decode cL_law 245 = .ok (.aload_n 2, 1) := by decide +kernel
theorem dL_law_246 : decode cL_law 246 = .ok (.aload_n 0, 1) := by decide +kernel
theorem dL_law_247 : decode cL_law 247 = .ok (.iload 5, 2) := by decide +kernel
theorem dL_law_249 : decode cL_law 249 = .ok (.iconst 1, 1) := by decide +kernel
theorem dL_law_250 : decode cL_law 250 = .ok (.iadd, 1) := by decide +kernel
theorem dL_law_251 : decode cL_law 251 = .ok (.iaload, 1) := by decide +kernel
theorem dL_law_252 : decode cL_law 252 = .ok (.invokevirtual 119, 3) := by decide +kernel
theorem dL_law_255 : decode cL_law 255 = .ok (.istore 7, 2) := by decide +kernel
theorem dL_law_257 : decode cL_law 257 = .ok (.aload_n 2, 1) := by decide +kernel
theorem dL_law_258 : decode cL_law 258 = .ok (.invokevirtual 112, 3) := by decide +kernel
theorem dL_law_261 : decode cL_law 261 = .ok (.iload 6, 2) := by decide +kernel
theorem dL_law_263 : decode cL_law 263 = .ok (.if_icmp .eq 5, 3) := by decide +kernel
theorem dL_law_266 : decode cL_law 266 = .ok (.iconst 0, 1) := by decide +kernel
theorem dL_law_267 : decode cL_law 267 = .ok (.ireturn, 1) := by decide +kernel
theorem dL_law_268 : decode cL_law 268 = .ok (.iload 6, 2) := by decide +kernel
theorem dL_law_270 : decode cL_law 270 = .ok (.ifCond .ne 15, 3) := by decide +kernel
theorem dL_law_273 : decode cL_law 273 = .ok (.aload_n 3, 1) := by decide +kernel
theorem dL_law_274 : decode cL_law 274 = .ok (.iconst 0, 1) := by decide +kernel
theorem dL_law_275 : decode cL_law 275 = .ok (.laload, 1) := by decide +kernel
theorem dL_law_276 : decode cL_law 276 = .ok (.iload 7, 2) := by decide +kernel
theorem dL_law_278 : decode cL_law 278 = .ok (.i2l, 1) := by decide +kernel
theorem dL_law_279 : decode cL_law 279 = .ok (.lcmp, 1) := by decide +kernel
theorem dL_law_280 : decode cL_law 280 = .ok (.ifCond .eq 5, 3) := by decide +kernel
theorem dL_law_283 : decode cL_law 283 = .ok (.iconst 0, 1) := by decide +kernel
theorem dL_law_284 : decode cL_law 284 = .ok (.ireturn, 1) := by decide +kernel
theorem dL_law_285 : decode cL_law 285 = .ok (.goto 1439, 3) := by decide +kernel
theorem dL_law_288 : decode cL_law 288 = .ok (.aload_n 1, 1) := by decide +kernel
theorem dL_law_289 : decode cL_law 289 = .ok (.aload_n 0, 1) := by decide +kernel
theorem dL_law_290 : decode cL_law 290 = .ok (.iload 5, 2) := by decide +kernel
theorem dL_law_292 : decode cL_law 292 = .ok (.iconst 1, 1) := by decide +kernel
theorem dL_law_293 : decode cL_law 293 = .ok (.iadd, 1) := by decide +kernel
theorem dL_law_294 : decode cL_law 294 = .ok (.iaload, 1) := by decide +kernel
theorem dL_law_295 : decode cL_law 295 = .ok (.aload_n 0, 1) := by decide +kernel
theorem dL_law_296 : decode cL_law 296 = .ok (.iload 5, 2) := by decide +kernel
theorem dL_law_298 : decode cL_law 298 = .ok (.iconst 2, 1) := by decide +kernel
theorem dL_law_299 : decode cL_law 299 = .ok (.iadd, 1) := by decide +kernel
theorem dL_law_300 : decode cL_law 300 = .ok (.iaload, 1) := by decide +kernel
theorem dL_law_301 : decode cL_law 301 = .ok (.aload_n 3, 1) := by decide +kernel
theorem dL_law_302 : decode cL_law 302 = .ok (.invokestatic 120, 3) := by decide +kernel
theorem dL_law_305 : decode cL_law 305 = .ok (.istore 6, 2) := by decide +kernel
theorem dL_law_307 : decode cL_law 307 = .ok (.aload_n 2, 1) := by decide +kernel
theorem dL_law_308 : decode cL_law 308 = .ok (.aload_n 0, 1) := by decide +kernel
theorem dL_law_309 : decode cL_law 309 = .ok (.iload 5, 2) := by decide +kernel
theorem dL_law_311 : decode cL_law 311 = .ok (.iconst 1, 1) := by decide +kernel
theorem dL_law_312 : decode cL_law 312 = .ok (.iadd, 1) := by decide +kernel
theorem dL_law_313 : decode cL_law 313 = .ok (.iaload, 1) := by decide +kernel
theorem dL_law_314 : decode cL_law 314 = .ok (.aload_n 0, 1) := by decide +kernel
theorem dL_law_315 : decode cL_law 315 = .ok (.iload 5, 2) := by decide +kernel
theorem dL_law_317 : decode cL_law 317 = .ok (.iconst 2, 1) := by decide +kernel
theorem dL_law_318 : decode cL_law 318 = .ok (.iadd, 1) := by decide +kernel
theorem dL_law_319 : decode cL_law 319 = .ok (.iaload, 1) := by decide +kernel
theorem dL_law_320 : decode cL_law 320 = .ok (.invokevirtual 122, 3) := by decide +kernel
theorem dL_law_323 : decode cL_law 323 = .ok (.istore 7, 2) := by decide +kernel
theorem dL_law_325 : decode cL_law 325 = .ok (.aload_n 2, 1) := by decide +kernel
theorem dL_law_326 : decode cL_law 326 = .ok (.invokevirtual 112, 3) := by decide +kernel
theorem dL_law_329 : decode cL_law 329 = .ok (.iload 6, 2) := by decide +kernel
theorem dL_law_331 : decode cL_law 331 = .ok (.if_icmp .eq 5, 3) := by decide +kernel
