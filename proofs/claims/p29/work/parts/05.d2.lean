set_option maxRecDepth 20000 in
theorem ggX2_init_X0_init : GoodIn wsX2_init wsX0_init := goodIn_r _ [14, 15, 2, 3, 16, 17, 18, 19, 20, 21, 22, 23, 39, 40, 41, 42, 43, 44, 45] (by decide +kernel) (by decide +kernel)
set_option maxRecDepth 20000 in
theorem gX2_init_X0_init_n9 : GoodIn wsX2_init (wsX0_init) := ggX2_init_X0_init
set_option maxRecDepth 20000 in
theorem ggX2_init_X1_init : GoodIn wsX2_init wsX1_init := goodIn_r _ [25, 26, 2, 3, 16, 27, 28, 29, 30, 31, 32, 33, 34, 35, 36, 37, 38, 49, 50, 51, 52, 53, 54, 55, 56, 57, 58, 59, 60, 61] (by decide +kernel) (by decide +kernel)
set_option maxRecDepth 20000 in
theorem gX2_init_X1_init_n18 : GoodIn wsX2_init (wsX1_init) := ggX2_init_X1_init
theorem dX2_init_0 : decode cX2_init 0 = .ok (.aload_n 0, 1) := by decide +kernel
theorem dX2_init_1 : decode cX2_init 1 = .ok (.invokespecial 1, 3) := by decide +kernel
theorem dX2_init_4 : decode cX2_init 4 = .ok (.aload_n 0, 1) := by decide +kernel
theorem dX2_init_5 : decode cX2_init 5 = .ok (.new 7, 3) := by decide +kernel
theorem dX2_init_8 : decode cX2_init 8 = .ok (.dup, 1) := by decide +kernel
theorem dX2_init_9 : decode cX2_init 9 = .ok (.invokespecial 9, 3) := by decide +kernel
theorem dX2_init_12 : decode cX2_init 12 = .ok (.putfield 10, 3) := by decide +kernel
theorem dX2_init_15 : decode cX2_init 15 = .ok (.aload_n 0, 1) := by decide +kernel
theorem dX2_init_16 : decode cX2_init 16 = .ok (.new 16, 3) := by decide +kernel
theorem dX2_init_19 : decode cX2_init 19 = .ok (.dup, 1) := by decide +kernel
theorem dX2_init_20 : decode cX2_init 20 = .ok (.invokespecial 18, 3) := by decide +kernel
theorem dX2_init_23 : decode cX2_init 23 = .ok (.putfield 19, 3) := by decide +kernel
theorem dX2_init_26 : decode cX2_init 26 = .ok (.aload_n 0, 1) := by decide +kernel
theorem dX2_init_27 : decode cX2_init 27 = .ok (.iconst 0, 1) := by decide +kernel
theorem dX2_init_28 : decode cX2_init 28 = .ok (.putfield 23, 3) := by decide +kernel
theorem dX2_init_31 : decode cX2_init 31 = .ok (.return_, 1) := by decide +kernel
set_option maxRecDepth 20000 in
theorem ggX2_open_X2_isWithin : GoodIn wsX2_open wsX2_isWithin := goodIn_r _ [11] (by decide +kernel) (by decide +kernel)
set_option maxRecDepth 20000 in
theorem gX2_open_X2_isWithin : GoodIn wsX2_open (va_wsS RX2 27 yX2_isWithin wsX2_isWithin) := goodIn_app (goodIn_of _ (by decide +kernel)) ggX2_open_X2_isWithin
set_option maxRecDepth 20000 in
theorem ggX2_open_X0_isFull : GoodIn wsX2_open wsX0_isFull := goodIn_r _ [15, 16, 38, 39, 40, 41, 42, 43, 44] (by decide +kernel) (by decide +kernel)
set_option maxRecDepth 20000 in
theorem gX2_open_X0_isFull_n38 : GoodIn wsX2_open (wsX0_isFull) := ggX2_open_X0_isFull
set_option maxRecDepth 20000 in
theorem ggX2_open_X0_add : GoodIn wsX2_open wsX0_add := goodIn_ca (goodIn_r _ [19, 16, 20, 21, 22, 38, 39, 40, 41, 42, 43, 44] (by decide +kernel) (by decide +kernel)) (goodIn_sub (fun _ h => List.mem_cons_of_mem _ (List.mem_append_right _ h)) (by decide +kernel))
set_option maxRecDepth 20000 in
theorem gX2_open_X0_add_n47 : GoodIn wsX2_open (wsX0_add) := ggX2_open_X0_add
set_option maxRecDepth 20000 in
theorem ggX2_open_X1_release : GoodIn wsX2_open wsX1_release := goodIn_ca (goodIn_r _ [26, 27, 28, 29, 30, 31, 32, 33, 34, 45, 46, 47, 48, 49, 50, 51, 52, 53, 54, 55, 56, 57] (by decide +kernel) (by decide +kernel)) (goodIn_sub (fun _ h => List.mem_cons_of_mem _ (List.mem_append_right _ h)) (by decide +kernel))
set_option maxRecDepth 20000 in
theorem gX2_open_X1_release_n51 : GoodIn wsX2_open (wsX1_release) := ggX2_open_X1_release
theorem dX2_open_0 : decode cX2_open 0 = .ok (.iload_n 1, 1) := by decide +kernel
theorem dX2_open_1 : decode cX2_open 1 = .ok (.iconst 1, 1) := by decide +kernel
theorem dX2_open_2 : decode cX2_open 2 = .ok (.sipush 9999, 3) := by decide +kernel
theorem dX2_open_5 : decode cX2_open 5 = .ok (.invokestatic 27, 3) := by decide +kernel
theorem dX2_open_8 : decode cX2_open 8 = .ok (.ifCond .eq 14, 3) := by decide +kernel
theorem dX2_open_11 : decode cX2_open 11 = .ok (.iload_n 2, 1) := by decide +kernel
theorem dX2_open_12 : decode cX2_open 12 = .ok (.iconst 0, 1) := by decide +kernel
theorem dX2_open_13 : decode cX2_open 13 = .ok (.sipush 999, 3) := by decide +kernel
theorem dX2_open_16 : decode cX2_open 16 = .ok (.invokestatic 27, 3) := by decide +kernel
theorem dX2_open_19 : decode cX2_open 19 = .ok (.ifCond .ne 13, 3) := by decide +kernel
theorem dX2_open_22 : decode cX2_open 22 = .ok (.new 31, 3) := by decide +kernel
theorem dX2_open_25 : decode cX2_open 25 = .ok (.dup, 1) := by decide +kernel
theorem dX2_open_26 : decode cX2_open 26 = .ok (.ldc 33, 2) := by decide +kernel
theorem dX2_open_28 : decode cX2_open 28 = .ok (.invokespecial 35, 3) := by decide +kernel
theorem dX2_open_31 : decode cX2_open 31 = .ok (.athrow, 1) := by decide +kernel
theorem dX2_open_32 : decode cX2_open 32 = .ok (.aload_n 0, 1) := by decide +kernel
theorem dX2_open_33 : decode cX2_open 33 = .ok (.getfield 10, 3) := by decide +kernel
theorem dX2_open_36 : decode cX2_open 36 = .ok (.invokevirtual 38, 3) := by decide +kernel
theorem dX2_open_39 : decode cX2_open 39 = .ok (.ifCond .eq 13, 3) := by decide +kernel
theorem dX2_open_42 : decode cX2_open 42 = .ok (.new 42, 3) := by decide +kernel
theorem dX2_open_45 : decode cX2_open 45 = .ok (.dup, 1) := by decide +kernel
theorem dX2_open_46 : decode cX2_open 46 = .ok (.ldc 44, 2) := by decide +kernel
theorem dX2_open_48 : decode cX2_open 48 = .ok (.invokespecial 46, 3) := by decide +kernel
theorem dX2_open_51 : decode cX2_open 51 = .ok (.athrow, 1) := by decide +kernel
theorem dX2_open_52 : decode cX2_open 52 = .ok (.aload_n 0, 1) := by decide +kernel
theorem dX2_open_53 : decode cX2_open 53 = .ok (.getfield 10, 3) := by decide +kernel
theorem dX2_open_56 : decode cX2_open 56 = .ok (.iload_n 1, 1) := by decide +kernel
theorem dX2_open_57 : decode cX2_open 57 = .ok (.iload_n 2, 1) := by decide +kernel
theorem dX2_open_58 : decode cX2_open 58 = .ok (.invokevirtual 47, 3) := by decide +kernel
theorem dX2_open_61 : decode cX2_open 61 = .ok (.istore_n 3, 1) := by decide +kernel
theorem dX2_open_62 : decode cX2_open 62 = .ok (.aload_n 0, 1) := by decide +kernel
theorem dX2_open_63 : decode cX2_open 63 = .ok (.getfield 19, 3) := by decide +kernel
theorem dX2_open_66 : decode cX2_open 66 = .ok (.iload_n 3, 1) := by decide +kernel
theorem dX2_open_67 : decode cX2_open 67 = .ok (.aload_n 0, 1) := by decide +kernel
theorem dX2_open_68 : decode cX2_open 68 = .ok (.getfield 23, 3) := by decide +kernel
theorem dX2_open_71 : decode cX2_open 71 = .ok (.invokevirtual 51, 3) := by decide +kernel
theorem dX2_open_74 : decode cX2_open 74 = .ok (.iload_n 3, 1) := by decide +kernel
theorem dX2_open_75 : decode cX2_open 75 = .ok (.ireturn, 1) := by decide +kernel
set_option maxRecDepth 20000 in
theorem ggX2_amount_X2_requireCase : GoodIn wsX2_amount wsX2_requireCase := goodIn_ca (goodIn_r _ [6, 7, 8, 1, 9, 10, 11, 12, 13, 14, 15, 16, 17, 18, 19, 20, 21, 22, 23] (by decide +kernel) (by decide +kernel)) (goodIn_sub (fun _ h => List.mem_cons_of_mem _ (List.mem_append_right _ h)) (by decide +kernel))
set_option maxRecDepth 20000 in
theorem gX2_amount_X2_requireCase : GoodIn wsX2_amount (wsV RX2 55 RX2 yX2_requireCase wsX2_requireCase) := goodIn_app (goodIn_of _ (by decide +kernel)) ggX2_amount_X2_requireCase
theorem dX2_amount_0 : decode cX2_amount 0 = .ok (.aload_n 0, 1) := by decide +kernel
theorem dX2_amount_1 : decode cX2_amount 1 = .ok (.iload_n 1, 1) := by decide +kernel
theorem dX2_amount_2 : decode cX2_amount 2 = .ok (.invokevirtual 55, 3) := by decide +kernel
theorem dX2_amount_5 : decode cX2_amount 5 = .ok (.aload_n 0, 1) := by decide +kernel
theorem dX2_amount_6 : decode cX2_amount 6 = .ok (.getfield 10, 3) := by decide +kernel
theorem dX2_amount_9 : decode cX2_amount 9 = .ok (.getfield 59, 3) := by decide +kernel
theorem dX2_amount_12 : decode cX2_amount 12 = .ok (.iload_n 1, 1) := by decide +kernel
theorem dX2_amount_13 : decode cX2_amount 13 = .ok (.iaload, 1) := by decide +kernel
theorem dX2_amount_14 : decode cX2_amount 14 = .ok (.ireturn, 1) := by decide +kernel
set_option maxRecDepth 20000 in
theorem ggX2_pause_X2_requireCase : GoodIn wsX2_pause wsX2_requireCase := goodIn_ca (goodIn_r _ [9, 10, 11, 3, 12, 13, 14, 15, 16, 38, 39, 40, 41, 42, 43, 44, 45, 46, 47] (by decide +kernel) (by decide +kernel)) (goodIn_sub (fun _ h => List.mem_cons_of_mem _ (List.mem_append_left _ (List.mem_append_left _ (List.mem_append_right _ h)))) (by decide +kernel))
set_option maxRecDepth 20000 in
theorem gX2_pause_X2_requireCase : GoodIn wsX2_pause (wsV RX2 55 RX2 yX2_requireCase wsX2_requireCase) := goodIn_app (goodIn_of _ (by decide +kernel)) ggX2_pause_X2_requireCase
set_option maxRecDepth 20000 in
theorem ggX2_pause_X2_isWithin : GoodIn wsX2_pause wsX2_isWithin := goodIn_r _ [19] (by decide +kernel) (by decide +kernel)
set_option maxRecDepth 20000 in
theorem gX2_pause_X2_isWithin : GoodIn wsX2_pause (va_wsS RX2 27 yX2_isWithin wsX2_isWithin) := goodIn_app (goodIn_of _ (by decide +kernel)) ggX2_pause_X2_isWithin
set_option maxRecDepth 20000 in
theorem ggX2_pause_X2_requireOpen : GoodIn wsX2_pause wsX2_requireOpen := goodIn_ca (goodIn_ca (goodIn_r _ [23, 24, 25, 3, 26, 13, 27, 28, 29, 38, 39, 40, 41, 42, 43, 44, 45, 46, 47] (by decide +kernel) (by decide +kernel)) (goodIn_sub (fun _ h => List.mem_cons_of_mem _ (List.mem_append_left _ (List.mem_append_right _ h))) (by decide +kernel))) (goodIn_sub (fun _ h => List.mem_cons_of_mem _ (List.mem_append_right _ h)) (by decide +kernel))
set_option maxRecDepth 20000 in
theorem gX2_pause_X2_requireOpen : GoodIn wsX2_pause (wsV RX2 65 RX2 yX2_requireOpen wsX2_requireOpen) := goodIn_app (goodIn_of _ (by decide +kernel)) ggX2_pause_X2_requireOpen
set_option maxRecDepth 20000 in
theorem ggX2_pause_X0_pauseUntil : GoodIn wsX2_pause wsX0_pauseUntil := goodIn_ca (goodIn_r _ [32, 33, 34, 35, 36, 37, 41, 42, 43, 44, 45, 46, 47] (by decide +kernel) (by decide +kernel)) (goodIn_sub (fun _ h => List.mem_cons_of_mem _ (List.mem_append_right _ h)) (by decide +kernel))
set_option maxRecDepth 20000 in
theorem gX2_pause_X0_pauseUntil_n68 : GoodIn wsX2_pause (wsX0_pauseUntil) := ggX2_pause_X0_pauseUntil
theorem dX2_pause_0 : decode cX2_pause 0 = .ok (.aload_n 0, 1) := by decide +kernel
theorem dX2_pause_1 : decode cX2_pause 1 = .ok (.iload_n 1, 1) := by decide +kernel
theorem dX2_pause_2 : decode cX2_pause 2 = .ok (.invokevirtual 55, 3) := by decide +kernel
theorem dX2_pause_5 : decode cX2_pause 5 = .ok (.iload_n 2, 1) := by decide +kernel
theorem dX2_pause_6 : decode cX2_pause 6 = .ok (.iconst 1, 1) := by decide +kernel
theorem dX2_pause_7 : decode cX2_pause 7 = .ok (.bipush 60, 2) := by decide +kernel
theorem dX2_pause_9 : decode cX2_pause 9 = .ok (.invokestatic 27, 3) := by decide +kernel
theorem dX2_pause_12 : decode cX2_pause 12 = .ok (.ifCond .ne 13, 3) := by decide +kernel
theorem dX2_pause_15 : decode cX2_pause 15 = .ok (.new 31, 3) := by decide +kernel
theorem dX2_pause_18 : decode cX2_pause 18 = .ok (.dup, 1) := by decide +kernel
theorem dX2_pause_19 : decode cX2_pause 19 = .ok (.ldc 63, 2) := by decide +kernel
theorem dX2_pause_21 : decode cX2_pause 21 = .ok (.invokespecial 35, 3) := by decide +kernel
theorem dX2_pause_24 : decode cX2_pause 24 = .ok (.athrow, 1) := by decide +kernel
theorem dX2_pause_25 : decode cX2_pause 25 = .ok (.aload_n 0, 1) := by decide +kernel
theorem dX2_pause_26 : decode cX2_pause 26 = .ok (.iload_n 1, 1) := by decide +kernel
theorem dX2_pause_27 : decode cX2_pause 27 = .ok (.invokevirtual 65, 3) := by decide +kernel
theorem dX2_pause_30 : decode cX2_pause 30 = .ok (.aload_n 0, 1) := by decide +kernel
theorem dX2_pause_31 : decode cX2_pause 31 = .ok (.getfield 10, 3) := by decide +kernel
theorem dX2_pause_34 : decode cX2_pause 34 = .ok (.iload_n 1, 1) := by decide +kernel
theorem dX2_pause_35 : decode cX2_pause 35 = .ok (.aload_n 0, 1) := by decide +kernel
theorem dX2_pause_36 : decode cX2_pause 36 = .ok (.getfield 23, 3) := by decide +kernel
theorem dX2_pause_39 : decode cX2_pause 39 = .ok (.iload_n 2, 1) := by decide +kernel
theorem dX2_pause_40 : decode cX2_pause 40 = .ok (.iadd, 1) := by decide +kernel
theorem dX2_pause_41 : decode cX2_pause 41 = .ok (.invokevirtual 68, 3) := by decide +kernel
theorem dX2_pause_44 : decode cX2_pause 44 = .ok (.ireturn, 1) := by decide +kernel
set_option maxRecDepth 20000 in
theorem ggX2_awaitNote_X2_requireCase : GoodIn wsX2_awaitNote wsX2_requireCase := goodIn_ca (goodIn_r _ [6, 7, 8, 1, 9, 10, 11, 12, 13, 24, 25, 26, 27, 28, 29, 30, 31, 32, 33] (by decide +kernel) (by decide +kernel)) (goodIn_sub (fun _ h => List.mem_cons_of_mem _ (List.mem_append_left _ (List.mem_append_right _ h))) (by decide +kernel))
set_option maxRecDepth 20000 in
theorem gX2_awaitNote_X2_requireCase : GoodIn wsX2_awaitNote (wsV RX2 55 RX2 yX2_requireCase wsX2_requireCase) := goodIn_app (goodIn_of _ (by decide +kernel)) ggX2_awaitNote_X2_requireCase
set_option maxRecDepth 20000 in
theorem ggX2_awaitNote_X2_requireOpen : GoodIn wsX2_awaitNote wsX2_requireOpen := goodIn_ca (goodIn_ca (goodIn_r _ [17, 18, 19, 1, 20, 10, 21, 22, 23, 24, 25, 26, 27, 28, 29, 30, 31, 32, 33] (by decide +kernel) (by decide +kernel)) (goodIn_sub (fun _ h => List.mem_cons_of_mem _ (List.mem_append_right _ h)) (by decide +kernel))) (goodIn_sub (fun _ h => List.mem_cons_of_mem _ (List.mem_append_left _ (List.mem_append_left _ (List.mem_append_right _ h)))) (by decide +kernel))
set_option maxRecDepth 20000 in
theorem gX2_awaitNote_X2_requireOpen : GoodIn wsX2_awaitNote (wsV RX2 65 RX2 yX2_requireOpen wsX2_requireOpen) := goodIn_app (goodIn_of _ (by decide +kernel)) ggX2_awaitNote_X2_requireOpen
theorem dX2_awaitNote_0 : decode cX2_awaitNote 0 = .ok (.aload_n 0, 1) := by decide +kernel
theorem dX2_awaitNote_1 : decode cX2_awaitNote 1 = .ok (.iload_n 1, 1) := by decide +kernel
theorem dX2_awaitNote_2 : decode cX2_awaitNote 2 = .ok (.invokevirtual 55, 3) := by decide +kernel
theorem dX2_awaitNote_5 : decode cX2_awaitNote 5 = .ok (.aload_n 0, 1) := by decide +kernel
theorem dX2_awaitNote_6 : decode cX2_awaitNote 6 = .ok (.iload_n 1, 1) := by decide +kernel
theorem dX2_awaitNote_7 : decode cX2_awaitNote 7 = .ok (.invokevirtual 65, 3) := by decide +kernel
theorem dX2_awaitNote_10 : decode cX2_awaitNote 10 = .ok (.aload_n 0, 1) := by decide +kernel
theorem dX2_awaitNote_11 : decode cX2_awaitNote 11 = .ok (.getfield 10, 3) := by decide +kernel
theorem dX2_awaitNote_14 : decode cX2_awaitNote 14 = .ok (.getfield 71, 3) := by decide +kernel
theorem dX2_awaitNote_17 : decode cX2_awaitNote 17 = .ok (.iload_n 1, 1) := by decide +kernel
theorem dX2_awaitNote_18 : decode cX2_awaitNote 18 = .ok (.baload, 1) := by decide +kernel
theorem dX2_awaitNote_19 : decode cX2_awaitNote 19 = .ok (.istore_n 2, 1) := by decide +kernel
theorem dX2_awaitNote_20 : decode cX2_awaitNote 20 = .ok (.aload_n 0, 1) := by decide +kernel
theorem dX2_awaitNote_21 : decode cX2_awaitNote 21 = .ok (.getfield 10, 3) := by decide +kernel
theorem dX2_awaitNote_24 : decode cX2_awaitNote 24 = .ok (.getfield 71, 3) := by decide +kernel
theorem dX2_awaitNote_27 : decode cX2_awaitNote 27 = .ok (.iload_n 1, 1) := by decide +kernel
theorem dX2_awaitNote_28 : decode cX2_awaitNote 28 = .ok (.iconst 1, 1) := by decide +kernel
theorem dX2_awaitNote_29 : decode cX2_awaitNote 29 = .ok (.bastore, 1) := by decide +kernel
theorem dX2_awaitNote_30 : decode cX2_awaitNote 30 = .ok (.iload_n 2, 1) := by decide +kernel
theorem dX2_awaitNote_31 : decode cX2_awaitNote 31 = .ok (.ireturn, 1) := by decide +kernel
set_option maxRecDepth 20000 in
theorem ggX2_letters_X2_requireCase : GoodIn wsX2_letters wsX2_requireCase := goodIn_ca (goodIn_r _ [6, 7, 8, 1, 9, 10, 11, 12, 13, 14, 15, 16, 17, 18, 19, 20, 21, 22, 23] (by decide +kernel) (by decide +kernel)) (goodIn_sub (fun _ h => List.mem_cons_of_mem _ (List.mem_append_right _ h)) (by decide +kernel))
set_option maxRecDepth 20000 in
theorem gX2_letters_X2_requireCase : GoodIn wsX2_letters (wsV RX2 55 RX2 yX2_requireCase wsX2_requireCase) := goodIn_app (goodIn_of _ (by decide +kernel)) ggX2_letters_X2_requireCase
theorem dX2_letters_0 : decode cX2_letters 0 = .ok (.aload_n 0, 1) := by decide +kernel
theorem dX2_letters_1 : decode cX2_letters 1 = .ok (.iload_n 1, 1) := by decide +kernel
theorem dX2_letters_2 : decode cX2_letters 2 = .ok (.invokevirtual 55, 3) := by decide +kernel
theorem dX2_letters_5 : decode cX2_letters 5 = .ok (.aload_n 0, 1) := by decide +kernel
theorem dX2_letters_6 : decode cX2_letters 6 = .ok (.getfield 10, 3) := by decide +kernel
theorem dX2_letters_9 : decode cX2_letters 9 = .ok (.getfield 75, 3) := by decide +kernel
theorem dX2_letters_12 : decode cX2_letters 12 = .ok (.iload_n 1, 1) := by decide +kernel
theorem dX2_letters_13 : decode cX2_letters 13 = .ok (.iaload, 1) := by decide +kernel
theorem dX2_letters_14 : decode cX2_letters 14 = .ok (.ireturn, 1) := by decide +kernel
set_option maxRecDepth 20000 in
theorem ggX2_lettersByMessages_X2_requireCase : GoodIn wsX2_lettersByMessages wsX2_requireCase := goodIn_ca (goodIn_r _ [7, 8, 9, 2, 10, 11, 12, 13, 14, 33, 34, 35, 36, 37, 38, 39, 40, 41, 42] (by decide +kernel) (by decide +kernel)) (goodIn_sub (fun _ h => List.mem_cons_of_mem _ (List.mem_append_right _ h)) (by decide +kernel))
set_option maxRecDepth 20000 in
theorem gX2_lettersByMessages_X2_requireCase : GoodIn wsX2_lettersByMessages (wsV RX2 55 RX2 yX2_requireCase wsX2_requireCase) := goodIn_app (goodIn_of _ (by decide +kernel)) ggX2_lettersByMessages_X2_requireCase
set_option maxRecDepth 20000 in
theorem ggX2_lettersByMessages_X1_lettersFrom : GoodIn wsX2_lettersByMessages wsX1_lettersFrom := goodIn_ca (goodIn_r _ [18, 19, 20, 21, 22, 23, 24, 25, 26, 27, 28, 29, 30, 16, 31, 32, 43, 44, 45, 46, 47, 48, 49, 50, 51, 52, 53, 54, 55] (by decide +kernel) (by decide +kernel)) (goodIn_sub (fun _ h => List.mem_cons_of_mem _ (List.mem_append_left _ (List.mem_append_right _ h))) (by decide +kernel))
set_option maxRecDepth 20000 in
theorem gX2_lettersByMessages_X1_lettersFrom_n81 : GoodIn wsX2_lettersByMessages (wsX1_lettersFrom) := ggX2_lettersByMessages_X1_lettersFrom
theorem dX2_lettersByMessages_0 : decode cX2_lettersByMessages 0 = .ok (.aload_n 0, 1) := by decide +kernel
theorem dX2_lettersByMessages_1 : decode cX2_lettersByMessages 1 = .ok (.iload_n 1, 1) := by decide +kernel
theorem dX2_lettersByMessages_2 : decode cX2_lettersByMessages 2 = .ok (.invokevirtual 55, 3) := by decide +kernel
theorem dX2_lettersByMessages_5 : decode cX2_lettersByMessages 5 = .ok (.aload_n 0, 1) := by decide +kernel
theorem dX2_lettersByMessages_6 : decode cX2_lettersByMessages 6 = .ok (.getfield 19, 3) := by decide +kernel
theorem dX2_lettersByMessages_9 : decode cX2_lettersByMessages 9 = .ok (.iload_n 1, 1) := by decide +kernel
theorem dX2_lettersByMessages_10 : decode cX2_lettersByMessages 10 = .ok (.aload_n 0, 1) := by decide +kernel
theorem dX2_lettersByMessages_11 : decode cX2_lettersByMessages 11 = .ok (.getfield 10, 3) := by decide +kernel
theorem dX2_lettersByMessages_14 : decode cX2_lettersByMessages 14 = .ok (.getfield 78, 3) := by decide +kernel
theorem dX2_lettersByMessages_17 : decode cX2_lettersByMessages 17 = .ok (.iload_n 1, 1) := by decide +kernel
theorem dX2_lettersByMessages_18 : decode cX2_lettersByMessages 18 = .ok (.iaload, 1) := by decide +kernel
theorem dX2_lettersByMessages_19 : decode cX2_lettersByMessages 19 = .ok (.invokevirtual 81, 3) := by decide +kernel
theorem dX2_lettersByMessages_22 : decode cX2_lettersByMessages 22 = .ok (.ireturn, 1) := by decide +kernel
set_option maxRecDepth 20000 in
theorem ggX2_nextReminder_X2_requireCase : GoodIn wsX2_nextReminder wsX2_requireCase := goodIn_ca (goodIn_r _ [13, 14, 15, 4, 16, 17, 18, 19, 20, 44, 45, 46, 47, 48, 49, 50, 51, 52, 53] (by decide +kernel) (by decide +kernel)) (goodIn_sub (fun _ h => List.mem_cons_of_mem _ (List.mem_append_right _ h)) (by decide +kernel))
set_option maxRecDepth 20000 in
theorem gX2_nextReminder_X2_requireCase : GoodIn wsX2_nextReminder (wsV RX2 55 RX2 yX2_requireCase wsX2_requireCase) := goodIn_app (goodIn_of _ (by decide +kernel)) ggX2_nextReminder_X2_requireCase
set_option maxRecDepth 20000 in
theorem ggX2_nextReminder_X2_isAnyReminderLeft : GoodIn wsX2_nextReminder wsX2_isAnyReminderLeft := goodIn_ca (goodIn_r _ [24, 4, 25, 26, 17, 27, 28, 29, 30, 31, 12, 32, 33, 34, 35, 36, 37, 38, 44, 45, 46, 47, 48, 49, 50, 51, 52, 53, 54, 55, 56, 57, 58, 59, 60, 61, 62, 63, 64, 65, 66] (by decide +kernel) (by decide +kernel)) (goodIn_sub (fun _ h => List.mem_cons_of_mem _ (List.mem_append_left _ (List.mem_append_right _ h))) (by decide +kernel))
set_option maxRecDepth 20000 in
theorem gX2_nextReminder_X2_isAnyReminderLeft : GoodIn wsX2_nextReminder (wsV RX2 84 RX2 yX2_isAnyReminderLeft wsX2_isAnyReminderLeft) := goodIn_app (goodIn_of _ (by decide +kernel)) ggX2_nextReminder_X2_isAnyReminderLeft
set_option maxRecDepth 20000 in
theorem ggX2_nextReminder_X0_reminderDay : GoodIn wsX2_nextReminder wsX0_reminderDay := goodIn_ca (goodIn_r _ [41, 42, 43, 47, 48, 49, 50, 51, 52, 53] (by decide +kernel) (by decide +kernel)) (goodIn_sub (fun _ h => List.mem_cons_of_mem _ (List.mem_append_left _ (List.mem_append_right _ h))) (by decide +kernel))
set_option maxRecDepth 20000 in
theorem gX2_nextReminder_X0_reminderDay_n93 : GoodIn wsX2_nextReminder (wsX0_reminderDay) := ggX2_nextReminder_X0_reminderDay
theorem dX2_nextReminder_0 : decode cX2_nextReminder 0 = .ok (.aload_n 0, 1) := by decide +kernel
theorem dX2_nextReminder_1 : decode cX2_nextReminder 1 = .ok (.iload_n 1, 1) := by decide +kernel
theorem dX2_nextReminder_2 : decode cX2_nextReminder 2 = .ok (.invokevirtual 55, 3) := by decide +kernel
theorem dX2_nextReminder_5 : decode cX2_nextReminder 5 = .ok (.aload_n 0, 1) := by decide +kernel
theorem dX2_nextReminder_6 : decode cX2_nextReminder 6 = .ok (.iload_n 1, 1) := by decide +kernel
theorem dX2_nextReminder_7 : decode cX2_nextReminder 7 = .ok (.invokevirtual 84, 3) := by decide +kernel
theorem dX2_nextReminder_10 : decode cX2_nextReminder 10 = .ok (.ifCond .ne 13, 3) := by decide +kernel
theorem dX2_nextReminder_13 : decode cX2_nextReminder 13 = .ok (.new 88, 3) := by decide +kernel
theorem dX2_nextReminder_16 : decode cX2_nextReminder 16 = .ok (.dup, 1) := by decide +kernel
theorem dX2_nextReminder_17 : decode cX2_nextReminder 17 = .ok (.ldc 90, 2) := by decide +kernel
theorem dX2_nextReminder_19 : decode cX2_nextReminder 19 = .ok (.invokespecial 92, 3) := by decide +kernel
theorem dX2_nextReminder_22 : decode cX2_nextReminder 22 = .ok (.athrow, 1) := by decide +kernel
theorem dX2_nextReminder_23 : decode cX2_nextReminder 23 = .ok (.aload_n 0, 1) := by decide +kernel
theorem dX2_nextReminder_24 : decode cX2_nextReminder 24 = .ok (.getfield 23, 3) := by decide +kernel
theorem dX2_nextReminder_27 : decode cX2_nextReminder 27 = .ok (.iconst 1, 1) := by decide +kernel
theorem dX2_nextReminder_28 : decode cX2_nextReminder 28 = .ok (.iadd, 1) := by decide +kernel
theorem dX2_nextReminder_29 : decode cX2_nextReminder 29 = .ok (.aload_n 0, 1) := by decide +kernel
theorem dX2_nextReminder_30 : decode cX2_nextReminder 30 = .ok (.getfield 10, 3) := by decide +kernel
theorem dX2_nextReminder_33 : decode cX2_nextReminder 33 = .ok (.iload_n 1, 1) := by decide +kernel
theorem dX2_nextReminder_34 : decode cX2_nextReminder 34 = .ok (.invokevirtual 93, 3) := by decide +kernel
theorem dX2_nextReminder_37 : decode cX2_nextReminder 37 = .ok (.invokestatic 97, 3) := by decide +kernel
theorem dX2_nextReminder_40 : decode cX2_nextReminder 40 = .ok (.istore_n 2, 1) := by decide +kernel
theorem dX2_nextReminder_41 : decode cX2_nextReminder 41 = .ok (.iload_n 2, 1) := by decide +kernel
theorem dX2_nextReminder_42 : decode cX2_nextReminder 42 = .ok (.aload_n 0, 1) := by decide +kernel
theorem dX2_nextReminder_43 : decode cX2_nextReminder 43 = .ok (.getfield 10, 3) := by decide +kernel
theorem dX2_nextReminder_46 : decode cX2_nextReminder 46 = .ok (.getfield 102, 3) := by decide +kernel
theorem dX2_nextReminder_49 : decode cX2_nextReminder 49 = .ok (.iload_n 1, 1) := by decide +kernel
theorem dX2_nextReminder_50 : decode cX2_nextReminder 50 = .ok (.iaload, 1) := by decide +kernel
theorem dX2_nextReminder_51 : decode cX2_nextReminder 51 = .ok (.invokestatic 97, 3) := by decide +kernel
theorem dX2_nextReminder_54 : decode cX2_nextReminder 54 = .ok (.ireturn, 1) := by decide +kernel
set_option maxRecDepth 20000 in
theorem ggX2_post_X2_requireQueue : GoodIn wsX2_post wsX2_requireQueue := goodIn_ca (goodIn_r _ [11, 1, 2, 12, 13, 10, 14] (by decide +kernel) (by decide +kernel)) (goodIn_sub (fun _ h => List.mem_cons_of_mem _ (List.mem_append_left _ (List.mem_append_left _ (List.mem_append_right _ h)))) (by decide +kernel))
set_option maxRecDepth 20000 in
theorem gX2_post_X2_requireQueue : GoodIn wsX2_post (va_wsS RX2 105 yX2_requireQueue wsX2_requireQueue) := goodIn_app (goodIn_of _ (by decide +kernel)) ggX2_post_X2_requireQueue
set_option maxRecDepth 20000 in
theorem ggX2_post_X2_isWithin : GoodIn wsX2_post wsX2_isWithin := goodIn_r _ [14] (by decide +kernel) (by decide +kernel)
set_option maxRecDepth 20000 in
theorem gX2_post_X2_isWithin : GoodIn wsX2_post (va_wsS RX2 27 yX2_isWithin wsX2_isWithin) := goodIn_app (goodIn_of _ (by decide +kernel)) ggX2_post_X2_isWithin
set_option maxRecDepth 20000 in
theorem ggX2_post_X1_find : GoodIn wsX2_post wsX1_find := goodIn_ca (goodIn_r _ [18, 19, 20, 41, 42, 43, 44, 45, 46, 47, 48, 49, 50, 51, 52, 53] (by decide +kernel) (by decide +kernel)) (goodIn_sub (fun _ h => List.mem_cons_of_mem _ (List.mem_append_right _ h)) (by decide +kernel))
set_option maxRecDepth 20000 in
theorem gX2_post_X1_find_n112 : GoodIn wsX2_post (wsX1_find) := ggX2_post_X1_find
set_option maxRecDepth 20000 in
theorem ggX2_post_X1_isFull : GoodIn wsX2_post wsX1_isFull := goodIn_r _ [23, 19, 41, 42, 43, 44, 45, 46, 47, 48, 49, 50, 51, 52, 53] (by decide +kernel) (by decide +kernel)
set_option maxRecDepth 20000 in
theorem gX2_post_X1_isFull_n115 : GoodIn wsX2_post (wsX1_isFull) := ggX2_post_X1_isFull
set_option maxRecDepth 20000 in
theorem ggX2_post_X1_add : GoodIn wsX2_post wsX1_add := goodIn_ca (goodIn_r _ [26, 19, 27, 20, 28, 29, 30, 31, 32, 41, 42, 43, 44, 45, 46, 47, 48, 49, 50, 51, 52, 53] (by decide +kernel) (by decide +kernel)) (goodIn_sub (fun _ h => List.mem_cons_of_mem _ (List.mem_append_right _ h)) (by decide +kernel))
set_option maxRecDepth 20000 in
theorem gX2_post_X1_add_n118 : GoodIn wsX2_post (wsX1_add) := ggX2_post_X1_add
set_option maxRecDepth 20000 in
theorem ggX2_post_X0_contains : GoodIn wsX2_post wsX0_contains := goodIn_r _ [36, 37, 54, 55, 56, 57, 58, 59, 60] (by decide +kernel) (by decide +kernel)
set_option maxRecDepth 20000 in
theorem gX2_post_X0_contains_n121 : GoodIn wsX2_post (wsX0_contains) := ggX2_post_X0_contains
theorem dX2_post_0 : decode cX2_post 0 = .ok (.iload_n 1, 1) := by decide +kernel
theorem dX2_post_1 : decode cX2_post 1 = .ok (.invokestatic 105, 3) := by decide +kernel
theorem dX2_post_4 : decode cX2_post 4 = .ok (.iload_n 3, 1) := by decide +kernel
theorem dX2_post_5 : decode cX2_post 5 = .ok (.bipush 112, 2) := by decide +kernel
theorem dX2_post_7 : decode cX2_post 7 = .ok (.if_icmp .eq 19, 3) := by decide +kernel
theorem dX2_post_10 : decode cX2_post 10 = .ok (.iload_n 3, 1) := by decide +kernel
theorem dX2_post_11 : decode cX2_post 11 = .ok (.bipush 110, 2) := by decide +kernel
theorem dX2_post_13 : decode cX2_post 13 = .ok (.if_icmp .eq 13, 3) := by decide +kernel
theorem dX2_post_16 : decode cX2_post 16 = .ok (.new 31, 3) := by decide +kernel
theorem dX2_post_19 : decode cX2_post 19 = .ok (.dup, 1) := by decide +kernel
theorem dX2_post_20 : decode cX2_post 20 = .ok (.ldc 108, 2) := by decide +kernel
theorem dX2_post_22 : decode cX2_post 22 = .ok (.invokespecial 35, 3) := by decide +kernel
theorem dX2_post_25 : decode cX2_post 25 = .ok (.athrow, 1) := by decide +kernel
theorem dX2_post_26 : decode cX2_post 26 = .ok (.iload_n 2, 1) := by decide +kernel
theorem dX2_post_27 : decode cX2_post 27 = .ok (.iconst 0, 1) := by decide +kernel
theorem dX2_post_28 : decode cX2_post 28 = .ok (.sipush 999, 3) := by decide +kernel
theorem dX2_post_31 : decode cX2_post 31 = .ok (.invokestatic 27, 3) := by decide +kernel
theorem dX2_post_34 : decode cX2_post 34 = .ok (.ifCond .eq 37, 3) := by decide +kernel
theorem dX2_post_37 : decode cX2_post 37 = .ok (.iload 4, 2) := by decide +kernel
theorem dX2_post_39 : decode cX2_post 39 = .ok (.iconst 0, 1) := by decide +kernel
theorem dX2_post_40 : decode cX2_post 40 = .ok (.bipush 7, 2) := by decide +kernel
theorem dX2_post_42 : decode cX2_post 42 = .ok (.invokestatic 27, 3) := by decide +kernel
theorem dX2_post_45 : decode cX2_post 45 = .ok (.ifCond .eq 26, 3) := by decide +kernel
theorem dX2_post_48 : decode cX2_post 48 = .ok (.iload 5, 2) := by decide +kernel
theorem dX2_post_50 : decode cX2_post 50 = .ok (.iconst 0, 1) := by decide +kernel
theorem dX2_post_51 : decode cX2_post 51 = .ok (.sipush 9999, 3) := by decide +kernel
theorem dX2_post_54 : decode cX2_post 54 = .ok (.invokestatic 27, 3) := by decide +kernel
theorem dX2_post_57 : decode cX2_post 57 = .ok (.ifCond .eq 14, 3) := by decide +kernel
theorem dX2_post_60 : decode cX2_post 60 = .ok (.iload 6, 2) := by decide +kernel
theorem dX2_post_62 : decode cX2_post 62 = .ok (.iconst 0, 1) := by decide +kernel
theorem dX2_post_63 : decode cX2_post 63 = .ok (.bipush 30, 2) := by decide +kernel
theorem dX2_post_65 : decode cX2_post 65 = .ok (.invokestatic 27, 3) := by decide +kernel
theorem dX2_post_68 : decode cX2_post 68 = .ok (.ifCond .ne 13, 3) := by decide +kernel
theorem dX2_post_71 : decode cX2_post 71 = .ok (.new 31, 3) := by decide +kernel
theorem dX2_post_74 : decode cX2_post 74 = .ok (.dup, 1) := by decide +kernel
theorem dX2_post_75 : decode cX2_post 75 = .ok (.ldc 110, 2) := by decide +kernel
theorem dX2_post_77 : decode cX2_post 77 = .ok (.invokespecial 35, 3) := by decide +kernel
theorem dX2_post_80 : decode cX2_post 80 = .ok (.athrow, 1) := by decide +kernel
theorem dX2_post_81 : decode cX2_post 81 = .ok (.aload_n 0, 1) := by decide +kernel
theorem dX2_post_82 : decode cX2_post 82 = .ok (.getfield 19, 3) := by decide +kernel
theorem dX2_post_85 : decode cX2_post 85 = .ok (.iload_n 2, 1) := by decide +kernel
theorem dX2_post_86 : decode cX2_post 86 = .ok (.invokevirtual 112, 3) := by decide +kernel
theorem dX2_post_89 : decode cX2_post 89 = .ok (.istore 7, 2) := by decide +kernel
theorem dX2_post_91 : decode cX2_post 91 = .ok (.iload 7, 2) := by decide +kernel
theorem dX2_post_93 : decode cX2_post 93 = .ok (.iconst (-1), 1) := by decide +kernel
theorem dX2_post_94 : decode cX2_post 94 = .ok (.if_icmp .eq 6, 3) := by decide +kernel
theorem dX2_post_97 : decode cX2_post 97 = .ok (.iload 7, 2) := by decide +kernel
theorem dX2_post_99 : decode cX2_post 99 = .ok (.ireturn, 1) := by decide +kernel
theorem dX2_post_100 : decode cX2_post 100 = .ok (.aload_n 0, 1) := by decide +kernel
theorem dX2_post_101 : decode cX2_post 101 = .ok (.getfield 19, 3) := by decide +kernel
theorem dX2_post_104 : decode cX2_post 104 = .ok (.invokevirtual 115, 3) := by decide +kernel
theorem dX2_post_107 : decode cX2_post 107 = .ok (.ifCond .eq 13, 3) := by decide +kernel
theorem dX2_post_110 : decode cX2_post 110 = .ok (.new 42, 3) := by decide +kernel
theorem dX2_post_113 : decode cX2_post 113 = .ok (.dup, 1) := by decide +kernel
theorem dX2_post_114 : decode cX2_post 114 = .ok (.ldc 116, 2) := by decide +kernel
theorem dX2_post_116 : decode cX2_post 116 = .ok (.invokespecial 46, 3) := by decide +kernel
theorem dX2_post_119 : decode cX2_post 119 = .ok (.athrow, 1) := by decide +kernel
theorem dX2_post_120 : decode cX2_post 120 = .ok (.aload_n 0, 1) := by decide +kernel
theorem dX2_post_121 : decode cX2_post 121 = .ok (.getfield 19, 3) := by decide +kernel
theorem dX2_post_124 : decode cX2_post 124 = .ok (.iload_n 1, 1) := by decide +kernel
theorem dX2_post_125 : decode cX2_post 125 = .ok (.iload_n 2, 1) := by decide +kernel
theorem dX2_post_126 : decode cX2_post 126 = .ok (.iload_n 3, 1) := by decide +kernel
theorem dX2_post_127 : decode cX2_post 127 = .ok (.iload 4, 2) := by decide +kernel
theorem dX2_post_129 : decode cX2_post 129 = .ok (.iload 5, 2) := by decide +kernel
theorem dX2_post_131 : decode cX2_post 131 = .ok (.aload_n 0, 1) := by decide +kernel
theorem dX2_post_132 : decode cX2_post 132 = .ok (.getfield 23, 3) := by decide +kernel
theorem dX2_post_135 : decode cX2_post 135 = .ok (.iload 6, 2) := by decide +kernel
theorem dX2_post_137 : decode cX2_post 137 = .ok (.iadd, 1) := by decide +kernel
theorem dX2_post_138 : decode cX2_post 138 = .ok (.invokevirtual 118, 3) := by decide +kernel
theorem dX2_post_141 : decode cX2_post 141 = .ok (.istore 8, 2) := by decide +kernel
theorem dX2_post_143 : decode cX2_post 143 = .ok (.aload_n 0, 1) := by decide +kernel
theorem dX2_post_144 : decode cX2_post 144 = .ok (.getfield 10, 3) := by decide +kernel
theorem dX2_post_147 : decode cX2_post 147 = .ok (.iload 4, 2) := by decide +kernel
theorem dX2_post_149 : decode cX2_post 149 = .ok (.invokevirtual 121, 3) := by decide +kernel
theorem dX2_post_152 : decode cX2_post 152 = .ok (.ifCond .ne 15, 3) := by decide +kernel
theorem dX2_post_155 : decode cX2_post 155 = .ok (.aload_n 0, 1) := by decide +kernel
theorem dX2_post_156 : decode cX2_post 156 = .ok (.getfield 19, 3) := by decide +kernel
theorem dX2_post_159 : decode cX2_post 159 = .ok (.getfield 124, 3) := by decide +kernel
theorem dX2_post_162 : decode cX2_post 162 = .ok (.iload 8, 2) := by decide +kernel
theorem dX2_post_164 : decode cX2_post 164 = .ok (.bipush 104, 2) := by decide +kernel
theorem dX2_post_166 : decode cX2_post 166 = .ok (.castore, 1) := by decide +kernel
theorem dX2_post_167 : decode cX2_post 167 = .ok (.iload 8, 2) := by decide +kernel
theorem dX2_post_169 : decode cX2_post 169 = .ok (.ireturn, 1) := by decide +kernel
set_option maxRecDepth 20000 in
theorem ggX2_withKey_X1_find : GoodIn wsX2_withKey wsX1_find := goodIn_ca (goodIn_r _ [7, 8, 9, 13, 14, 15, 16, 17, 18, 19, 20, 21, 22, 23, 24, 25] (by decide +kernel) (by decide +kernel)) (goodIn_sub (fun _ h => List.mem_cons_of_mem _ (List.mem_append_right _ h)) (by decide +kernel))
set_option maxRecDepth 20000 in
theorem gX2_withKey_X1_find_n112 : GoodIn wsX2_withKey (wsX1_find) := ggX2_withKey_X1_find
theorem dX2_withKey_0 : decode cX2_withKey 0 = .ok (.aload_n 0, 1) := by decide +kernel
theorem dX2_withKey_1 : decode cX2_withKey 1 = .ok (.getfield 19, 3) := by decide +kernel
theorem dX2_withKey_4 : decode cX2_withKey 4 = .ok (.iload_n 1, 1) := by decide +kernel
theorem dX2_withKey_5 : decode cX2_withKey 5 = .ok (.invokevirtual 112, 3) := by decide +kernel
theorem dX2_withKey_8 : decode cX2_withKey 8 = .ok (.istore_n 2, 1) := by decide +kernel
theorem dX2_withKey_9 : decode cX2_withKey 9 = .ok (.iload_n 2, 1) := by decide +kernel
theorem dX2_withKey_10 : decode cX2_withKey 10 = .ok (.iconst (-1), 1) := by decide +kernel
theorem dX2_withKey_11 : decode cX2_withKey 11 = .ok (.if_icmp .ne 13, 3) := by decide +kernel
theorem dX2_withKey_14 : decode cX2_withKey 14 = .ok (.new 88, 3) := by decide +kernel
theorem dX2_withKey_17 : decode cX2_withKey 17 = .ok (.dup, 1) := by decide +kernel
theorem dX2_withKey_18 : decode cX2_withKey 18 = .ok (.ldc 128, 2) := by decide +kernel
theorem dX2_withKey_20 : decode cX2_withKey 20 = .ok (.invokespecial 92, 3) := by decide +kernel
theorem dX2_withKey_23 : decode cX2_withKey 23 = .ok (.athrow, 1) := by decide +kernel
theorem dX2_withKey_24 : decode cX2_withKey 24 = .ok (.iload_n 2, 1) := by decide +kernel
theorem dX2_withKey_25 : decode cX2_withKey 25 = .ok (.ireturn, 1) := by decide +kernel
set_option maxRecDepth 20000 in
theorem ggX2_state_X2_requireMessage : GoodIn wsX2_state wsX2_requireMessage := goodIn_ca (goodIn_r _ [6, 7, 8, 1, 9, 10, 11, 12, 13, 14, 15, 16, 17, 18, 19, 20, 21, 22, 23, 24, 25, 26, 27, 28, 29] (by decide +kernel) (by decide +kernel)) (goodIn_sub (fun _ h => List.mem_cons_of_mem _ (List.mem_append_right _ h)) (by decide +kernel))
set_option maxRecDepth 20000 in
theorem gX2_state_X2_requireMessage : GoodIn wsX2_state (wsV RX2 130 RX2 yX2_requireMessage wsX2_requireMessage) := goodIn_app (goodIn_of _ (by decide +kernel)) ggX2_state_X2_requireMessage
theorem dX2_state_0 : decode cX2_state 0 = .ok (.aload_n 0, 1) := by decide +kernel
theorem dX2_state_1 : decode cX2_state 1 = .ok (.iload_n 1, 1) := by decide +kernel
theorem dX2_state_2 : decode cX2_state 2 = .ok (.invokevirtual 130, 3) := by decide +kernel
theorem dX2_state_5 : decode cX2_state 5 = .ok (.aload_n 0, 1) := by decide +kernel
theorem dX2_state_6 : decode cX2_state 6 = .ok (.getfield 19, 3) := by decide +kernel
theorem dX2_state_9 : decode cX2_state 9 = .ok (.getfield 124, 3) := by decide +kernel
theorem dX2_state_12 : decode cX2_state 12 = .ok (.iload_n 1, 1) := by decide +kernel
theorem dX2_state_13 : decode cX2_state 13 = .ok (.caload, 1) := by decide +kernel
theorem dX2_state_14 : decode cX2_state 14 = .ok (.ireturn, 1) := by decide +kernel
set_option maxRecDepth 20000 in
theorem ggX2_kind_X2_requireMessage : GoodIn wsX2_kind wsX2_requireMessage := goodIn_ca (goodIn_r _ [6, 7, 8, 1, 9, 10, 11, 12, 13, 14, 15, 16, 17, 18, 19, 20, 21, 22, 23, 24, 25, 26, 27, 28, 29] (by decide +kernel) (by decide +kernel)) (goodIn_sub (fun _ h => List.mem_cons_of_mem _ (List.mem_append_right _ h)) (by decide +kernel))
set_option maxRecDepth 20000 in
theorem gX2_kind_X2_requireMessage : GoodIn wsX2_kind (wsV RX2 130 RX2 yX2_requireMessage wsX2_requireMessage) := goodIn_app (goodIn_of _ (by decide +kernel)) ggX2_kind_X2_requireMessage
theorem dX2_kind_0 : decode cX2_kind 0 = .ok (.aload_n 0, 1) := by decide +kernel
theorem dX2_kind_1 : decode cX2_kind 1 = .ok (.iload_n 1, 1) := by decide +kernel
theorem dX2_kind_2 : decode cX2_kind 2 = .ok (.invokevirtual 130, 3) := by decide +kernel
theorem dX2_kind_5 : decode cX2_kind 5 = .ok (.aload_n 0, 1) := by decide +kernel
theorem dX2_kind_6 : decode cX2_kind 6 = .ok (.getfield 19, 3) := by decide +kernel
theorem dX2_kind_9 : decode cX2_kind 9 = .ok (.getfield 133, 3) := by decide +kernel
theorem dX2_kind_12 : decode cX2_kind 12 = .ok (.iload_n 1, 1) := by decide +kernel
theorem dX2_kind_13 : decode cX2_kind 13 = .ok (.caload, 1) := by decide +kernel
theorem dX2_kind_14 : decode cX2_kind 14 = .ok (.ireturn, 1) := by decide +kernel
set_option maxRecDepth 20000 in
theorem ggX2_tries_X2_requireMessage : GoodIn wsX2_tries wsX2_requireMessage := goodIn_ca (goodIn_r _ [6, 7, 8, 1, 9, 10, 11, 12, 13, 14, 15, 16, 17, 18, 19, 20, 21, 22, 23, 24, 25, 26, 27, 28, 29] (by decide +kernel) (by decide +kernel)) (goodIn_sub (fun _ h => List.mem_cons_of_mem _ (List.mem_append_right _ h)) (by decide +kernel))
set_option maxRecDepth 20000 in
theorem gX2_tries_X2_requireMessage : GoodIn wsX2_tries (wsV RX2 130 RX2 yX2_requireMessage wsX2_requireMessage) := goodIn_app (goodIn_of _ (by decide +kernel)) ggX2_tries_X2_requireMessage
theorem dX2_tries_0 : decode cX2_tries 0 = .ok (.aload_n 0, 1) := by decide +kernel
theorem dX2_tries_1 : decode cX2_tries 1 = .ok (.iload_n 1, 1) := by decide +kernel
theorem dX2_tries_2 : decode cX2_tries 2 = .ok (.invokevirtual 130, 3) := by decide +kernel
theorem dX2_tries_5 : decode cX2_tries 5 = .ok (.aload_n 0, 1) := by decide +kernel
theorem dX2_tries_6 : decode cX2_tries 6 = .ok (.getfield 19, 3) := by decide +kernel
theorem dX2_tries_9 : decode cX2_tries 9 = .ok (.getfield 136, 3) := by decide +kernel
theorem dX2_tries_12 : decode cX2_tries 12 = .ok (.iload_n 1, 1) := by decide +kernel
theorem dX2_tries_13 : decode cX2_tries 13 = .ok (.iaload, 1) := by decide +kernel
theorem dX2_tries_14 : decode cX2_tries 14 = .ok (.ireturn, 1) := by decide +kernel
set_option maxRecDepth 20000 in
theorem ggX2_readyAt_X2_requireMessage : GoodIn wsX2_readyAt wsX2_requireMessage := goodIn_ca (goodIn_r _ [6, 7, 8, 1, 9, 10, 11, 12, 13, 20, 21, 22, 23, 24, 25, 26, 27, 28, 29, 30, 31, 32, 33, 34, 35] (by decide +kernel) (by decide +kernel)) (goodIn_sub (fun _ h => List.mem_cons_of_mem _ (List.mem_append_left _ (List.mem_append_right _ h))) (by decide +kernel))
set_option maxRecDepth 20000 in
theorem gX2_readyAt_X2_requireMessage : GoodIn wsX2_readyAt (wsV RX2 130 RX2 yX2_requireMessage wsX2_requireMessage) := goodIn_app (goodIn_of _ (by decide +kernel)) ggX2_readyAt_X2_requireMessage
set_option maxRecDepth 20000 in
theorem ggX2_readyAt_X2_requireState : GoodIn wsX2_readyAt wsX2_requireState := goodIn_ca (goodIn_ca (goodIn_r _ [17, 18, 19, 1, 20, 21, 22, 23, 24, 25, 26, 27, 28, 29, 30, 31, 32, 33, 34, 35] (by decide +kernel) (by decide +kernel)) (goodIn_sub (fun _ h => List.mem_cons_of_mem _ (List.mem_append_left _ (List.mem_append_left _ (List.mem_append_right _ h)))) (by decide +kernel))) (goodIn_sub (fun _ h => List.mem_cons_of_mem _ (List.mem_append_right _ h)) (by decide +kernel))
set_option maxRecDepth 20000 in
theorem gX2_readyAt_X2_requireState : GoodIn wsX2_readyAt (wsV RX2 139 RX2 yX2_requireState wsX2_requireState) := goodIn_app (goodIn_of _ (by decide +kernel)) ggX2_readyAt_X2_requireState
theorem dX2_readyAt_0 : decode cX2_readyAt 0 = .ok (.aload_n 0, 1) := by decide +kernel
theorem dX2_readyAt_1 : decode cX2_readyAt 1 = .ok (.iload_n 1, 1) := by decide +kernel
theorem dX2_readyAt_2 : decode cX2_readyAt 2 = .ok (.invokevirtual 130, 3) := by decide +kernel
theorem dX2_readyAt_5 : decode cX2_readyAt 5 = .ok (.aload_n 0, 1) := by decide +kernel
theorem dX2_readyAt_6 : decode cX2_readyAt 6 = .ok (.iload_n 1, 1) := by decide +kernel
theorem dX2_readyAt_7 : decode cX2_readyAt 7 = .ok (.bipush 119, 2) := by decide +kernel
theorem dX2_readyAt_9 : decode cX2_readyAt 9 = .ok (.invokevirtual 139, 3) := by decide +kernel
theorem dX2_readyAt_12 : decode cX2_readyAt 12 = .ok (.aload_n 0, 1) := by decide +kernel
theorem dX2_readyAt_13 : decode cX2_readyAt 13 = .ok (.getfield 19, 3) := by decide +kernel
theorem dX2_readyAt_16 : decode cX2_readyAt 16 = .ok (.getfield 143, 3) := by decide +kernel
theorem dX2_readyAt_19 : decode cX2_readyAt 19 = .ok (.iload_n 1, 1) := by decide +kernel
theorem dX2_readyAt_20 : decode cX2_readyAt 20 = .ok (.iaload, 1) := by decide +kernel
theorem dX2_readyAt_21 : decode cX2_readyAt 21 = .ok (.ireturn, 1) := by decide +kernel
set_option maxRecDepth 20000 in
theorem ggX2_ready_X2_requireQueue : GoodIn wsX2_ready wsX2_requireQueue := goodIn_ca (goodIn_r _ [6, 7, 8, 9, 10, 5, 11] (by decide +kernel) (by decide +kernel)) (goodIn_sub (fun _ h => List.mem_cons_of_mem _ (List.mem_append_left _ (List.mem_append_right _ h))) (by decide +kernel))
set_option maxRecDepth 20000 in
theorem gX2_ready_X2_requireQueue : GoodIn wsX2_ready (va_wsS RX2 105 yX2_requireQueue wsX2_requireQueue) := goodIn_app (goodIn_of _ (by decide +kernel)) ggX2_ready_X2_requireQueue
set_option maxRecDepth 20000 in
theorem ggX2_ready_X1_countReady : GoodIn wsX2_ready wsX1_countReady := goodIn_ca (goodIn_r _ [15, 16, 17, 18, 19, 13, 20, 21, 22, 23, 27, 28, 29, 30, 31, 32, 33, 34, 35, 36, 37, 38, 39] (by decide +kernel) (by decide +kernel)) (goodIn_sub (fun _ h => List.mem_cons_of_mem _ (List.mem_append_right _ h)) (by decide +kernel))
set_option maxRecDepth 20000 in
theorem gX2_ready_X1_countReady_n146 : GoodIn wsX2_ready (wsX1_countReady) := ggX2_ready_X1_countReady
theorem dX2_ready_0 : decode cX2_ready 0 = .ok (.iload_n 1, 1) := by decide +kernel
theorem dX2_ready_1 : decode cX2_ready 1 = .ok (.invokestatic 105, 3) := by decide +kernel
theorem dX2_ready_4 : decode cX2_ready 4 = .ok (.aload_n 0, 1) := by decide +kernel
theorem dX2_ready_5 : decode cX2_ready 5 = .ok (.getfield 19, 3) := by decide +kernel
theorem dX2_ready_8 : decode cX2_ready 8 = .ok (.iload_n 1, 1) := by decide +kernel
theorem dX2_ready_9 : decode cX2_ready 9 = .ok (.aload_n 0, 1) := by decide +kernel
theorem dX2_ready_10 : decode cX2_ready 10 = .ok (.getfield 23, 3) := by decide +kernel
theorem dX2_ready_13 : decode cX2_ready 13 = .ok (.invokevirtual 146, 3) := by decide +kernel
theorem dX2_ready_16 : decode cX2_ready 16 = .ok (.ireturn, 1) := by decide +kernel
set_option maxRecDepth 20000 in
theorem ggX2_readyAtPlace_X2_requireQueue : GoodIn wsX2_readyAtPlace wsX2_requireQueue := goodIn_ca (goodIn_r _ [8, 9, 10, 11, 12, 7, 13] (by decide +kernel) (by decide +kernel)) (goodIn_sub (fun _ h => List.mem_cons_of_mem _ (List.mem_append_left _ (List.mem_append_right _ h))) (by decide +kernel))
set_option maxRecDepth 20000 in
theorem gX2_readyAtPlace_X2_requireQueue : GoodIn wsX2_readyAtPlace (va_wsS RX2 105 yX2_requireQueue wsX2_requireQueue) := goodIn_app (goodIn_of _ (by decide +kernel)) ggX2_readyAtPlace_X2_requireQueue
set_option maxRecDepth 20000 in
theorem ggX2_readyAtPlace_X1_countReady : GoodIn wsX2_readyAtPlace wsX1_countReady := goodIn_ca (goodIn_r _ [17, 18, 19, 20, 21, 15, 22, 23, 24, 25, 36, 37, 38, 39, 40, 41, 42, 43, 44, 45, 46, 47, 48] (by decide +kernel) (by decide +kernel)) (goodIn_sub (fun _ h => List.mem_cons_of_mem _ (List.mem_append_right _ h)) (by decide +kernel))
set_option maxRecDepth 20000 in
theorem gX2_readyAtPlace_X1_countReady_n146 : GoodIn wsX2_readyAtPlace (wsX1_countReady) := ggX2_readyAtPlace_X1_countReady
set_option maxRecDepth 20000 in
theorem ggX2_readyAtPlace_X1_nextReady : GoodIn wsX2_readyAtPlace wsX1_nextReady := goodIn_ca (goodIn_r _ [28, 18, 19, 20, 21, 15, 22, 23, 24, 25, 29, 30, 31, 32, 36, 37, 38, 39, 40, 41, 42, 43, 44, 45, 46, 47, 48] (by decide +kernel) (by decide +kernel)) (goodIn_sub (fun _ h => List.mem_cons_of_mem _ (List.mem_append_right _ h)) (by decide +kernel))
set_option maxRecDepth 20000 in
theorem gX2_readyAtPlace_X1_nextReady_n151 : GoodIn wsX2_readyAtPlace (wsX1_nextReady) := ggX2_readyAtPlace_X1_nextReady
theorem dX2_readyAtPlace_0 : decode cX2_readyAtPlace 0 = .ok (.iload_n 1, 1) := by decide +kernel
theorem dX2_readyAtPlace_1 : decode cX2_readyAtPlace 1 = .ok (.invokestatic 105, 3) := by decide +kernel
theorem dX2_readyAtPlace_4 : decode cX2_readyAtPlace 4 = .ok (.iload_n 2, 1) := by decide +kernel
theorem dX2_readyAtPlace_5 : decode cX2_readyAtPlace 5 = .ok (.ifCond .lt 19, 3) := by decide +kernel
theorem dX2_readyAtPlace_8 : decode cX2_readyAtPlace 8 = .ok (.iload_n 2, 1) := by decide +kernel
theorem dX2_readyAtPlace_9 : decode cX2_readyAtPlace 9 = .ok (.aload_n 0, 1) := by decide +kernel
theorem dX2_readyAtPlace_10 : decode cX2_readyAtPlace 10 = .ok (.getfield 19, 3) := by decide +kernel
theorem dX2_readyAtPlace_13 : decode cX2_readyAtPlace 13 = .ok (.iload_n 1, 1) := by decide +kernel
theorem dX2_readyAtPlace_14 : decode cX2_readyAtPlace 14 = .ok (.aload_n 0, 1) := by decide +kernel
theorem dX2_readyAtPlace_15 : decode cX2_readyAtPlace 15 = .ok (.getfield 23, 3) := by decide +kernel
theorem dX2_readyAtPlace_18 : decode cX2_readyAtPlace 18 = .ok (.invokevirtual 146, 3) := by decide +kernel
theorem dX2_readyAtPlace_21 : decode cX2_readyAtPlace 21 = .ok (.if_icmp .lt 13, 3) := by decide +kernel
theorem dX2_readyAtPlace_24 : decode cX2_readyAtPlace 24 = .ok (.new 88, 3) := by decide +kernel
theorem dX2_readyAtPlace_27 : decode cX2_readyAtPlace 27 = .ok (.dup, 1) := by decide +kernel
theorem dX2_readyAtPlace_28 : decode cX2_readyAtPlace 28 = .ok (.ldc 149, 2) := by decide +kernel
theorem dX2_readyAtPlace_30 : decode cX2_readyAtPlace 30 = .ok (.invokespecial 92, 3) := by decide +kernel
theorem dX2_readyAtPlace_33 : decode cX2_readyAtPlace 33 = .ok (.athrow, 1) := by decide +kernel
theorem dX2_readyAtPlace_34 : decode cX2_readyAtPlace 34 = .ok (.aload_n 0, 1) := by decide +kernel
theorem dX2_readyAtPlace_35 : decode cX2_readyAtPlace 35 = .ok (.getfield 19, 3) := by decide +kernel
theorem dX2_readyAtPlace_38 : decode cX2_readyAtPlace 38 = .ok (.iload_n 1, 1) := by decide +kernel
theorem dX2_readyAtPlace_39 : decode cX2_readyAtPlace 39 = .ok (.aload_n 0, 1) := by decide +kernel
theorem dX2_readyAtPlace_40 : decode cX2_readyAtPlace 40 = .ok (.getfield 23, 3) := by decide +kernel
theorem dX2_readyAtPlace_43 : decode cX2_readyAtPlace 43 = .ok (.iconst (-1), 1) := by decide +kernel
theorem dX2_readyAtPlace_44 : decode cX2_readyAtPlace 44 = .ok (.invokevirtual 151, 3) := by decide +kernel
theorem dX2_readyAtPlace_47 : decode cX2_readyAtPlace 47 = .ok (.istore_n 3, 1) := by decide +kernel
theorem dX2_readyAtPlace_48 : decode cX2_readyAtPlace 48 = .ok (.iconst 0, 1) := by decide +kernel
theorem dX2_readyAtPlace_49 : decode cX2_readyAtPlace 49 = .ok (.istore 4, 2) := by decide +kernel
theorem dX2_readyAtPlace_51 : decode cX2_readyAtPlace 51 = .ok (.iload 4, 2) := by decide +kernel
theorem dX2_readyAtPlace_53 : decode cX2_readyAtPlace 53 = .ok (.iload_n 2, 1) := by decide +kernel
theorem dX2_readyAtPlace_54 : decode cX2_readyAtPlace 54 = .ok (.if_icmp .ge 23, 3) := by decide +kernel
theorem dX2_readyAtPlace_57 : decode cX2_readyAtPlace 57 = .ok (.aload_n 0, 1) := by decide +kernel
theorem dX2_readyAtPlace_58 : decode cX2_readyAtPlace 58 = .ok (.getfield 19, 3) := by decide +kernel
theorem dX2_readyAtPlace_61 : decode cX2_readyAtPlace 61 = .ok (.iload_n 1, 1) := by decide +kernel
theorem dX2_readyAtPlace_62 : decode cX2_readyAtPlace 62 = .ok (.aload_n 0, 1) := by decide +kernel
theorem dX2_readyAtPlace_63 : decode cX2_readyAtPlace 63 = .ok (.getfield 23, 3) := by decide +kernel
theorem dX2_readyAtPlace_66 : decode cX2_readyAtPlace 66 = .ok (.iload_n 3, 1) := by decide +kernel
theorem dX2_readyAtPlace_67 : decode cX2_readyAtPlace 67 = .ok (.invokevirtual 151, 3) := by decide +kernel
theorem dX2_readyAtPlace_70 : decode cX2_readyAtPlace 70 = .ok (.istore_n 3, 1) := by decide +kernel
theorem dX2_readyAtPlace_71 : decode cX2_readyAtPlace 71 = .ok (.iinc 4 1, 3) := by decide +kernel
theorem dX2_readyAtPlace_74 : decode cX2_readyAtPlace 74 = .ok (.goto (-23), 3) := by decide +kernel
theorem dX2_readyAtPlace_77 : decode cX2_readyAtPlace 77 = .ok (.iload_n 3, 1) := by decide +kernel
theorem dX2_readyAtPlace_78 : decode cX2_readyAtPlace 78 = .ok (.ireturn, 1) := by decide +kernel
set_option maxRecDepth 20000 in
theorem ggX2_take_X2_requireClerk : GoodIn wsX2_take wsX2_requireClerk := goodIn_ca (goodIn_r _ [10, 11, 12, 13, 14, 9, 15] (by decide +kernel) (by decide +kernel)) (goodIn_sub (fun _ h => List.mem_cons_of_mem _ (List.mem_append_left _ (List.mem_append_right _ h))) (by decide +kernel))
set_option maxRecDepth 20000 in
theorem gX2_take_X2_requireClerk : GoodIn wsX2_take (va_wsS RX2 155 yX2_requireClerk wsX2_requireClerk) := goodIn_app (goodIn_of _ (by decide +kernel)) ggX2_take_X2_requireClerk
set_option maxRecDepth 20000 in
theorem ggX2_take_X2_requireQueue : GoodIn wsX2_take wsX2_requireQueue := goodIn_ca (goodIn_r _ [18, 11, 12, 13, 14, 9, 15] (by decide +kernel) (by decide +kernel)) (goodIn_sub (fun _ h => List.mem_cons_of_mem _ (List.mem_append_left _ (List.mem_append_right _ h))) (by decide +kernel))
set_option maxRecDepth 20000 in
theorem gX2_take_X2_requireQueue : GoodIn wsX2_take (va_wsS RX2 105 yX2_requireQueue wsX2_requireQueue) := goodIn_app (goodIn_of _ (by decide +kernel)) ggX2_take_X2_requireQueue
set_option maxRecDepth 20000 in
theorem ggX2_take_X1_countTakenBy : GoodIn wsX2_take wsX1_countTakenBy := goodIn_ca (goodIn_r _ [22, 23, 24, 25, 46, 47, 48, 49, 50, 51, 52, 53, 54, 55, 56, 57, 58] (by decide +kernel) (by decide +kernel)) (goodIn_sub (fun _ h => List.mem_cons_of_mem _ (List.mem_append_right _ h)) (by decide +kernel))
set_option maxRecDepth 20000 in
theorem gX2_take_X1_countTakenBy_n158 : GoodIn wsX2_take (wsX1_countTakenBy) := ggX2_take_X1_countTakenBy
set_option maxRecDepth 20000 in
theorem ggX2_take_X1_nextReady : GoodIn wsX2_take wsX1_nextReady := goodIn_ca (goodIn_r _ [28, 23, 29, 30, 31, 20, 32, 33, 24, 34, 35, 36, 37, 38, 46, 47, 48, 49, 50, 51, 52, 53, 54, 55, 56, 57, 58] (by decide +kernel) (by decide +kernel)) (goodIn_sub (fun _ h => List.mem_cons_of_mem _ (List.mem_append_right _ h)) (by decide +kernel))
set_option maxRecDepth 20000 in
theorem gX2_take_X1_nextReady_n151 : GoodIn wsX2_take (wsX1_nextReady) := ggX2_take_X1_nextReady
set_option maxRecDepth 20000 in
theorem ggX2_take_X1_giveTo : GoodIn wsX2_take wsX1_giveTo := goodIn_ca (goodIn_r _ [41, 24, 25, 42, 46, 47, 48, 49, 50, 51, 52, 53, 54, 55, 56, 57, 58] (by decide +kernel) (by decide +kernel)) (goodIn_sub (fun _ h => List.mem_cons_of_mem _ (List.mem_append_right _ h)) (by decide +kernel))
set_option maxRecDepth 20000 in
theorem gX2_take_X1_giveTo_n165 : GoodIn wsX2_take (wsX1_giveTo) := ggX2_take_X1_giveTo
theorem dX2_take_0 : decode cX2_take 0 = .ok (.iload_n 1, 1) := by decide +kernel
theorem dX2_take_1 : decode cX2_take 1 = .ok (.invokestatic 155, 3) := by decide +kernel
theorem dX2_take_4 : decode cX2_take 4 = .ok (.iload_n 2, 1) := by decide +kernel
theorem dX2_take_5 : decode cX2_take 5 = .ok (.invokestatic 105, 3) := by decide +kernel
theorem dX2_take_8 : decode cX2_take 8 = .ok (.aload_n 0, 1) := by decide +kernel
theorem dX2_take_9 : decode cX2_take 9 = .ok (.getfield 19, 3) := by decide +kernel
theorem dX2_take_12 : decode cX2_take 12 = .ok (.iload_n 1, 1) := by decide +kernel
theorem dX2_take_13 : decode cX2_take 13 = .ok (.invokevirtual 158, 3) := by decide +kernel
theorem dX2_take_16 : decode cX2_take 16 = .ok (.iconst 2, 1) := by decide +kernel
theorem dX2_take_17 : decode cX2_take 17 = .ok (.if_icmp .lt 13, 3) := by decide +kernel
theorem dX2_take_20 : decode cX2_take 20 = .ok (.new 42, 3) := by decide +kernel
theorem dX2_take_23 : decode cX2_take 23 = .ok (.dup, 1) := by decide +kernel
theorem dX2_take_24 : decode cX2_take 24 = .ok (.ldc 161, 2) := by decide +kernel
theorem dX2_take_26 : decode cX2_take 26 = .ok (.invokespecial 46, 3) := by decide +kernel
theorem dX2_take_29 : decode cX2_take 29 = .ok (.athrow, 1) := by decide +kernel
theorem dX2_take_30 : decode cX2_take 30 = .ok (.aload_n 0, 1) := by decide +kernel
theorem dX2_take_31 : decode cX2_take 31 = .ok (.getfield 19, 3) := by decide +kernel
theorem dX2_take_34 : decode cX2_take 34 = .ok (.iload_n 2, 1) := by decide +kernel
theorem dX2_take_35 : decode cX2_take 35 = .ok (.aload_n 0, 1) := by decide +kernel
theorem dX2_take_36 : decode cX2_take 36 = .ok (.getfield 23, 3) := by decide +kernel
theorem dX2_take_39 : decode cX2_take 39 = .ok (.iconst (-1), 1) := by decide +kernel
theorem dX2_take_40 : decode cX2_take 40 = .ok (.invokevirtual 151, 3) := by decide +kernel
theorem dX2_take_43 : decode cX2_take 43 = .ok (.istore_n 3, 1) := by decide +kernel
theorem dX2_take_44 : decode cX2_take 44 = .ok (.iload_n 3, 1) := by decide +kernel
theorem dX2_take_45 : decode cX2_take 45 = .ok (.iconst (-1), 1) := by decide +kernel
theorem dX2_take_46 : decode cX2_take 46 = .ok (.if_icmp .ne 13, 3) := by decide +kernel
theorem dX2_take_49 : decode cX2_take 49 = .ok (.new 88, 3) := by decide +kernel
theorem dX2_take_52 : decode cX2_take 52 = .ok (.dup, 1) := by decide +kernel
theorem dX2_take_53 : decode cX2_take 53 = .ok (.ldc 163, 2) := by decide +kernel
theorem dX2_take_55 : decode cX2_take 55 = .ok (.invokespecial 92, 3) := by decide +kernel
theorem dX2_take_58 : decode cX2_take 58 = .ok (.athrow, 1) := by decide +kernel
theorem dX2_take_59 : decode cX2_take 59 = .ok (.aload_n 0, 1) := by decide +kernel
theorem dX2_take_60 : decode cX2_take 60 = .ok (.getfield 19, 3) := by decide +kernel
theorem dX2_take_63 : decode cX2_take 63 = .ok (.iload_n 1, 1) := by decide +kernel
theorem dX2_take_64 : decode cX2_take 64 = .ok (.iload_n 3, 1) := by decide +kernel
theorem dX2_take_65 : decode cX2_take 65 = .ok (.aload_n 0, 1) := by decide +kernel
theorem dX2_take_66 : decode cX2_take 66 = .ok (.getfield 23, 3) := by decide +kernel
theorem dX2_take_69 : decode cX2_take 69 = .ok (.invokevirtual 165, 3) := by decide +kernel
theorem dX2_take_72 : decode cX2_take 72 = .ok (.iload_n 3, 1) := by decide +kernel
theorem dX2_take_73 : decode cX2_take 73 = .ok (.ireturn, 1) := by decide +kernel
set_option maxRecDepth 20000 in
theorem ggX2_finish_X2_requireMessage : GoodIn wsX2_finish wsX2_requireMessage := goodIn_ca (goodIn_r _ [6, 7, 8, 1, 9, 10, 11, 12, 13, 56, 57, 58, 59, 60, 61, 62, 63, 64, 65, 66, 67, 68, 69, 70, 71] (by decide +kernel) (by decide +kernel)) (goodIn_sub (fun _ h => List.mem_cons_of_mem _ (List.mem_append_left _ (List.mem_append_left _ (List.mem_append_right _ h)))) (by decide +kernel))
set_option maxRecDepth 20000 in
theorem gX2_finish_X2_requireMessage : GoodIn wsX2_finish (wsV RX2 130 RX2 yX2_requireMessage wsX2_requireMessage) := goodIn_app (goodIn_of _ (by decide +kernel)) ggX2_finish_X2_requireMessage
set_option maxRecDepth 20000 in
theorem ggX2_finish_X2_requireState : GoodIn wsX2_finish wsX2_requireState := goodIn_ca (goodIn_ca (goodIn_r _ [17, 18, 19, 1, 56, 57, 58, 59, 60, 61, 62, 63, 64, 65, 66, 67, 68, 69, 70, 71] (by decide +kernel) (by decide +kernel)) (goodIn_sub (fun _ h => List.mem_cons_of_mem _ (List.mem_append_left _ (List.mem_append_right _ h))) (by decide +kernel))) (goodIn_sub (fun _ h => List.mem_cons_of_mem _ (List.mem_append_right _ h)) (by decide +kernel))
set_option maxRecDepth 20000 in
theorem gX2_finish_X2_requireState : GoodIn wsX2_finish (wsV RX2 139 RX2 yX2_requireState wsX2_requireState) := goodIn_app (goodIn_of _ (by decide +kernel)) ggX2_finish_X2_requireState
set_option maxRecDepth 20000 in
theorem ggX2_finish_X1_close : GoodIn wsX2_finish wsX1_close := goodIn_ca (goodIn_r _ [22, 23, 24, 25, 59, 60, 61, 62, 63, 64, 65, 66, 67, 68, 69, 70, 71] (by decide +kernel) (by decide +kernel)) (goodIn_sub (fun _ h => List.mem_cons_of_mem _ (List.mem_append_left _ (List.mem_append_right _ h))) (by decide +kernel))
set_option maxRecDepth 20000 in
theorem gX2_finish_X1_close_n169 : GoodIn wsX2_finish (wsX1_close) := ggX2_finish_X1_close
set_option maxRecDepth 20000 in
theorem ggX2_finish_X2_settle : GoodIn wsX2_finish wsX2_settle := goodIn_ca (goodIn_r _ [29, 1, 30, 31, 32, 33, 34, 35, 36, 37, 38, 39, 40, 41, 42, 43, 44, 45, 46, 47, 48, 49, 50, 51, 52, 53, 54, 55, 56, 57, 58, 59, 60, 61, 62, 63, 64, 65, 66, 67, 68, 69, 70, 71, 72, 73, 74, 75, 76, 77, 78] (by decide +kernel) (by decide +kernel)) (goodIn_sub (fun _ h => List.mem_cons_of_mem _ (List.mem_append_left _ (List.mem_append_right _ h))) (by decide +kernel))
set_option maxRecDepth 20000 in
theorem gX2_finish_X2_settle : GoodIn wsX2_finish (wsV RX2 172 RX2 yX2_settle wsX2_settle) := goodIn_app (goodIn_of _ (by decide +kernel)) ggX2_finish_X2_settle
theorem dX2_finish_0 : decode cX2_finish 0 = .ok (.aload_n 0, 1) := by decide +kernel
theorem dX2_finish_1 : decode cX2_finish 1 = .ok (.iload_n 1, 1) := by decide +kernel
theorem dX2_finish_2 : decode cX2_finish 2 = .ok (.invokevirtual 130, 3) := by decide +kernel
theorem dX2_finish_5 : decode cX2_finish 5 = .ok (.aload_n 0, 1) := by decide +kernel
theorem dX2_finish_6 : decode cX2_finish 6 = .ok (.iload_n 1, 1) := by decide +kernel
theorem dX2_finish_7 : decode cX2_finish 7 = .ok (.bipush 116, 2) := by decide +kernel
theorem dX2_finish_9 : decode cX2_finish 9 = .ok (.invokevirtual 139, 3) := by decide +kernel
theorem dX2_finish_12 : decode cX2_finish 12 = .ok (.aload_n 0, 1) := by decide +kernel
theorem dX2_finish_13 : decode cX2_finish 13 = .ok (.getfield 19, 3) := by decide +kernel
theorem dX2_finish_16 : decode cX2_finish 16 = .ok (.iload_n 1, 1) := by decide +kernel
theorem dX2_finish_17 : decode cX2_finish 17 = .ok (.invokevirtual 169, 3) := by decide +kernel
theorem dX2_finish_20 : decode cX2_finish 20 = .ok (.aload_n 0, 1) := by decide +kernel
theorem dX2_finish_21 : decode cX2_finish 21 = .ok (.iload_n 1, 1) := by decide +kernel
theorem dX2_finish_22 : decode cX2_finish 22 = .ok (.invokevirtual 172, 3) := by decide +kernel
theorem dX2_finish_25 : decode cX2_finish 25 = .ok (.ireturn, 1) := by decide +kernel
set_option maxRecDepth 20000 in
theorem ggX2_handBack_X2_requireMessage : GoodIn wsX2_handBack wsX2_requireMessage := goodIn_ca (goodIn_r _ [7, 8, 9, 1, 10, 11, 12, 13, 14, 27, 28, 29, 30, 31, 32, 33, 34, 35, 36, 37, 38, 39, 40, 41, 42] (by decide +kernel) (by decide +kernel)) (goodIn_sub (fun _ h => List.mem_cons_of_mem _ (List.mem_append_left _ (List.mem_append_right _ h))) (by decide +kernel))
set_option maxRecDepth 20000 in
theorem gX2_handBack_X2_requireMessage : GoodIn wsX2_handBack (wsV RX2 130 RX2 yX2_requireMessage wsX2_requireMessage) := goodIn_app (goodIn_of _ (by decide +kernel)) ggX2_handBack_X2_requireMessage
set_option maxRecDepth 20000 in
theorem ggX2_handBack_X2_requireState : GoodIn wsX2_handBack wsX2_requireState := goodIn_ca (goodIn_ca (goodIn_r _ [18, 19, 20, 1, 27, 28, 29, 30, 31, 32, 33, 34, 35, 36, 37, 38, 39, 40, 41, 42] (by decide +kernel) (by decide +kernel)) (goodIn_sub (fun _ h => List.mem_cons_of_mem _ (List.mem_append_left _ (List.mem_append_left _ (List.mem_append_right _ h)))) (by decide +kernel))) (goodIn_sub (fun _ h => List.mem_cons_of_mem _ (List.mem_append_right _ h)) (by decide +kernel))
set_option maxRecDepth 20000 in
theorem gX2_handBack_X2_requireState : GoodIn wsX2_handBack (wsV RX2 139 RX2 yX2_requireState wsX2_requireState) := goodIn_app (goodIn_of _ (by decide +kernel)) ggX2_handBack_X2_requireState
set_option maxRecDepth 20000 in
theorem ggX2_handBack_X1_putBack : GoodIn wsX2_handBack wsX1_putBack := goodIn_ca (goodIn_r _ [23, 24, 25, 26, 30, 31, 32, 33, 34, 35, 36, 37, 38, 39, 40, 41, 42] (by decide +kernel) (by decide +kernel)) (goodIn_sub (fun _ h => List.mem_cons_of_mem _ (List.mem_append_left _ (List.mem_append_left _ (List.mem_append_right _ h)))) (by decide +kernel))
set_option maxRecDepth 20000 in
theorem gX2_handBack_X1_putBack_n175 : GoodIn wsX2_handBack (wsX1_putBack) := ggX2_handBack_X1_putBack
theorem dX2_handBack_0 : decode cX2_handBack 0 = .ok (.aload_n 0, 1) := by decide +kernel
theorem dX2_handBack_1 : decode cX2_handBack 1 = .ok (.iload_n 1, 1) := by decide +kernel
theorem dX2_handBack_2 : decode cX2_handBack 2 = .ok (.invokevirtual 130, 3) := by decide +kernel
theorem dX2_handBack_5 : decode cX2_handBack 5 = .ok (.aload_n 0, 1) := by decide +kernel
theorem dX2_handBack_6 : decode cX2_handBack 6 = .ok (.iload_n 1, 1) := by decide +kernel
theorem dX2_handBack_7 : decode cX2_handBack 7 = .ok (.bipush 116, 2) := by decide +kernel
theorem dX2_handBack_9 : decode cX2_handBack 9 = .ok (.invokevirtual 139, 3) := by decide +kernel
theorem dX2_handBack_12 : decode cX2_handBack 12 = .ok (.aload_n 0, 1) := by decide +kernel
theorem dX2_handBack_13 : decode cX2_handBack 13 = .ok (.getfield 19, 3) := by decide +kernel
theorem dX2_handBack_16 : decode cX2_handBack 16 = .ok (.iload_n 1, 1) := by decide +kernel
theorem dX2_handBack_17 : decode cX2_handBack 17 = .ok (.aload_n 0, 1) := by decide +kernel
theorem dX2_handBack_18 : decode cX2_handBack 18 = .ok (.getfield 23, 3) := by decide +kernel
theorem dX2_handBack_21 : decode cX2_handBack 21 = .ok (.invokevirtual 175, 3) := by decide +kernel
theorem dX2_handBack_24 : decode cX2_handBack 24 = .ok (.aload_n 0, 1) := by decide +kernel
theorem dX2_handBack_25 : decode cX2_handBack 25 = .ok (.getfield 19, 3) := by decide +kernel
theorem dX2_handBack_28 : decode cX2_handBack 28 = .ok (.getfield 136, 3) := by decide +kernel
theorem dX2_handBack_31 : decode cX2_handBack 31 = .ok (.iload_n 1, 1) := by decide +kernel
theorem dX2_handBack_32 : decode cX2_handBack 32 = .ok (.iaload, 1) := by decide +kernel
theorem dX2_handBack_33 : decode cX2_handBack 33 = .ok (.ireturn, 1) := by decide +kernel
set_option maxRecDepth 20000 in
theorem ggX2_revive_X2_requireMessage : GoodIn wsX2_revive wsX2_requireMessage := goodIn_ca (goodIn_r _ [7, 8, 9, 1, 10, 11, 12, 13, 14, 30, 31, 32, 33, 34, 35, 36, 37, 38, 39, 40, 41, 42, 43, 44, 45] (by decide +kernel) (by decide +kernel)) (goodIn_sub (fun _ h => List.mem_cons_of_mem _ (List.mem_append_left _ (List.mem_append_left _ (List.mem_append_right _ h)))) (by decide +kernel))
set_option maxRecDepth 20000 in
theorem gX2_revive_X2_requireMessage : GoodIn wsX2_revive (wsV RX2 130 RX2 yX2_requireMessage wsX2_requireMessage) := goodIn_app (goodIn_of _ (by decide +kernel)) ggX2_revive_X2_requireMessage
set_option maxRecDepth 20000 in
theorem ggX2_revive_X2_requireState : GoodIn wsX2_revive wsX2_requireState := goodIn_ca (goodIn_ca (goodIn_r _ [18, 19, 20, 1, 30, 31, 32, 33, 34, 35, 36, 37, 38, 39, 40, 41, 42, 43, 44, 45] (by decide +kernel) (by decide +kernel)) (goodIn_sub (fun _ h => List.mem_cons_of_mem _ (List.mem_append_left _ (List.mem_append_right _ h))) (by decide +kernel))) (goodIn_sub (fun _ h => List.mem_cons_of_mem _ (List.mem_append_right _ h)) (by decide +kernel))
set_option maxRecDepth 20000 in
theorem gX2_revive_X2_requireState : GoodIn wsX2_revive (wsV RX2 139 RX2 yX2_requireState wsX2_requireState) := goodIn_app (goodIn_of _ (by decide +kernel)) ggX2_revive_X2_requireState
set_option maxRecDepth 20000 in
theorem ggX2_revive_X1_wake : GoodIn wsX2_revive wsX1_wake := goodIn_ca (goodIn_r _ [23, 24, 25, 26, 33, 34, 35, 36, 37, 38, 39, 40, 41, 42, 43, 44, 45] (by decide +kernel) (by decide +kernel)) (goodIn_sub (fun _ h => List.mem_cons_of_mem _ (List.mem_append_left _ (List.mem_append_right _ h))) (by decide +kernel))
set_option maxRecDepth 20000 in
theorem gX2_revive_X1_wake_n178 : GoodIn wsX2_revive (wsX1_wake) := ggX2_revive_X1_wake
set_option maxRecDepth 20000 in
theorem ggX2_revive_X1_countIn : GoodIn wsX2_revive wsX1_countIn := goodIn_ca (goodIn_r _ [29, 14, 24, 33, 34, 35, 36, 37, 38, 39, 40, 41, 42, 43, 44, 45] (by decide +kernel) (by decide +kernel)) (goodIn_sub (fun _ h => List.mem_cons_of_mem _ (List.mem_append_left _ (List.mem_append_right _ h))) (by decide +kernel))
set_option maxRecDepth 20000 in
theorem gX2_revive_X1_countIn_n181 : GoodIn wsX2_revive (wsX1_countIn) := ggX2_revive_X1_countIn
theorem dX2_revive_0 : decode cX2_revive 0 = .ok (.aload_n 0, 1) := by decide +kernel
theorem dX2_revive_1 : decode cX2_revive 1 = .ok (.iload_n 1, 1) := by decide +kernel
theorem dX2_revive_2 : decode cX2_revive 2 = .ok (.invokevirtual 130, 3) := by decide +kernel
theorem dX2_revive_5 : decode cX2_revive 5 = .ok (.aload_n 0, 1) := by decide +kernel
theorem dX2_revive_6 : decode cX2_revive 6 = .ok (.iload_n 1, 1) := by decide +kernel
theorem dX2_revive_7 : decode cX2_revive 7 = .ok (.bipush 120, 2) := by decide +kernel
theorem dX2_revive_9 : decode cX2_revive 9 = .ok (.invokevirtual 139, 3) := by decide +kernel
theorem dX2_revive_12 : decode cX2_revive 12 = .ok (.aload_n 0, 1) := by decide +kernel
theorem dX2_revive_13 : decode cX2_revive 13 = .ok (.getfield 19, 3) := by decide +kernel
theorem dX2_revive_16 : decode cX2_revive 16 = .ok (.iload_n 1, 1) := by decide +kernel
theorem dX2_revive_17 : decode cX2_revive 17 = .ok (.aload_n 0, 1) := by decide +kernel
theorem dX2_revive_18 : decode cX2_revive 18 = .ok (.getfield 23, 3) := by decide +kernel
theorem dX2_revive_21 : decode cX2_revive 21 = .ok (.invokevirtual 178, 3) := by decide +kernel
theorem dX2_revive_24 : decode cX2_revive 24 = .ok (.aload_n 0, 1) := by decide +kernel
theorem dX2_revive_25 : decode cX2_revive 25 = .ok (.getfield 19, 3) := by decide +kernel
theorem dX2_revive_28 : decode cX2_revive 28 = .ok (.bipush 120, 2) := by decide +kernel
theorem dX2_revive_30 : decode cX2_revive 30 = .ok (.invokevirtual 181, 3) := by decide +kernel
theorem dX2_revive_33 : decode cX2_revive 33 = .ok (.ireturn, 1) := by decide +kernel
set_option maxRecDepth 20000 in
theorem ggX2_clerk_X2_requireMessage : GoodIn wsX2_clerk wsX2_requireMessage := goodIn_ca (goodIn_r _ [8, 9, 10, 3, 11, 12, 13, 14, 15, 16, 17, 18, 19, 20, 21, 22, 23, 24, 25, 26, 27, 28, 29, 30, 31] (by decide +kernel) (by decide +kernel)) (goodIn_sub (fun _ h => List.mem_cons_of_mem _ (List.mem_append_right _ h)) (by decide +kernel))
set_option maxRecDepth 20000 in
theorem gX2_clerk_X2_requireMessage : GoodIn wsX2_clerk (wsV RX2 130 RX2 yX2_requireMessage wsX2_requireMessage) := goodIn_app (goodIn_of _ (by decide +kernel)) ggX2_clerk_X2_requireMessage
theorem dX2_clerk_0 : decode cX2_clerk 0 = .ok (.aload_n 0, 1) := by decide +kernel
theorem dX2_clerk_1 : decode cX2_clerk 1 = .ok (.iload_n 1, 1) := by decide +kernel
theorem dX2_clerk_2 : decode cX2_clerk 2 = .ok (.invokevirtual 130, 3) := by decide +kernel
theorem dX2_clerk_5 : decode cX2_clerk 5 = .ok (.aload_n 0, 1) := by decide +kernel
theorem dX2_clerk_6 : decode cX2_clerk 6 = .ok (.getfield 19, 3) := by decide +kernel
theorem dX2_clerk_9 : decode cX2_clerk 9 = .ok (.getfield 124, 3) := by decide +kernel
theorem dX2_clerk_12 : decode cX2_clerk 12 = .ok (.iload_n 1, 1) := by decide +kernel
theorem dX2_clerk_13 : decode cX2_clerk 13 = .ok (.caload, 1) := by decide +kernel
theorem dX2_clerk_14 : decode cX2_clerk 14 = .ok (.bipush 116, 2) := by decide +kernel
theorem dX2_clerk_16 : decode cX2_clerk 16 = .ok (.if_icmp .eq 13, 3) := by decide +kernel
theorem dX2_clerk_19 : decode cX2_clerk 19 = .ok (.new 88, 3) := by decide +kernel
theorem dX2_clerk_22 : decode cX2_clerk 22 = .ok (.dup, 1) := by decide +kernel
theorem dX2_clerk_23 : decode cX2_clerk 23 = .ok (.ldc 185, 2) := by decide +kernel
theorem dX2_clerk_25 : decode cX2_clerk 25 = .ok (.invokespecial 92, 3) := by decide +kernel
theorem dX2_clerk_28 : decode cX2_clerk 28 = .ok (.athrow, 1) := by decide +kernel
theorem dX2_clerk_29 : decode cX2_clerk 29 = .ok (.aload_n 0, 1) := by decide +kernel
theorem dX2_clerk_30 : decode cX2_clerk 30 = .ok (.getfield 19, 3) := by decide +kernel
theorem dX2_clerk_33 : decode cX2_clerk 33 = .ok (.getfield 187, 3) := by decide +kernel
theorem dX2_clerk_36 : decode cX2_clerk 36 = .ok (.iload_n 1, 1) := by decide +kernel
theorem dX2_clerk_37 : decode cX2_clerk 37 = .ok (.iaload, 1) := by decide +kernel
theorem dX2_clerk_38 : decode cX2_clerk 38 = .ok (.ireturn, 1) := by decide +kernel
set_option maxRecDepth 20000 in
theorem ggX2_has_X2_requireClerk : GoodIn wsX2_has wsX2_requireClerk := goodIn_ca (goodIn_r _ [5, 6, 7, 8, 9, 4, 10] (by decide +kernel) (by decide +kernel)) (goodIn_sub (fun _ h => List.mem_cons_of_mem _ (List.mem_append_left _ (List.mem_append_right _ h))) (by decide +kernel))
set_option maxRecDepth 20000 in
theorem gX2_has_X2_requireClerk : GoodIn wsX2_has (va_wsS RX2 155 yX2_requireClerk wsX2_requireClerk) := goodIn_app (goodIn_of _ (by decide +kernel)) ggX2_has_X2_requireClerk
set_option maxRecDepth 20000 in
theorem ggX2_has_X1_countTakenBy : GoodIn wsX2_has wsX1_countTakenBy := goodIn_ca (goodIn_r _ [14, 15, 16, 17, 21, 22, 23, 24, 25, 26, 27, 28, 29, 30, 31, 32, 33] (by decide +kernel) (by decide +kernel)) (goodIn_sub (fun _ h => List.mem_cons_of_mem _ (List.mem_append_right _ h)) (by decide +kernel))
set_option maxRecDepth 20000 in
theorem gX2_has_X1_countTakenBy_n158 : GoodIn wsX2_has (wsX1_countTakenBy) := ggX2_has_X1_countTakenBy
theorem dX2_has_0 : decode cX2_has 0 = .ok (.iload_n 1, 1) := by decide +kernel
theorem dX2_has_1 : decode cX2_has 1 = .ok (.invokestatic 155, 3) := by decide +kernel
theorem dX2_has_4 : decode cX2_has 4 = .ok (.aload_n 0, 1) := by decide +kernel
theorem dX2_has_5 : decode cX2_has 5 = .ok (.getfield 19, 3) := by decide +kernel
theorem dX2_has_8 : decode cX2_has 8 = .ok (.iload_n 1, 1) := by decide +kernel
theorem dX2_has_9 : decode cX2_has 9 = .ok (.invokevirtual 158, 3) := by decide +kernel
theorem dX2_has_12 : decode cX2_has 12 = .ok (.ireturn, 1) := by decide +kernel
set_option maxRecDepth 20000 in
theorem ggX2_pass_X2_isWithin : GoodIn wsX2_pass wsX2_isWithin := goodIn_r _ [8] (by decide +kernel) (by decide +kernel)
set_option maxRecDepth 20000 in
theorem gX2_pass_X2_isWithin : GoodIn wsX2_pass (va_wsS RX2 27 yX2_isWithin wsX2_isWithin) := goodIn_app (goodIn_of _ (by decide +kernel)) ggX2_pass_X2_isWithin
set_option maxRecDepth 20000 in
theorem ggX2_pass_X1_putBackTakenUntil : GoodIn wsX2_pass wsX1_putBackTakenUntil := goodIn_ca (goodIn_r _ [12, 13, 14, 15, 16, 17, 18, 10, 19, 20, 21, 65, 66, 67, 68, 69, 70, 71, 72, 73, 74, 75, 76, 77] (by decide +kernel) (by decide +kernel)) (goodIn_sub (fun _ h => List.mem_cons_of_mem _ (List.mem_append_right _ h)) (by decide +kernel))
set_option maxRecDepth 20000 in
theorem gX2_pass_X1_putBackTakenUntil_n190 : GoodIn wsX2_pass (wsX1_putBackTakenUntil) := ggX2_pass_X1_putBackTakenUntil
set_option maxRecDepth 20000 in
theorem ggX2_pass_X2_postReminders : GoodIn wsX2_pass wsX2_postReminders := goodIn_ca (goodIn_r _ [25, 26, 4, 3, 27, 10, 28, 29, 13, 30, 31, 32, 7, 33, 34, 35, 36, 37, 38, 39, 40, 41, 42, 43, 44, 45, 46, 47, 48, 49, 50, 51, 52, 53, 54, 55, 56, 57, 58, 59, 60, 61, 21, 14, 62, 63, 64, 78, 79, 80, 81, 82, 83, 84, 65, 66, 67, 68, 69, 70, 71, 72, 73, 74, 75, 76, 77] (by decide +kernel) (by decide +kernel)) (goodIn_sub (fun _ h => List.mem_cons_of_mem _ (List.mem_append_right _ h)) (by decide +kernel))
set_option maxRecDepth 20000 in
theorem gX2_pass_X2_postReminders : GoodIn wsX2_pass (wsV RX2 193 RX2 yX2_postReminders wsX2_postReminders) := goodIn_app (goodIn_of _ (by decide +kernel)) ggX2_pass_X2_postReminders
theorem dX2_pass_0 : decode cX2_pass 0 = .ok (.iload_n 1, 1) := by decide +kernel
theorem dX2_pass_1 : decode cX2_pass 1 = .ok (.iconst 1, 1) := by decide +kernel
theorem dX2_pass_2 : decode cX2_pass 2 = .ok (.bipush 30, 2) := by decide +kernel
theorem dX2_pass_4 : decode cX2_pass 4 = .ok (.invokestatic 27, 3) := by decide +kernel
theorem dX2_pass_7 : decode cX2_pass 7 = .ok (.ifCond .eq 15, 3) := by decide +kernel
theorem dX2_pass_10 : decode cX2_pass 10 = .ok (.aload_n 0, 1) := by decide +kernel
theorem dX2_pass_11 : decode cX2_pass 11 = .ok (.getfield 23, 3) := by decide +kernel
theorem dX2_pass_14 : decode cX2_pass 14 = .ok (.iload_n 1, 1) := by decide +kernel
theorem dX2_pass_15 : decode cX2_pass 15 = .ok (.iadd, 1) := by decide +kernel
theorem dX2_pass_16 : decode cX2_pass 16 = .ok (.sipush 999, 3) := by decide +kernel
theorem dX2_pass_19 : decode cX2_pass 19 = .ok (.if_icmp .le 13, 3) := by decide +kernel
theorem dX2_pass_22 : decode cX2_pass 22 = .ok (.new 31, 3) := by decide +kernel
theorem dX2_pass_25 : decode cX2_pass 25 = .ok (.dup, 1) := by decide +kernel
theorem dX2_pass_26 : decode cX2_pass 26 = .ok (.ldc 63, 2) := by decide +kernel
theorem dX2_pass_28 : decode cX2_pass 28 = .ok (.invokespecial 35, 3) := by decide +kernel
theorem dX2_pass_31 : decode cX2_pass 31 = .ok (.athrow, 1) := by decide +kernel
theorem dX2_pass_32 : decode cX2_pass 32 = .ok (.iconst 0, 1) := by decide +kernel
theorem dX2_pass_33 : decode cX2_pass 33 = .ok (.istore_n 2, 1) := by decide +kernel
theorem dX2_pass_34 : decode cX2_pass 34 = .ok (.iconst 0, 1) := by decide +kernel
theorem dX2_pass_35 : decode cX2_pass 35 = .ok (.istore_n 3, 1) := by decide +kernel
theorem dX2_pass_36 : decode cX2_pass 36 = .ok (.iload_n 3, 1) := by decide +kernel
theorem dX2_pass_37 : decode cX2_pass 37 = .ok (.iload_n 1, 1) := by decide +kernel
theorem dX2_pass_38 : decode cX2_pass 38 = .ok (.if_icmp .ge 43, 3) := by decide +kernel
theorem dX2_pass_41 : decode cX2_pass 41 = .ok (.aload_n 0, 1) := by decide +kernel
theorem dX2_pass_42 : decode cX2_pass 42 = .ok (.dup, 1) := by decide +kernel
theorem dX2_pass_43 : decode cX2_pass 43 = .ok (.getfield 23, 3) := by decide +kernel
theorem dX2_pass_46 : decode cX2_pass 46 = .ok (.iconst 1, 1) := by decide +kernel
theorem dX2_pass_47 : decode cX2_pass 47 = .ok (.iadd, 1) := by decide +kernel
theorem dX2_pass_48 : decode cX2_pass 48 = .ok (.putfield 23, 3) := by decide +kernel
theorem dX2_pass_51 : decode cX2_pass 51 = .ok (.aload_n 0, 1) := by decide +kernel
theorem dX2_pass_52 : decode cX2_pass 52 = .ok (.getfield 19, 3) := by decide +kernel
theorem dX2_pass_55 : decode cX2_pass 55 = .ok (.aload_n 0, 1) := by decide +kernel
theorem dX2_pass_56 : decode cX2_pass 56 = .ok (.getfield 23, 3) := by decide +kernel
theorem dX2_pass_59 : decode cX2_pass 59 = .ok (.iconst 5, 1) := by decide +kernel
theorem dX2_pass_60 : decode cX2_pass 60 = .ok (.isub, 1) := by decide +kernel
theorem dX2_pass_61 : decode cX2_pass 61 = .ok (.aload_n 0, 1) := by decide +kernel
theorem dX2_pass_62 : decode cX2_pass 62 = .ok (.getfield 23, 3) := by decide +kernel
theorem dX2_pass_65 : decode cX2_pass 65 = .ok (.invokevirtual 190, 3) := by decide +kernel
theorem dX2_pass_68 : decode cX2_pass 68 = .ok (.iload_n 2, 1) := by decide +kernel
theorem dX2_pass_69 : decode cX2_pass 69 = .ok (.aload_n 0, 1) := by decide +kernel
theorem dX2_pass_70 : decode cX2_pass 70 = .ok (.invokevirtual 193, 3) := by decide +kernel
theorem dX2_pass_73 : decode cX2_pass 73 = .ok (.iadd, 1) := by decide +kernel
theorem dX2_pass_74 : decode cX2_pass 74 = .ok (.istore_n 2, 1) := by decide +kernel
theorem dX2_pass_75 : decode cX2_pass 75 = .ok (.iinc 3 1, 3) := by decide +kernel
theorem dX2_pass_78 : decode cX2_pass 78 = .ok (.goto (-42), 3) := by decide +kernel
theorem dX2_pass_81 : decode cX2_pass 81 = .ok (.iload_n 2, 1) := by decide +kernel
theorem dX2_pass_82 : decode cX2_pass 82 = .ok (.ireturn, 1) := by decide +kernel
theorem dX2_day_0 : decode cX2_day 0 = .ok (.aload_n 0, 1) := by decide +kernel
theorem dX2_day_1 : decode cX2_day 1 = .ok (.getfield 23, 3) := by decide +kernel
theorem dX2_day_4 : decode cX2_day 4 = .ok (.ireturn, 1) := by decide +kernel
set_option maxRecDepth 20000 in
theorem ggX2_count_X1_countIn : GoodIn wsX2_count wsX1_countIn := goodIn_ca (goodIn_r _ [7, 8, 9, 13, 14, 15, 16, 17, 18, 19, 20, 21, 22, 23, 24, 25] (by decide +kernel) (by decide +kernel)) (goodIn_sub (fun _ h => List.mem_cons_of_mem _ (List.mem_append_right _ h)) (by decide +kernel))
set_option maxRecDepth 20000 in
theorem gX2_count_X1_countIn_n181 : GoodIn wsX2_count (wsX1_countIn) := ggX2_count_X1_countIn
theorem dX2_count_0 : decode cX2_count 0 = .ok (.iload_n 1, 1) := by decide +kernel
theorem dX2_count_1 : decode cX2_count 1 = .ok (.bipush 104, 2) := by decide +kernel
theorem dX2_count_3 : decode cX2_count 3 = .ok (.if_icmp .eq 37, 3) := by decide +kernel
theorem dX2_count_6 : decode cX2_count 6 = .ok (.iload_n 1, 1) := by decide +kernel
theorem dX2_count_7 : decode cX2_count 7 = .ok (.bipush 119, 2) := by decide +kernel
theorem dX2_count_9 : decode cX2_count 9 = .ok (.if_icmp .eq 31, 3) := by decide +kernel
theorem dX2_count_12 : decode cX2_count 12 = .ok (.iload_n 1, 1) := by decide +kernel
theorem dX2_count_13 : decode cX2_count 13 = .ok (.bipush 116, 2) := by decide +kernel
theorem dX2_count_15 : decode cX2_count 15 = .ok (.if_icmp .eq 25, 3) := by decide +kernel
theorem dX2_count_18 : decode cX2_count 18 = .ok (.iload_n 1, 1) := by decide +kernel
theorem dX2_count_19 : decode cX2_count 19 = .ok (.bipush 100, 2) := by decide +kernel
theorem dX2_count_21 : decode cX2_count 21 = .ok (.if_icmp .eq 19, 3) := by decide +kernel
theorem dX2_count_24 : decode cX2_count 24 = .ok (.iload_n 1, 1) := by decide +kernel
theorem dX2_count_25 : decode cX2_count 25 = .ok (.bipush 120, 2) := by decide +kernel
theorem dX2_count_27 : decode cX2_count 27 = .ok (.if_icmp .eq 13, 3) := by decide +kernel
theorem dX2_count_30 : decode cX2_count 30 = .ok (.new 31, 3) := by decide +kernel
theorem dX2_count_33 : decode cX2_count 33 = .ok (.dup, 1) := by decide +kernel
theorem dX2_count_34 : decode cX2_count 34 = .ok (.ldc 197, 2) := by decide +kernel
theorem dX2_count_36 : decode cX2_count 36 = .ok (.invokespecial 35, 3) := by decide +kernel
theorem dX2_count_39 : decode cX2_count 39 = .ok (.athrow, 1) := by decide +kernel
theorem dX2_count_40 : decode cX2_count 40 = .ok (.aload_n 0, 1) := by decide +kernel
theorem dX2_count_41 : decode cX2_count 41 = .ok (.getfield 19, 3) := by decide +kernel
theorem dX2_count_44 : decode cX2_count 44 = .ok (.iload_n 1, 1) := by decide +kernel
theorem dX2_count_45 : decode cX2_count 45 = .ok (.invokevirtual 181, 3) := by decide +kernel
theorem dX2_count_48 : decode cX2_count 48 = .ok (.ireturn, 1) := by decide +kernel
set_option maxRecDepth 20000 in
theorem ggX2_doneShare_X1_countIn : GoodIn wsX2_doneShare wsX1_countIn := goodIn_ca (goodIn_r _ [7, 8, 9, 13, 14, 15, 16, 17, 18, 19, 20, 21, 22, 23, 24, 25] (by decide +kernel) (by decide +kernel)) (goodIn_sub (fun _ h => List.mem_cons_of_mem _ (List.mem_append_right _ h)) (by decide +kernel))
set_option maxRecDepth 20000 in
theorem gX2_doneShare_X1_countIn_n181 : GoodIn wsX2_doneShare (wsX1_countIn) := ggX2_doneShare_X1_countIn
theorem dX2_doneShare_0 : decode cX2_doneShare 0 = .ok (.aload_n 0, 1) := by decide +kernel
theorem dX2_doneShare_1 : decode cX2_doneShare 1 = .ok (.getfield 19, 3) := by decide +kernel
theorem dX2_doneShare_4 : decode cX2_doneShare 4 = .ok (.getfield 199, 3) := by decide +kernel
theorem dX2_doneShare_7 : decode cX2_doneShare 7 = .ok (.ifCond .ne 13, 3) := by decide +kernel
theorem dX2_doneShare_10 : decode cX2_doneShare 10 = .ok (.new 202, 3) := by decide +kernel
theorem dX2_doneShare_13 : decode cX2_doneShare 13 = .ok (.dup, 1) := by decide +kernel
theorem dX2_doneShare_14 : decode cX2_doneShare 14 = .ok (.ldc 204, 2) := by decide +kernel
theorem dX2_doneShare_16 : decode cX2_doneShare 16 = .ok (.invokespecial 206, 3) := by decide +kernel
theorem dX2_doneShare_19 : decode cX2_doneShare 19 = .ok (.athrow, 1) := by decide +kernel
theorem dX2_doneShare_20 : decode cX2_doneShare 20 = .ok (.aload_n 0, 1) := by decide +kernel
theorem dX2_doneShare_21 : decode cX2_doneShare 21 = .ok (.getfield 19, 3) := by decide +kernel
theorem dX2_doneShare_24 : decode cX2_doneShare 24 = .ok (.bipush 100, 2) := by decide +kernel
theorem dX2_doneShare_26 : decode cX2_doneShare 26 = .ok (.invokevirtual 181, 3) := by decide +kernel
theorem dX2_doneShare_29 : decode cX2_doneShare 29 = .ok (.i2f, 1) := by decide +kernel
theorem dX2_doneShare_30 : decode cX2_doneShare 30 = .ok (.aload_n 0, 1) := by decide +kernel
theorem dX2_doneShare_31 : decode cX2_doneShare 31 = .ok (.getfield 19, 3) := by decide +kernel
theorem dX2_doneShare_34 : decode cX2_doneShare 34 = .ok (.getfield 199, 3) := by decide +kernel
theorem dX2_doneShare_37 : decode cX2_doneShare 37 = .ok (.i2f, 1) := by decide +kernel
theorem dX2_doneShare_38 : decode cX2_doneShare 38 = .ok (.fdiv, 1) := by decide +kernel
theorem dX2_doneShare_39 : decode cX2_doneShare 39 = .ok (.freturn, 1) := by decide +kernel
theorem dX2_isWithin_0 : decode cX2_isWithin 0 = .ok (.iload_n 0, 1) := by decide +kernel
theorem dX2_isWithin_1 : decode cX2_isWithin 1 = .ok (.iload_n 1, 1) := by decide +kernel
theorem dX2_isWithin_2 : decode cX2_isWithin 2 = .ok (.if_icmp .lt 12, 3) := by decide +kernel
theorem dX2_isWithin_5 : decode cX2_isWithin 5 = .ok (.iload_n 0, 1) := by decide +kernel
theorem dX2_isWithin_6 : decode cX2_isWithin 6 = .ok (.iload_n 2, 1) := by decide +kernel
theorem dX2_isWithin_7 : decode cX2_isWithin 7 = .ok (.if_icmp .gt 7, 3) := by decide +kernel
theorem dX2_isWithin_10 : decode cX2_isWithin 10 = .ok (.iconst 1, 1) := by decide +kernel
theorem dX2_isWithin_11 : decode cX2_isWithin 11 = .ok (.goto 4, 3) := by decide +kernel
theorem dX2_isWithin_14 : decode cX2_isWithin 14 = .ok (.iconst 0, 1) := by decide +kernel
theorem dX2_isWithin_15 : decode cX2_isWithin 15 = .ok (.ireturn, 1) := by decide +kernel
set_option maxRecDepth 20000 in
theorem ggX2_requireCase_X0_contains : GoodIn wsX2_requireCase wsX0_contains := goodIn_r _ [7, 8, 12, 13, 14, 15, 16, 17, 18] (by decide +kernel) (by decide +kernel)
set_option maxRecDepth 20000 in
theorem gX2_requireCase_X0_contains_n121 : GoodIn wsX2_requireCase (wsX0_contains) := ggX2_requireCase_X0_contains
theorem dX2_requireCase_0 : decode cX2_requireCase 0 = .ok (.aload_n 0, 1) := by decide +kernel
theorem dX2_requireCase_1 : decode cX2_requireCase 1 = .ok (.getfield 10, 3) := by decide +kernel
theorem dX2_requireCase_4 : decode cX2_requireCase 4 = .ok (.iload_n 1, 1) := by decide +kernel
theorem dX2_requireCase_5 : decode cX2_requireCase 5 = .ok (.invokevirtual 121, 3) := by decide +kernel
theorem dX2_requireCase_8 : decode cX2_requireCase 8 = .ok (.ifCond .ne 13, 3) := by decide +kernel
theorem dX2_requireCase_11 : decode cX2_requireCase 11 = .ok (.new 215, 3) := by decide +kernel
theorem dX2_requireCase_14 : decode cX2_requireCase 14 = .ok (.dup, 1) := by decide +kernel
theorem dX2_requireCase_15 : decode cX2_requireCase 15 = .ok (.ldc 217, 2) := by decide +kernel
theorem dX2_requireCase_17 : decode cX2_requireCase 17 = .ok (.invokespecial 219, 3) := by decide +kernel
theorem dX2_requireCase_20 : decode cX2_requireCase 20 = .ok (.athrow, 1) := by decide +kernel
theorem dX2_requireCase_21 : decode cX2_requireCase 21 = .ok (.return_, 1) := by decide +kernel
set_option maxRecDepth 20000 in
theorem ggX2_requireOpen_X0_isOpen : GoodIn wsX2_requireOpen wsX0_isOpen := goodIn_ca (goodIn_r _ [7, 8, 12, 13, 14, 15, 16, 17, 18] (by decide +kernel) (by decide +kernel)) (goodIn_sub (fun _ h => List.mem_cons_of_mem _ (List.mem_append_right _ h)) (by decide +kernel))
set_option maxRecDepth 20000 in
theorem gX2_requireOpen_X0_isOpen_n220 : GoodIn wsX2_requireOpen (wsX0_isOpen) := ggX2_requireOpen_X0_isOpen
theorem dX2_requireOpen_0 : decode cX2_requireOpen 0 = .ok (.aload_n 0, 1) := by decide +kernel
theorem dX2_requireOpen_1 : decode cX2_requireOpen 1 = .ok (.getfield 10, 3) := by decide +kernel
theorem dX2_requireOpen_4 : decode cX2_requireOpen 4 = .ok (.iload_n 1, 1) := by decide +kernel
theorem dX2_requireOpen_5 : decode cX2_requireOpen 5 = .ok (.invokevirtual 220, 3) := by decide +kernel
theorem dX2_requireOpen_8 : decode cX2_requireOpen 8 = .ok (.ifCond .ne 13, 3) := by decide +kernel
theorem dX2_requireOpen_11 : decode cX2_requireOpen 11 = .ok (.new 42, 3) := by decide +kernel
theorem dX2_requireOpen_14 : decode cX2_requireOpen 14 = .ok (.dup, 1) := by decide +kernel
theorem dX2_requireOpen_15 : decode cX2_requireOpen 15 = .ok (.ldc 223, 2) := by decide +kernel
theorem dX2_requireOpen_17 : decode cX2_requireOpen 17 = .ok (.invokespecial 46, 3) := by decide +kernel
theorem dX2_requireOpen_20 : decode cX2_requireOpen 20 = .ok (.athrow, 1) := by decide +kernel
theorem dX2_requireOpen_21 : decode cX2_requireOpen 21 = .ok (.return_, 1) := by decide +kernel
set_option maxRecDepth 20000 in
theorem ggX2_requireMessage_X1_contains : GoodIn wsX2_requireMessage wsX1_contains := goodIn_r _ [7, 8, 12, 13, 14, 15, 16, 17, 18, 19, 20, 21, 22, 23, 24] (by decide +kernel) (by decide +kernel)
set_option maxRecDepth 20000 in
theorem gX2_requireMessage_X1_contains_n225 : GoodIn wsX2_requireMessage (wsX1_contains) := ggX2_requireMessage_X1_contains
theorem dX2_requireMessage_0 : decode cX2_requireMessage 0 = .ok (.aload_n 0, 1) := by decide +kernel
theorem dX2_requireMessage_1 : decode cX2_requireMessage 1 = .ok (.getfield 19, 3) := by decide +kernel
theorem dX2_requireMessage_4 : decode cX2_requireMessage 4 = .ok (.iload_n 1, 1) := by decide +kernel
theorem dX2_requireMessage_5 : decode cX2_requireMessage 5 = .ok (.invokevirtual 225, 3) := by decide +kernel
theorem dX2_requireMessage_8 : decode cX2_requireMessage 8 = .ok (.ifCond .ne 13, 3) := by decide +kernel
theorem dX2_requireMessage_11 : decode cX2_requireMessage 11 = .ok (.new 215, 3) := by decide +kernel
theorem dX2_requireMessage_14 : decode cX2_requireMessage 14 = .ok (.dup, 1) := by decide +kernel
theorem dX2_requireMessage_15 : decode cX2_requireMessage 15 = .ok (.ldc 226, 2) := by decide +kernel
theorem dX2_requireMessage_17 : decode cX2_requireMessage 17 = .ok (.invokespecial 219, 3) := by decide +kernel
theorem dX2_requireMessage_20 : decode cX2_requireMessage 20 = .ok (.athrow, 1) := by decide +kernel
theorem dX2_requireMessage_21 : decode cX2_requireMessage 21 = .ok (.return_, 1) := by decide +kernel
theorem dX2_requireState_0 : decode cX2_requireState 0 = .ok (.aload_n 0, 1) := by decide +kernel
theorem dX2_requireState_1 : decode cX2_requireState 1 = .ok (.getfield 19, 3) := by decide +kernel
theorem dX2_requireState_4 : decode cX2_requireState 4 = .ok (.getfield 124, 3) := by decide +kernel
theorem dX2_requireState_7 : decode cX2_requireState 7 = .ok (.iload_n 1, 1) := by decide +kernel
theorem dX2_requireState_8 : decode cX2_requireState 8 = .ok (.caload, 1) := by decide +kernel
theorem dX2_requireState_9 : decode cX2_requireState 9 = .ok (.iload_n 2, 1) := by decide +kernel
theorem dX2_requireState_10 : decode cX2_requireState 10 = .ok (.if_icmp .eq 13, 3) := by decide +kernel
theorem dX2_requireState_13 : decode cX2_requireState 13 = .ok (.new 42, 3) := by decide +kernel
theorem dX2_requireState_16 : decode cX2_requireState 16 = .ok (.dup, 1) := by decide +kernel
theorem dX2_requireState_17 : decode cX2_requireState 17 = .ok (.ldc 228, 2) := by decide +kernel
theorem dX2_requireState_19 : decode cX2_requireState 19 = .ok (.invokespecial 46, 3) := by decide +kernel
theorem dX2_requireState_22 : decode cX2_requireState 22 = .ok (.athrow, 1) := by decide +kernel
theorem dX2_requireState_23 : decode cX2_requireState 23 = .ok (.return_, 1) := by decide +kernel
set_option maxRecDepth 20000 in
theorem ggX2_requireQueue_X2_isWithin : GoodIn wsX2_requireQueue wsX2_isWithin := goodIn_r _ [6] (by decide +kernel) (by decide +kernel)
set_option maxRecDepth 20000 in
theorem gX2_requireQueue_X2_isWithin : GoodIn wsX2_requireQueue (va_wsS RX2 27 yX2_isWithin wsX2_isWithin) := goodIn_app (goodIn_of _ (by decide +kernel)) ggX2_requireQueue_X2_isWithin
theorem dX2_requireQueue_0 : decode cX2_requireQueue 0 = .ok (.iload_n 0, 1) := by decide +kernel
theorem dX2_requireQueue_1 : decode cX2_requireQueue 1 = .ok (.iconst 0, 1) := by decide +kernel
theorem dX2_requireQueue_2 : decode cX2_requireQueue 2 = .ok (.iconst 2, 1) := by decide +kernel
theorem dX2_requireQueue_3 : decode cX2_requireQueue 3 = .ok (.invokestatic 27, 3) := by decide +kernel
theorem dX2_requireQueue_6 : decode cX2_requireQueue 6 = .ok (.ifCond .ne 13, 3) := by decide +kernel
theorem dX2_requireQueue_9 : decode cX2_requireQueue 9 = .ok (.new 31, 3) := by decide +kernel
theorem dX2_requireQueue_12 : decode cX2_requireQueue 12 = .ok (.dup, 1) := by decide +kernel
theorem dX2_requireQueue_13 : decode cX2_requireQueue 13 = .ok (.ldc 230, 2) := by decide +kernel
theorem dX2_requireQueue_15 : decode cX2_requireQueue 15 = .ok (.invokespecial 35, 3) := by decide +kernel
theorem dX2_requireQueue_18 : decode cX2_requireQueue 18 = .ok (.athrow, 1) := by decide +kernel
theorem dX2_requireQueue_19 : decode cX2_requireQueue 19 = .ok (.return_, 1) := by decide +kernel
set_option maxRecDepth 20000 in
theorem ggX2_requireClerk_X2_isWithin : GoodIn wsX2_requireClerk wsX2_isWithin := goodIn_r _ [6] (by decide +kernel) (by decide +kernel)
set_option maxRecDepth 20000 in
theorem gX2_requireClerk_X2_isWithin : GoodIn wsX2_requireClerk (va_wsS RX2 27 yX2_isWithin wsX2_isWithin) := goodIn_app (goodIn_of _ (by decide +kernel)) ggX2_requireClerk_X2_isWithin
theorem dX2_requireClerk_0 : decode cX2_requireClerk 0 = .ok (.iload_n 0, 1) := by decide +kernel
theorem dX2_requireClerk_1 : decode cX2_requireClerk 1 = .ok (.iconst 0, 1) := by decide +kernel
theorem dX2_requireClerk_2 : decode cX2_requireClerk 2 = .ok (.iconst 3, 1) := by decide +kernel
theorem dX2_requireClerk_3 : decode cX2_requireClerk 3 = .ok (.invokestatic 27, 3) := by decide +kernel
theorem dX2_requireClerk_6 : decode cX2_requireClerk 6 = .ok (.ifCond .ne 13, 3) := by decide +kernel
theorem dX2_requireClerk_9 : decode cX2_requireClerk 9 = .ok (.new 31, 3) := by decide +kernel
theorem dX2_requireClerk_12 : decode cX2_requireClerk 12 = .ok (.dup, 1) := by decide +kernel
theorem dX2_requireClerk_13 : decode cX2_requireClerk 13 = .ok (.ldc 232, 2) := by decide +kernel
theorem dX2_requireClerk_15 : decode cX2_requireClerk 15 = .ok (.invokespecial 35, 3) := by decide +kernel
theorem dX2_requireClerk_18 : decode cX2_requireClerk 18 = .ok (.athrow, 1) := by decide +kernel
theorem dX2_requireClerk_19 : decode cX2_requireClerk 19 = .ok (.return_, 1) := by decide +kernel
set_option maxRecDepth 20000 in
theorem ggX2_settle_X0_contains : GoodIn wsX2_settle wsX0_contains := goodIn_r _ [6, 7, 44, 45, 46, 47, 48, 49, 50] (by decide +kernel) (by decide +kernel)
set_option maxRecDepth 20000 in
theorem gX2_settle_X0_contains_n121 : GoodIn wsX2_settle (wsX0_contains) := ggX2_settle_X0_contains
set_option maxRecDepth 20000 in
theorem ggX2_settle_X0_pay : GoodIn wsX2_settle wsX0_pay := goodIn_ca (goodIn_r _ [10, 11, 12, 13, 14, 15, 44, 45, 46, 47, 48, 49, 50] (by decide +kernel) (by decide +kernel)) (goodIn_sub (fun _ h => List.mem_cons_of_mem _ (List.mem_append_right _ h)) (by decide +kernel))
set_option maxRecDepth 20000 in
theorem gX2_settle_X0_pay_n240 : GoodIn wsX2_settle (wsX0_pay) := ggX2_settle_X0_pay
set_option maxRecDepth 20000 in
theorem ggX2_settle_X0_endWait : GoodIn wsX2_settle wsX0_endWait := goodIn_ca (goodIn_r _ [18, 19, 44, 45, 46, 47, 48, 49, 50] (by decide +kernel) (by decide +kernel)) (goodIn_sub (fun _ h => List.mem_cons_of_mem _ (List.mem_append_right _ h)) (by decide +kernel))
set_option maxRecDepth 20000 in
theorem gX2_settle_X0_endWait_n244 : GoodIn wsX2_settle (wsX0_endWait) := ggX2_settle_X0_endWait
set_option maxRecDepth 20000 in
theorem ggX2_settle_X0_sendLetter : GoodIn wsX2_settle wsX0_sendLetter := goodIn_ca (goodIn_r _ [22, 23, 24, 25, 26, 4, 27, 11, 44, 45, 46, 47, 48, 49, 50] (by decide +kernel) (by decide +kernel)) (goodIn_sub (fun _ h => List.mem_cons_of_mem _ (List.mem_append_right _ h)) (by decide +kernel))
set_option maxRecDepth 20000 in
theorem gX2_settle_X0_sendLetter_n247 : GoodIn wsX2_settle (wsX0_sendLetter) := ggX2_settle_X0_sendLetter
theorem dX2_settle_0 : decode cX2_settle 0 = .ok (.aload_n 0, 1) := by decide +kernel
theorem dX2_settle_1 : decode cX2_settle 1 = .ok (.getfield 19, 3) := by decide +kernel
theorem dX2_settle_4 : decode cX2_settle 4 = .ok (.getfield 234, 3) := by decide +kernel
theorem dX2_settle_7 : decode cX2_settle 7 = .ok (.iload_n 1, 1) := by decide +kernel
theorem dX2_settle_8 : decode cX2_settle 8 = .ok (.iaload, 1) := by decide +kernel
theorem dX2_settle_9 : decode cX2_settle 9 = .ok (.istore_n 2, 1) := by decide +kernel
theorem dX2_settle_10 : decode cX2_settle 10 = .ok (.aload_n 0, 1) := by decide +kernel
theorem dX2_settle_11 : decode cX2_settle 11 = .ok (.getfield 10, 3) := by decide +kernel
theorem dX2_settle_14 : decode cX2_settle 14 = .ok (.iload_n 2, 1) := by decide +kernel
theorem dX2_settle_15 : decode cX2_settle 15 = .ok (.invokevirtual 121, 3) := by decide +kernel
theorem dX2_settle_18 : decode cX2_settle 18 = .ok (.ifCond .ne 5, 3) := by decide +kernel
theorem dX2_settle_21 : decode cX2_settle 21 = .ok (.iconst 0, 1) := by decide +kernel
theorem dX2_settle_22 : decode cX2_settle 22 = .ok (.ireturn, 1) := by decide +kernel
theorem dX2_settle_23 : decode cX2_settle 23 = .ok (.aload_n 0, 1) := by decide +kernel
theorem dX2_settle_24 : decode cX2_settle 24 = .ok (.getfield 19, 3) := by decide +kernel
theorem dX2_settle_27 : decode cX2_settle 27 = .ok (.getfield 237, 3) := by decide +kernel
theorem dX2_settle_30 : decode cX2_settle 30 = .ok (.iload_n 1, 1) := by decide +kernel
theorem dX2_settle_31 : decode cX2_settle 31 = .ok (.iaload, 1) := by decide +kernel
theorem dX2_settle_32 : decode cX2_settle 32 = .ok (.istore_n 3, 1) := by decide +kernel
theorem dX2_settle_33 : decode cX2_settle 33 = .ok (.aload_n 0, 1) := by decide +kernel
theorem dX2_settle_34 : decode cX2_settle 34 = .ok (.getfield 19, 3) := by decide +kernel
theorem dX2_settle_37 : decode cX2_settle 37 = .ok (.getfield 133, 3) := by decide +kernel
theorem dX2_settle_40 : decode cX2_settle 40 = .ok (.iload_n 1, 1) := by decide +kernel
theorem dX2_settle_41 : decode cX2_settle 41 = .ok (.caload, 1) := by decide +kernel
theorem dX2_settle_42 : decode cX2_settle 42 = .ok (.istore 4, 2) := by decide +kernel
theorem dX2_settle_44 : decode cX2_settle 44 = .ok (.iload 4, 2) := by decide +kernel
theorem dX2_settle_46 : decode cX2_settle 46 = .ok (.bipush 112, 2) := by decide +kernel
theorem dX2_settle_48 : decode cX2_settle 48 = .ok (.if_icmp .ne 13, 3) := by decide +kernel
theorem dX2_settle_51 : decode cX2_settle 51 = .ok (.aload_n 0, 1) := by decide +kernel
theorem dX2_settle_52 : decode cX2_settle 52 = .ok (.getfield 10, 3) := by decide +kernel
theorem dX2_settle_55 : decode cX2_settle 55 = .ok (.iload_n 2, 1) := by decide +kernel
theorem dX2_settle_56 : decode cX2_settle 56 = .ok (.iload_n 3, 1) := by decide +kernel
theorem dX2_settle_57 : decode cX2_settle 57 = .ok (.invokevirtual 240, 3) := by decide +kernel
theorem dX2_settle_60 : decode cX2_settle 60 = .ok (.ireturn, 1) := by decide +kernel
theorem dX2_settle_61 : decode cX2_settle 61 = .ok (.iload 4, 2) := by decide +kernel
theorem dX2_settle_63 : decode cX2_settle 63 = .ok (.bipush 110, 2) := by decide +kernel
theorem dX2_settle_65 : decode cX2_settle 65 = .ok (.if_icmp .ne 12, 3) := by decide +kernel
theorem dX2_settle_68 : decode cX2_settle 68 = .ok (.aload_n 0, 1) := by decide +kernel
theorem dX2_settle_69 : decode cX2_settle 69 = .ok (.getfield 10, 3) := by decide +kernel
theorem dX2_settle_72 : decode cX2_settle 72 = .ok (.iload_n 2, 1) := by decide +kernel
theorem dX2_settle_73 : decode cX2_settle 73 = .ok (.invokevirtual 244, 3) := by decide +kernel
theorem dX2_settle_76 : decode cX2_settle 76 = .ok (.ireturn, 1) := by decide +kernel
theorem dX2_settle_77 : decode cX2_settle 77 = .ok (.aload_n 0, 1) := by decide +kernel
theorem dX2_settle_78 : decode cX2_settle 78 = .ok (.getfield 10, 3) := by decide +kernel
theorem dX2_settle_81 : decode cX2_settle 81 = .ok (.iload_n 2, 1) := by decide +kernel
theorem dX2_settle_82 : decode cX2_settle 82 = .ok (.iload_n 3, 1) := by decide +kernel
theorem dX2_settle_83 : decode cX2_settle 83 = .ok (.invokevirtual 247, 3) := by decide +kernel
theorem dX2_settle_86 : decode cX2_settle 86 = .ok (.ireturn, 1) := by decide +kernel
theorem dX2_reminderKey_0 : decode cX2_reminderKey 0 = .ok (.sipush 1000, 3) := by decide +kernel
theorem dX2_reminderKey_3 : decode cX2_reminderKey 3 = .ok (.bipush 10, 2) := by decide +kernel
theorem dX2_reminderKey_5 : decode cX2_reminderKey 5 = .ok (.iload_n 0, 1) := by decide +kernel
theorem dX2_reminderKey_6 : decode cX2_reminderKey 6 = .ok (.imul, 1) := by decide +kernel
theorem dX2_reminderKey_7 : decode cX2_reminderKey 7 = .ok (.iadd, 1) := by decide +kernel
theorem dX2_reminderKey_8 : decode cX2_reminderKey 8 = .ok (.iload_n 1, 1) := by decide +kernel
theorem dX2_reminderKey_9 : decode cX2_reminderKey 9 = .ok (.iadd, 1) := by decide +kernel
theorem dX2_reminderKey_10 : decode cX2_reminderKey 10 = .ok (.ireturn, 1) := by decide +kernel
set_option maxRecDepth 20000 in
theorem ggX2_isAnyReminderLeft_X0_isOpen : GoodIn wsX2_isAnyReminderLeft wsX0_isOpen := goodIn_ca (goodIn_r _ [6, 7, 21, 22, 23, 24, 25, 26, 27] (by decide +kernel) (by decide +kernel)) (goodIn_sub (fun _ h => List.mem_cons_of_mem _ (List.mem_append_right _ h)) (by decide +kernel))
set_option maxRecDepth 20000 in
theorem gX2_isAnyReminderLeft_X0_isOpen_n220 : GoodIn wsX2_isAnyReminderLeft (wsX0_isOpen) := ggX2_isAnyReminderLeft_X0_isOpen
set_option maxRecDepth 20000 in
theorem ggX2_isAnyReminderLeft_X2_reminderKey : GoodIn wsX2_isAnyReminderLeft wsX2_reminderKey := goodIn_r _ [11] (by decide +kernel) (by decide +kernel)
set_option maxRecDepth 20000 in
theorem gX2_isAnyReminderLeft_X2_reminderKey : GoodIn wsX2_isAnyReminderLeft (va_wsS RX2 250 yX2_reminderKey wsX2_reminderKey) := goodIn_app (goodIn_of _ (by decide +kernel)) ggX2_isAnyReminderLeft_X2_reminderKey
set_option maxRecDepth 20000 in
theorem ggX2_isAnyReminderLeft_X1_find : GoodIn wsX2_isAnyReminderLeft wsX1_find := goodIn_ca (goodIn_r _ [15, 16, 17, 28, 29, 30, 31, 32, 33, 34, 35, 36, 37, 38, 39, 40] (by decide +kernel) (by decide +kernel)) (goodIn_sub (fun _ h => List.mem_cons_of_mem _ (List.mem_append_right _ h)) (by decide +kernel))
set_option maxRecDepth 20000 in
theorem gX2_isAnyReminderLeft_X1_find_n112 : GoodIn wsX2_isAnyReminderLeft (wsX1_find) := ggX2_isAnyReminderLeft_X1_find
theorem dX2_isAnyReminderLeft_0 : decode cX2_isAnyReminderLeft 0 = .ok (.aload_n 0, 1) := by decide +kernel
theorem dX2_isAnyReminderLeft_1 : decode cX2_isAnyReminderLeft 1 = .ok (.getfield 10, 3) := by decide +kernel
theorem dX2_isAnyReminderLeft_4 : decode cX2_isAnyReminderLeft 4 = .ok (.getfield 75, 3) := by decide +kernel
theorem dX2_isAnyReminderLeft_7 : decode cX2_isAnyReminderLeft 7 = .ok (.iload_n 1, 1) := by decide +kernel
theorem dX2_isAnyReminderLeft_8 : decode cX2_isAnyReminderLeft 8 = .ok (.iaload, 1) := by decide +kernel
theorem dX2_isAnyReminderLeft_9 : decode cX2_isAnyReminderLeft 9 = .ok (.istore_n 2, 1) := by decide +kernel
theorem dX2_isAnyReminderLeft_10 : decode cX2_isAnyReminderLeft 10 = .ok (.aload_n 0, 1) := by decide +kernel
theorem dX2_isAnyReminderLeft_11 : decode cX2_isAnyReminderLeft 11 = .ok (.getfield 10, 3) := by decide +kernel
theorem dX2_isAnyReminderLeft_14 : decode cX2_isAnyReminderLeft 14 = .ok (.iload_n 1, 1) := by decide +kernel
theorem dX2_isAnyReminderLeft_15 : decode cX2_isAnyReminderLeft 15 = .ok (.invokevirtual 220, 3) := by decide +kernel
theorem dX2_isAnyReminderLeft_18 : decode cX2_isAnyReminderLeft 18 = .ok (.ifCond .eq 40, 3) := by decide +kernel
theorem dX2_isAnyReminderLeft_21 : decode cX2_isAnyReminderLeft 21 = .ok (.aload_n 0, 1) := by decide +kernel
theorem dX2_isAnyReminderLeft_22 : decode cX2_isAnyReminderLeft 22 = .ok (.getfield 10, 3) := by decide +kernel
theorem dX2_isAnyReminderLeft_25 : decode cX2_isAnyReminderLeft 25 = .ok (.getfield 71, 3) := by decide +kernel
theorem dX2_isAnyReminderLeft_28 : decode cX2_isAnyReminderLeft 28 = .ok (.iload_n 1, 1) := by decide +kernel
theorem dX2_isAnyReminderLeft_29 : decode cX2_isAnyReminderLeft 29 = .ok (.baload, 1) := by decide +kernel
theorem dX2_isAnyReminderLeft_30 : decode cX2_isAnyReminderLeft 30 = .ok (.ifCond .ne 28, 3) := by decide +kernel
theorem dX2_isAnyReminderLeft_33 : decode cX2_isAnyReminderLeft 33 = .ok (.iload_n 2, 1) := by decide +kernel
theorem dX2_isAnyReminderLeft_34 : decode cX2_isAnyReminderLeft 34 = .ok (.iconst 3, 1) := by decide +kernel
theorem dX2_isAnyReminderLeft_35 : decode cX2_isAnyReminderLeft 35 = .ok (.if_icmp .ge 23, 3) := by decide +kernel
theorem dX2_isAnyReminderLeft_38 : decode cX2_isAnyReminderLeft 38 = .ok (.aload_n 0, 1) := by decide +kernel
theorem dX2_isAnyReminderLeft_39 : decode cX2_isAnyReminderLeft 39 = .ok (.getfield 19, 3) := by decide +kernel
theorem dX2_isAnyReminderLeft_42 : decode cX2_isAnyReminderLeft 42 = .ok (.iload_n 1, 1) := by decide +kernel
theorem dX2_isAnyReminderLeft_43 : decode cX2_isAnyReminderLeft 43 = .ok (.iload_n 2, 1) := by decide +kernel
theorem dX2_isAnyReminderLeft_44 : decode cX2_isAnyReminderLeft 44 = .ok (.invokestatic 250, 3) := by decide +kernel
theorem dX2_isAnyReminderLeft_47 : decode cX2_isAnyReminderLeft 47 = .ok (.invokevirtual 112, 3) := by decide +kernel
theorem dX2_isAnyReminderLeft_50 : decode cX2_isAnyReminderLeft 50 = .ok (.iconst (-1), 1) := by decide +kernel
theorem dX2_isAnyReminderLeft_51 : decode cX2_isAnyReminderLeft 51 = .ok (.if_icmp .ne 7, 3) := by decide +kernel
theorem dX2_isAnyReminderLeft_54 : decode cX2_isAnyReminderLeft 54 = .ok (.iconst 1, 1) := by decide +kernel
theorem dX2_isAnyReminderLeft_55 : decode cX2_isAnyReminderLeft 55 = .ok (.goto 4, 3) := by decide +kernel
theorem dX2_isAnyReminderLeft_58 : decode cX2_isAnyReminderLeft 58 = .ok (.iconst 0, 1) := by decide +kernel
theorem dX2_isAnyReminderLeft_59 : decode cX2_isAnyReminderLeft 59 = .ok (.ireturn, 1) := by decide +kernel
set_option maxRecDepth 20000 in
theorem ggX2_isReminderDue_X2_isAnyReminderLeft : GoodIn wsX2_isReminderDue wsX2_isAnyReminderLeft := goodIn_ca (goodIn_r _ [7, 2, 8, 9, 10, 11, 12, 13, 14, 15, 6, 16, 17, 18, 19, 20, 21, 22, 28, 29, 30, 31, 32, 33, 34, 35, 36, 37, 38, 39, 40, 41, 42, 43, 44, 45, 46, 47, 48, 49, 50] (by decide +kernel) (by decide +kernel)) (goodIn_sub (fun _ h => List.mem_cons_of_mem _ (List.mem_append_right _ h)) (by decide +kernel))
set_option maxRecDepth 20000 in
theorem gX2_isReminderDue_X2_isAnyReminderLeft : GoodIn wsX2_isReminderDue (wsV RX2 84 RX2 yX2_isAnyReminderLeft wsX2_isAnyReminderLeft) := goodIn_app (goodIn_of _ (by decide +kernel)) ggX2_isReminderDue_X2_isAnyReminderLeft
set_option maxRecDepth 20000 in
theorem ggX2_isReminderDue_X0_reminderDay : GoodIn wsX2_isReminderDue wsX0_reminderDay := goodIn_ca (goodIn_r _ [25, 26, 27, 31, 32, 33, 34, 35, 36, 37] (by decide +kernel) (by decide +kernel)) (goodIn_sub (fun _ h => List.mem_cons_of_mem _ (List.mem_append_right _ h)) (by decide +kernel))
set_option maxRecDepth 20000 in
theorem gX2_isReminderDue_X0_reminderDay_n93 : GoodIn wsX2_isReminderDue (wsX0_reminderDay) := ggX2_isReminderDue_X0_reminderDay
theorem dX2_isReminderDue_0 : decode cX2_isReminderDue 0 = .ok (.aload_n 0, 1) := by decide +kernel
theorem dX2_isReminderDue_1 : decode cX2_isReminderDue 1 = .ok (.iload_n 1, 1) := by decide +kernel
theorem dX2_isReminderDue_2 : decode cX2_isReminderDue 2 = .ok (.invokevirtual 84, 3) := by decide +kernel
theorem dX2_isReminderDue_5 : decode cX2_isReminderDue 5 = .ok (.ifCond .eq 38, 3) := by decide +kernel
theorem dX2_isReminderDue_8 : decode cX2_isReminderDue 8 = .ok (.aload_n 0, 1) := by decide +kernel
theorem dX2_isReminderDue_9 : decode cX2_isReminderDue 9 = .ok (.getfield 23, 3) := by decide +kernel
theorem dX2_isReminderDue_12 : decode cX2_isReminderDue 12 = .ok (.aload_n 0, 1) := by decide +kernel
theorem dX2_isReminderDue_13 : decode cX2_isReminderDue 13 = .ok (.getfield 10, 3) := by decide +kernel
theorem dX2_isReminderDue_16 : decode cX2_isReminderDue 16 = .ok (.getfield 102, 3) := by decide +kernel
theorem dX2_isReminderDue_19 : decode cX2_isReminderDue 19 = .ok (.iload_n 1, 1) := by decide +kernel
theorem dX2_isReminderDue_20 : decode cX2_isReminderDue 20 = .ok (.iaload, 1) := by decide +kernel
theorem dX2_isReminderDue_21 : decode cX2_isReminderDue 21 = .ok (.if_icmp .lt 22, 3) := by decide +kernel
theorem dX2_isReminderDue_24 : decode cX2_isReminderDue 24 = .ok (.aload_n 0, 1) := by decide +kernel
theorem dX2_isReminderDue_25 : decode cX2_isReminderDue 25 = .ok (.getfield 23, 3) := by decide +kernel
theorem dX2_isReminderDue_28 : decode cX2_isReminderDue 28 = .ok (.aload_n 0, 1) := by decide +kernel
theorem dX2_isReminderDue_29 : decode cX2_isReminderDue 29 = .ok (.getfield 10, 3) := by decide +kernel
theorem dX2_isReminderDue_32 : decode cX2_isReminderDue 32 = .ok (.iload_n 1, 1) := by decide +kernel
theorem dX2_isReminderDue_33 : decode cX2_isReminderDue 33 = .ok (.invokevirtual 93, 3) := by decide +kernel
theorem dX2_isReminderDue_36 : decode cX2_isReminderDue 36 = .ok (.if_icmp .lt 7, 3) := by decide +kernel
theorem dX2_isReminderDue_39 : decode cX2_isReminderDue 39 = .ok (.iconst 1, 1) := by decide +kernel
theorem dX2_isReminderDue_40 : decode cX2_isReminderDue 40 = .ok (.goto 4, 3) := by decide +kernel
theorem dX2_isReminderDue_43 : decode cX2_isReminderDue 43 = .ok (.iconst 0, 1) := by decide +kernel
theorem dX2_isReminderDue_44 : decode cX2_isReminderDue 44 = .ok (.ireturn, 1) := by decide +kernel
set_option maxRecDepth 20000 in
theorem ggX2_postReminders_X1_isFull : GoodIn wsX2_postReminders wsX1_isFull := goodIn_r _ [7, 8, 54, 55, 56, 57, 58, 59, 60, 61, 62, 63, 64, 65, 66] (by decide +kernel) (by decide +kernel)
set_option maxRecDepth 20000 in
theorem gX2_postReminders_X1_isFull_n115 : GoodIn wsX2_postReminders (wsX1_isFull) := ggX2_postReminders_X1_isFull
set_option maxRecDepth 20000 in
theorem ggX2_postReminders_X2_isReminderDue : GoodIn wsX2_postReminders wsX2_isReminderDue := goodIn_ca (goodIn_r _ [13, 3, 1, 14, 15, 16, 12, 17, 2, 18, 19, 20, 21, 22, 23, 24, 25, 26, 5, 27, 28, 8, 29, 30, 31, 32, 33, 34, 44, 45, 46, 47, 48, 49, 50, 51, 52, 53, 54, 55, 56, 57, 58, 59, 60, 61, 62, 63, 64, 65, 66] (by decide +kernel) (by decide +kernel)) (goodIn_sub (fun _ h => List.mem_cons_of_mem _ (List.mem_append_right _ h)) (by decide +kernel))
set_option maxRecDepth 20000 in
theorem gX2_postReminders_X2_isReminderDue : GoodIn wsX2_postReminders (wsV RX2 254 RX2 yX2_isReminderDue wsX2_isReminderDue) := goodIn_app (goodIn_of _ (by decide +kernel)) ggX2_postReminders_X2_isReminderDue
set_option maxRecDepth 20000 in
theorem ggX2_postReminders_X2_reminderKey : GoodIn wsX2_postReminders wsX2_reminderKey := goodIn_r _ [25] (by decide +kernel) (by decide +kernel)
set_option maxRecDepth 20000 in
theorem gX2_postReminders_X2_reminderKey : GoodIn wsX2_postReminders (va_wsS RX2 250 yX2_reminderKey wsX2_reminderKey) := goodIn_app (goodIn_of _ (by decide +kernel)) ggX2_postReminders_X2_reminderKey
set_option maxRecDepth 20000 in
theorem ggX2_postReminders_X1_add : GoodIn wsX2_postReminders wsX1_add := goodIn_ca (goodIn_r _ [37, 8, 38, 29, 39, 40, 41, 42, 43, 54, 55, 56, 57, 58, 59, 60, 61, 62, 63, 64, 65, 66] (by decide +kernel) (by decide +kernel)) (goodIn_sub (fun _ h => List.mem_cons_of_mem _ (List.mem_append_right _ h)) (by decide +kernel))
set_option maxRecDepth 20000 in
theorem gX2_postReminders_X1_add_n118 : GoodIn wsX2_postReminders (wsX1_add) := ggX2_postReminders_X1_add
theorem dX2_postReminders_0 : decode cX2_postReminders 0 = .ok (.iconst 0, 1) := by decide +kernel
theorem dX2_postReminders_1 : decode cX2_postReminders 1 = .ok (.istore_n 1, 1) := by decide +kernel
theorem dX2_postReminders_2 : decode cX2_postReminders 2 = .ok (.iconst 0, 1) := by decide +kernel
theorem dX2_postReminders_3 : decode cX2_postReminders 3 = .ok (.istore_n 2, 1) := by decide +kernel
theorem dX2_postReminders_4 : decode cX2_postReminders 4 = .ok (.iload_n 2, 1) := by decide +kernel
theorem dX2_postReminders_5 : decode cX2_postReminders 5 = .ok (.aload_n 0, 1) := by decide +kernel
theorem dX2_postReminders_6 : decode cX2_postReminders 6 = .ok (.getfield 10, 3) := by decide +kernel
theorem dX2_postReminders_9 : decode cX2_postReminders 9 = .ok (.getfield 253, 3) := by decide +kernel
theorem dX2_postReminders_12 : decode cX2_postReminders 12 = .ok (.if_icmp .ge 62, 3) := by decide +kernel
theorem dX2_postReminders_15 : decode cX2_postReminders 15 = .ok (.aload_n 0, 1) := by decide +kernel
theorem dX2_postReminders_16 : decode cX2_postReminders 16 = .ok (.getfield 19, 3) := by decide +kernel
theorem dX2_postReminders_19 : decode cX2_postReminders 19 = .ok (.invokevirtual 115, 3) := by decide +kernel
theorem dX2_postReminders_22 : decode cX2_postReminders 22 = .ok (.ifCond .ne 46, 3) := by decide +kernel
theorem dX2_postReminders_25 : decode cX2_postReminders 25 = .ok (.aload_n 0, 1) := by decide +kernel
theorem dX2_postReminders_26 : decode cX2_postReminders 26 = .ok (.iload_n 2, 1) := by decide +kernel
theorem dX2_postReminders_27 : decode cX2_postReminders 27 = .ok (.invokevirtual 254, 3) := by decide +kernel
theorem dX2_postReminders_30 : decode cX2_postReminders 30 = .ok (.ifCond .eq 38, 3) := by decide +kernel
theorem dX2_postReminders_33 : decode cX2_postReminders 33 = .ok (.aload_n 0, 1) := by decide +kernel
theorem dX2_postReminders_34 : decode cX2_postReminders 34 = .ok (.getfield 10, 3) := by decide +kernel
theorem dX2_postReminders_37 : decode cX2_postReminders 37 = .ok (.getfield 75, 3) := by decide +kernel
theorem dX2_postReminders_40 : decode cX2_postReminders 40 = .ok (.iload_n 2, 1) := by decide +kernel
theorem dX2_postReminders_41 : decode cX2_postReminders 41 = .ok (.iaload, 1) := by decide +kernel
theorem dX2_postReminders_42 : decode cX2_postReminders 42 = .ok (.istore_n 3, 1) := by decide +kernel
theorem dX2_postReminders_43 : decode cX2_postReminders 43 = .ok (.aload_n 0, 1) := by decide +kernel
theorem dX2_postReminders_44 : decode cX2_postReminders 44 = .ok (.getfield 19, 3) := by decide +kernel
theorem dX2_postReminders_47 : decode cX2_postReminders 47 = .ok (.iconst 0, 1) := by decide +kernel
theorem dX2_postReminders_48 : decode cX2_postReminders 48 = .ok (.iload_n 2, 1) := by decide +kernel
theorem dX2_postReminders_49 : decode cX2_postReminders 49 = .ok (.iload_n 3, 1) := by decide +kernel
theorem dX2_postReminders_50 : decode cX2_postReminders 50 = .ok (.invokestatic 250, 3) := by decide +kernel
theorem dX2_postReminders_53 : decode cX2_postReminders 53 = .ok (.bipush 114, 2) := by decide +kernel
theorem dX2_postReminders_55 : decode cX2_postReminders 55 = .ok (.iload_n 2, 1) := by decide +kernel
theorem dX2_postReminders_56 : decode cX2_postReminders 56 = .ok (.iload_n 3, 1) := by decide +kernel
theorem dX2_postReminders_57 : decode cX2_postReminders 57 = .ok (.aload_n 0, 1) := by decide +kernel
theorem dX2_postReminders_58 : decode cX2_postReminders 58 = .ok (.getfield 23, 3) := by decide +kernel
theorem dX2_postReminders_61 : decode cX2_postReminders 61 = .ok (.invokevirtual 118, 3) := by decide +kernel
theorem dX2_postReminders_64 : decode cX2_postReminders 64 = .ok (.pop, 1) := by decide +kernel
theorem dX2_postReminders_65 : decode cX2_postReminders 65 = .ok (.iinc 1 1, 3) := by decide +kernel
theorem dX2_postReminders_68 : decode cX2_postReminders 68 = .ok (.iinc 2 1, 3) := by decide +kernel
theorem dX2_postReminders_71 : decode cX2_postReminders 71 = .ok (.goto (-67), 3) := by decide +kernel
theorem dX2_postReminders_74 : decode cX2_postReminders 74 = .ok (.iload_n 1, 1) := by decide +kernel
theorem dX2_postReminders_75 : decode cX2_postReminders 75 = .ok (.ireturn, 1) := by decide +kernel
