theorem dX0_init_0 : decode cX0_init 0 = .ok (.aload_n 0, 1) := by decide +kernel
theorem dX0_init_1 : decode cX0_init 1 = .ok (.invokespecial 3, 3) := by decide +kernel
theorem dX0_init_4 : decode cX0_init 4 = .ok (.aload_n 0, 1) := by decide +kernel
theorem dX0_init_5 : decode cX0_init 5 = .ok (.bipush 8, 2) := by decide +kernel
theorem dX0_init_7 : decode cX0_init 7 = .ok (.newarray .int, 2) := by decide +kernel
theorem dX0_init_9 : decode cX0_init 9 = .ok (.putfield 9, 3) := by decide +kernel
theorem dX0_init_12 : decode cX0_init 12 = .ok (.aload_n 0, 1) := by decide +kernel
theorem dX0_init_13 : decode cX0_init 13 = .ok (.bipush 8, 2) := by decide +kernel
theorem dX0_init_15 : decode cX0_init 15 = .ok (.newarray .int, 2) := by decide +kernel
theorem dX0_init_17 : decode cX0_init 17 = .ok (.putfield 15, 3) := by decide +kernel
theorem dX0_init_20 : decode cX0_init 20 = .ok (.aload_n 0, 1) := by decide +kernel
theorem dX0_init_21 : decode cX0_init 21 = .ok (.bipush 8, 2) := by decide +kernel
theorem dX0_init_23 : decode cX0_init 23 = .ok (.newarray .int, 2) := by decide +kernel
theorem dX0_init_25 : decode cX0_init 25 = .ok (.putfield 18, 3) := by decide +kernel
theorem dX0_init_28 : decode cX0_init 28 = .ok (.aload_n 0, 1) := by decide +kernel
theorem dX0_init_29 : decode cX0_init 29 = .ok (.bipush 8, 2) := by decide +kernel
theorem dX0_init_31 : decode cX0_init 31 = .ok (.newarray .int, 2) := by decide +kernel
theorem dX0_init_33 : decode cX0_init 33 = .ok (.putfield 21, 3) := by decide +kernel
theorem dX0_init_36 : decode cX0_init 36 = .ok (.aload_n 0, 1) := by decide +kernel
theorem dX0_init_37 : decode cX0_init 37 = .ok (.bipush 8, 2) := by decide +kernel
theorem dX0_init_39 : decode cX0_init 39 = .ok (.newarray .int, 2) := by decide +kernel
theorem dX0_init_41 : decode cX0_init 41 = .ok (.putfield 24, 3) := by decide +kernel
theorem dX0_init_44 : decode cX0_init 44 = .ok (.aload_n 0, 1) := by decide +kernel
theorem dX0_init_45 : decode cX0_init 45 = .ok (.bipush 8, 2) := by decide +kernel
theorem dX0_init_47 : decode cX0_init 47 = .ok (.newarray .boolean, 2) := by decide +kernel
theorem dX0_init_49 : decode cX0_init 49 = .ok (.putfield 27, 3) := by decide +kernel
theorem dX0_init_52 : decode cX0_init 52 = .ok (.return_, 1) := by decide +kernel
theorem dX0_contains_0 : decode cX0_contains 0 = .ok (.iload_n 1, 1) := by decide +kernel
theorem dX0_contains_1 : decode cX0_contains 1 = .ok (.ifCond .lt 15, 3) := by decide +kernel
theorem dX0_contains_4 : decode cX0_contains 4 = .ok (.iload_n 1, 1) := by decide +kernel
theorem dX0_contains_5 : decode cX0_contains 5 = .ok (.aload_n 0, 1) := by decide +kernel
theorem dX0_contains_6 : decode cX0_contains 6 = .ok (.getfield 31, 3) := by decide +kernel
theorem dX0_contains_9 : decode cX0_contains 9 = .ok (.if_icmp .ge 7, 3) := by decide +kernel
theorem dX0_contains_12 : decode cX0_contains 12 = .ok (.iconst 1, 1) := by decide +kernel
theorem dX0_contains_13 : decode cX0_contains 13 = .ok (.goto 4, 3) := by decide +kernel
theorem dX0_contains_16 : decode cX0_contains 16 = .ok (.iconst 0, 1) := by decide +kernel
theorem dX0_contains_17 : decode cX0_contains 17 = .ok (.ireturn, 1) := by decide +kernel
theorem dX0_isFull_0 : decode cX0_isFull 0 = .ok (.aload_n 0, 1) := by decide +kernel
theorem dX0_isFull_1 : decode cX0_isFull 1 = .ok (.getfield 31, 3) := by decide +kernel
theorem dX0_isFull_4 : decode cX0_isFull 4 = .ok (.bipush 8, 2) := by decide +kernel
theorem dX0_isFull_6 : decode cX0_isFull 6 = .ok (.if_icmp .lt 7, 3) := by decide +kernel
theorem dX0_isFull_9 : decode cX0_isFull 9 = .ok (.iconst 1, 1) := by decide +kernel
theorem dX0_isFull_10 : decode cX0_isFull 10 = .ok (.goto 4, 3) := by decide +kernel
theorem dX0_isFull_13 : decode cX0_isFull 13 = .ok (.iconst 0, 1) := by decide +kernel
theorem dX0_isFull_14 : decode cX0_isFull 14 = .ok (.ireturn, 1) := by decide +kernel
theorem dX0_add_0 : decode cX0_add 0 = .ok (.aload_n 0, 1) := by decide +kernel
theorem dX0_add_1 : decode cX0_add 1 = .ok (.getfield 31, 3) := by decide +kernel
theorem dX0_add_4 : decode cX0_add 4 = .ok (.istore_n 3, 1) := by decide +kernel
theorem dX0_add_5 : decode cX0_add 5 = .ok (.aload_n 0, 1) := by decide +kernel
theorem dX0_add_6 : decode cX0_add 6 = .ok (.getfield 9, 3) := by decide +kernel
theorem dX0_add_9 : decode cX0_add 9 = .ok (.iload_n 3, 1) := by decide +kernel
theorem dX0_add_10 : decode cX0_add 10 = .ok (.iload_n 1, 1) := by decide +kernel
theorem dX0_add_11 : decode cX0_add 11 = .ok (.iastore, 1) := by decide +kernel
theorem dX0_add_12 : decode cX0_add 12 = .ok (.aload_n 0, 1) := by decide +kernel
theorem dX0_add_13 : decode cX0_add 13 = .ok (.getfield 15, 3) := by decide +kernel
theorem dX0_add_16 : decode cX0_add 16 = .ok (.iload_n 3, 1) := by decide +kernel
theorem dX0_add_17 : decode cX0_add 17 = .ok (.iload_n 1, 1) := by decide +kernel
theorem dX0_add_18 : decode cX0_add 18 = .ok (.iastore, 1) := by decide +kernel
theorem dX0_add_19 : decode cX0_add 19 = .ok (.aload_n 0, 1) := by decide +kernel
theorem dX0_add_20 : decode cX0_add 20 = .ok (.getfield 18, 3) := by decide +kernel
theorem dX0_add_23 : decode cX0_add 23 = .ok (.iload_n 3, 1) := by decide +kernel
theorem dX0_add_24 : decode cX0_add 24 = .ok (.iload_n 2, 1) := by decide +kernel
theorem dX0_add_25 : decode cX0_add 25 = .ok (.iastore, 1) := by decide +kernel
theorem dX0_add_26 : decode cX0_add 26 = .ok (.aload_n 0, 1) := by decide +kernel
theorem dX0_add_27 : decode cX0_add 27 = .ok (.dup, 1) := by decide +kernel
theorem dX0_add_28 : decode cX0_add 28 = .ok (.getfield 31, 3) := by decide +kernel
theorem dX0_add_31 : decode cX0_add 31 = .ok (.iconst 1, 1) := by decide +kernel
theorem dX0_add_32 : decode cX0_add 32 = .ok (.iadd, 1) := by decide +kernel
theorem dX0_add_33 : decode cX0_add 33 = .ok (.putfield 31, 3) := by decide +kernel
theorem dX0_add_36 : decode cX0_add 36 = .ok (.iload_n 3, 1) := by decide +kernel
theorem dX0_add_37 : decode cX0_add 37 = .ok (.ireturn, 1) := by decide +kernel
theorem dX0_isOpen_0 : decode cX0_isOpen 0 = .ok (.aload_n 0, 1) := by decide +kernel
theorem dX0_isOpen_1 : decode cX0_isOpen 1 = .ok (.getfield 15, 3) := by decide +kernel
theorem dX0_isOpen_4 : decode cX0_isOpen 4 = .ok (.iload_n 1, 1) := by decide +kernel
theorem dX0_isOpen_5 : decode cX0_isOpen 5 = .ok (.iaload, 1) := by decide +kernel
theorem dX0_isOpen_6 : decode cX0_isOpen 6 = .ok (.ifCond .le 7, 3) := by decide +kernel
theorem dX0_isOpen_9 : decode cX0_isOpen 9 = .ok (.iconst 1, 1) := by decide +kernel
theorem dX0_isOpen_10 : decode cX0_isOpen 10 = .ok (.goto 4, 3) := by decide +kernel
theorem dX0_isOpen_13 : decode cX0_isOpen 13 = .ok (.iconst 0, 1) := by decide +kernel
theorem dX0_isOpen_14 : decode cX0_isOpen 14 = .ok (.ireturn, 1) := by decide +kernel
theorem dX0_pauseUntil_0 : decode cX0_pauseUntil 0 = .ok (.aload_n 0, 1) := by decide +kernel
theorem dX0_pauseUntil_1 : decode cX0_pauseUntil 1 = .ok (.getfield 24, 3) := by decide +kernel
theorem dX0_pauseUntil_4 : decode cX0_pauseUntil 4 = .ok (.iload_n 1, 1) := by decide +kernel
theorem dX0_pauseUntil_5 : decode cX0_pauseUntil 5 = .ok (.aload_n 0, 1) := by decide +kernel
theorem dX0_pauseUntil_6 : decode cX0_pauseUntil 6 = .ok (.getfield 24, 3) := by decide +kernel
theorem dX0_pauseUntil_9 : decode cX0_pauseUntil 9 = .ok (.iload_n 1, 1) := by decide +kernel
theorem dX0_pauseUntil_10 : decode cX0_pauseUntil 10 = .ok (.iaload, 1) := by decide +kernel
theorem dX0_pauseUntil_11 : decode cX0_pauseUntil 11 = .ok (.iload_n 2, 1) := by decide +kernel
theorem dX0_pauseUntil_12 : decode cX0_pauseUntil 12 = .ok (.invokestatic 35, 3) := by decide +kernel
theorem dX0_pauseUntil_15 : decode cX0_pauseUntil 15 = .ok (.iastore, 1) := by decide +kernel
theorem dX0_pauseUntil_16 : decode cX0_pauseUntil 16 = .ok (.aload_n 0, 1) := by decide +kernel
theorem dX0_pauseUntil_17 : decode cX0_pauseUntil 17 = .ok (.getfield 24, 3) := by decide +kernel
theorem dX0_pauseUntil_20 : decode cX0_pauseUntil 20 = .ok (.iload_n 1, 1) := by decide +kernel
theorem dX0_pauseUntil_21 : decode cX0_pauseUntil 21 = .ok (.iaload, 1) := by decide +kernel
theorem dX0_pauseUntil_22 : decode cX0_pauseUntil 22 = .ok (.ireturn, 1) := by decide +kernel
theorem dX0_reminderDay_0 : decode cX0_reminderDay 0 = .ok (.aload_n 0, 1) := by decide +kernel
theorem dX0_reminderDay_1 : decode cX0_reminderDay 1 = .ok (.getfield 18, 3) := by decide +kernel
theorem dX0_reminderDay_4 : decode cX0_reminderDay 4 = .ok (.iload_n 1, 1) := by decide +kernel
theorem dX0_reminderDay_5 : decode cX0_reminderDay 5 = .ok (.iaload, 1) := by decide +kernel
theorem dX0_reminderDay_6 : decode cX0_reminderDay 6 = .ok (.bipush 7, 2) := by decide +kernel
theorem dX0_reminderDay_8 : decode cX0_reminderDay 8 = .ok (.aload_n 0, 1) := by decide +kernel
theorem dX0_reminderDay_9 : decode cX0_reminderDay 9 = .ok (.getfield 21, 3) := by decide +kernel
theorem dX0_reminderDay_12 : decode cX0_reminderDay 12 = .ok (.iload_n 1, 1) := by decide +kernel
theorem dX0_reminderDay_13 : decode cX0_reminderDay 13 = .ok (.iaload, 1) := by decide +kernel
theorem dX0_reminderDay_14 : decode cX0_reminderDay 14 = .ok (.imul, 1) := by decide +kernel
theorem dX0_reminderDay_15 : decode cX0_reminderDay 15 = .ok (.iadd, 1) := by decide +kernel
theorem dX0_reminderDay_16 : decode cX0_reminderDay 16 = .ok (.iconst 1, 1) := by decide +kernel
theorem dX0_reminderDay_17 : decode cX0_reminderDay 17 = .ok (.iadd, 1) := by decide +kernel
theorem dX0_reminderDay_18 : decode cX0_reminderDay 18 = .ok (.ireturn, 1) := by decide +kernel
theorem dX0_pay_0 : decode cX0_pay 0 = .ok (.aload_n 0, 1) := by decide +kernel
theorem dX0_pay_1 : decode cX0_pay 1 = .ok (.getfield 15, 3) := by decide +kernel
theorem dX0_pay_4 : decode cX0_pay 4 = .ok (.iload_n 1, 1) := by decide +kernel
theorem dX0_pay_5 : decode cX0_pay 5 = .ok (.iaload, 1) := by decide +kernel
theorem dX0_pay_6 : decode cX0_pay 6 = .ok (.istore_n 3, 1) := by decide +kernel
theorem dX0_pay_7 : decode cX0_pay 7 = .ok (.aload_n 0, 1) := by decide +kernel
theorem dX0_pay_8 : decode cX0_pay 8 = .ok (.getfield 15, 3) := by decide +kernel
theorem dX0_pay_11 : decode cX0_pay 11 = .ok (.iload_n 1, 1) := by decide +kernel
theorem dX0_pay_12 : decode cX0_pay 12 = .ok (.iconst 0, 1) := by decide +kernel
theorem dX0_pay_13 : decode cX0_pay 13 = .ok (.iload_n 3, 1) := by decide +kernel
theorem dX0_pay_14 : decode cX0_pay 14 = .ok (.iload_n 2, 1) := by decide +kernel
theorem dX0_pay_15 : decode cX0_pay 15 = .ok (.isub, 1) := by decide +kernel
theorem dX0_pay_16 : decode cX0_pay 16 = .ok (.invokestatic 35, 3) := by decide +kernel
theorem dX0_pay_19 : decode cX0_pay 19 = .ok (.iastore, 1) := by decide +kernel
theorem dX0_pay_20 : decode cX0_pay 20 = .ok (.aload_n 0, 1) := by decide +kernel
theorem dX0_pay_21 : decode cX0_pay 21 = .ok (.getfield 15, 3) := by decide +kernel
theorem dX0_pay_24 : decode cX0_pay 24 = .ok (.iload_n 1, 1) := by decide +kernel
theorem dX0_pay_25 : decode cX0_pay 25 = .ok (.iaload, 1) := by decide +kernel
theorem dX0_pay_26 : decode cX0_pay 26 = .ok (.iload_n 3, 1) := by decide +kernel
theorem dX0_pay_27 : decode cX0_pay 27 = .ok (.if_icmp .eq 7, 3) := by decide +kernel
theorem dX0_pay_30 : decode cX0_pay 30 = .ok (.iconst 1, 1) := by decide +kernel
theorem dX0_pay_31 : decode cX0_pay 31 = .ok (.goto 4, 3) := by decide +kernel
theorem dX0_pay_34 : decode cX0_pay 34 = .ok (.iconst 0, 1) := by decide +kernel
theorem dX0_pay_35 : decode cX0_pay 35 = .ok (.ireturn, 1) := by decide +kernel
theorem dX0_endWait_0 : decode cX0_endWait 0 = .ok (.aload_n 0, 1) := by decide +kernel
theorem dX0_endWait_1 : decode cX0_endWait 1 = .ok (.getfield 27, 3) := by decide +kernel
theorem dX0_endWait_4 : decode cX0_endWait 4 = .ok (.iload_n 1, 1) := by decide +kernel
theorem dX0_endWait_5 : decode cX0_endWait 5 = .ok (.baload, 1) := by decide +kernel
theorem dX0_endWait_6 : decode cX0_endWait 6 = .ok (.istore_n 2, 1) := by decide +kernel
theorem dX0_endWait_7 : decode cX0_endWait 7 = .ok (.aload_n 0, 1) := by decide +kernel
theorem dX0_endWait_8 : decode cX0_endWait 8 = .ok (.getfield 27, 3) := by decide +kernel
theorem dX0_endWait_11 : decode cX0_endWait 11 = .ok (.iload_n 1, 1) := by decide +kernel
theorem dX0_endWait_12 : decode cX0_endWait 12 = .ok (.iconst 0, 1) := by decide +kernel
theorem dX0_endWait_13 : decode cX0_endWait 13 = .ok (.bastore, 1) := by decide +kernel
theorem dX0_endWait_14 : decode cX0_endWait 14 = .ok (.iload_n 2, 1) := by decide +kernel
theorem dX0_endWait_15 : decode cX0_endWait 15 = .ok (.ireturn, 1) := by decide +kernel
set_option maxRecDepth 20000 in
theorem ggX0_sendLetter_X0_isOpen : GoodIn wsX0_sendLetter wsX0_isOpen := goodIn_ca (goodIn_r _ [6, 7, 8, 9, 10, 11, 12, 13, 14] (by decide +kernel) (by decide +kernel)) (goodIn_sub (fun _ h => List.mem_cons_of_mem _ (List.mem_append_right _ h)) (by decide +kernel))
set_option maxRecDepth 20000 in
theorem gX0_sendLetter_X0_isOpen : GoodIn wsX0_sendLetter (wsV RX0 41 RX0 yX0_isOpen wsX0_isOpen) := goodIn_app (goodIn_of _ (by decide +kernel)) ggX0_sendLetter_X0_isOpen
theorem dX0_sendLetter_0 : decode cX0_sendLetter 0 = .ok (.aload_n 0, 1) := by decide +kernel
theorem dX0_sendLetter_1 : decode cX0_sendLetter 1 = .ok (.iload_n 1, 1) := by decide +kernel
theorem dX0_sendLetter_2 : decode cX0_sendLetter 2 = .ok (.invokevirtual 41, 3) := by decide +kernel
theorem dX0_sendLetter_5 : decode cX0_sendLetter 5 = .ok (.ifCond .eq 13, 3) := by decide +kernel
theorem dX0_sendLetter_8 : decode cX0_sendLetter 8 = .ok (.aload_n 0, 1) := by decide +kernel
theorem dX0_sendLetter_9 : decode cX0_sendLetter 9 = .ok (.getfield 21, 3) := by decide +kernel
theorem dX0_sendLetter_12 : decode cX0_sendLetter 12 = .ok (.iload_n 1, 1) := by decide +kernel
theorem dX0_sendLetter_13 : decode cX0_sendLetter 13 = .ok (.iaload, 1) := by decide +kernel
theorem dX0_sendLetter_14 : decode cX0_sendLetter 14 = .ok (.iload_n 2, 1) := by decide +kernel
theorem dX0_sendLetter_15 : decode cX0_sendLetter 15 = .ok (.if_icmp .eq 5, 3) := by decide +kernel
theorem dX0_sendLetter_18 : decode cX0_sendLetter 18 = .ok (.iconst 0, 1) := by decide +kernel
theorem dX0_sendLetter_19 : decode cX0_sendLetter 19 = .ok (.ireturn, 1) := by decide +kernel
theorem dX0_sendLetter_20 : decode cX0_sendLetter 20 = .ok (.aload_n 0, 1) := by decide +kernel
theorem dX0_sendLetter_21 : decode cX0_sendLetter 21 = .ok (.getfield 21, 3) := by decide +kernel
theorem dX0_sendLetter_24 : decode cX0_sendLetter 24 = .ok (.iload_n 1, 1) := by decide +kernel
theorem dX0_sendLetter_25 : decode cX0_sendLetter 25 = .ok (.dup2, 1) := by decide +kernel
theorem dX0_sendLetter_26 : decode cX0_sendLetter 26 = .ok (.iaload, 1) := by decide +kernel
theorem dX0_sendLetter_27 : decode cX0_sendLetter 27 = .ok (.iconst 1, 1) := by decide +kernel
theorem dX0_sendLetter_28 : decode cX0_sendLetter 28 = .ok (.iadd, 1) := by decide +kernel
theorem dX0_sendLetter_29 : decode cX0_sendLetter 29 = .ok (.iastore, 1) := by decide +kernel
theorem dX0_sendLetter_30 : decode cX0_sendLetter 30 = .ok (.iconst 1, 1) := by decide +kernel
theorem dX0_sendLetter_31 : decode cX0_sendLetter 31 = .ok (.ireturn, 1) := by decide +kernel
theorem dX1_init_0 : decode cX1_init 0 = .ok (.aload_n 0, 1) := by decide +kernel
theorem dX1_init_1 : decode cX1_init 1 = .ok (.invokespecial 3, 3) := by decide +kernel
theorem dX1_init_4 : decode cX1_init 4 = .ok (.aload_n 0, 1) := by decide +kernel
theorem dX1_init_5 : decode cX1_init 5 = .ok (.bipush 80, 2) := by decide +kernel
theorem dX1_init_7 : decode cX1_init 7 = .ok (.newarray .int, 2) := by decide +kernel
theorem dX1_init_9 : decode cX1_init 9 = .ok (.putfield 9, 3) := by decide +kernel
theorem dX1_init_12 : decode cX1_init 12 = .ok (.aload_n 0, 1) := by decide +kernel
theorem dX1_init_13 : decode cX1_init 13 = .ok (.bipush 80, 2) := by decide +kernel
theorem dX1_init_15 : decode cX1_init 15 = .ok (.newarray .int, 2) := by decide +kernel
theorem dX1_init_17 : decode cX1_init 17 = .ok (.putfield 15, 3) := by decide +kernel
theorem dX1_init_20 : decode cX1_init 20 = .ok (.aload_n 0, 1) := by decide +kernel
theorem dX1_init_21 : decode cX1_init 21 = .ok (.bipush 80, 2) := by decide +kernel
theorem dX1_init_23 : decode cX1_init 23 = .ok (.newarray .char, 2) := by decide +kernel
theorem dX1_init_25 : decode cX1_init 25 = .ok (.putfield 18, 3) := by decide +kernel
theorem dX1_init_28 : decode cX1_init 28 = .ok (.aload_n 0, 1) := by decide +kernel
theorem dX1_init_29 : decode cX1_init 29 = .ok (.bipush 80, 2) := by decide +kernel
theorem dX1_init_31 : decode cX1_init 31 = .ok (.newarray .int, 2) := by decide +kernel
theorem dX1_init_33 : decode cX1_init 33 = .ok (.putfield 22, 3) := by decide +kernel
theorem dX1_init_36 : decode cX1_init 36 = .ok (.aload_n 0, 1) := by decide +kernel
theorem dX1_init_37 : decode cX1_init 37 = .ok (.bipush 80, 2) := by decide +kernel
theorem dX1_init_39 : decode cX1_init 39 = .ok (.newarray .int, 2) := by decide +kernel
theorem dX1_init_41 : decode cX1_init 41 = .ok (.putfield 25, 3) := by decide +kernel
theorem dX1_init_44 : decode cX1_init 44 = .ok (.aload_n 0, 1) := by decide +kernel
theorem dX1_init_45 : decode cX1_init 45 = .ok (.bipush 80, 2) := by decide +kernel
theorem dX1_init_47 : decode cX1_init 47 = .ok (.newarray .char, 2) := by decide +kernel
theorem dX1_init_49 : decode cX1_init 49 = .ok (.putfield 28, 3) := by decide +kernel
theorem dX1_init_52 : decode cX1_init 52 = .ok (.aload_n 0, 1) := by decide +kernel
theorem dX1_init_53 : decode cX1_init 53 = .ok (.bipush 80, 2) := by decide +kernel
theorem dX1_init_55 : decode cX1_init 55 = .ok (.newarray .int, 2) := by decide +kernel
theorem dX1_init_57 : decode cX1_init 57 = .ok (.putfield 31, 3) := by decide +kernel
theorem dX1_init_60 : decode cX1_init 60 = .ok (.aload_n 0, 1) := by decide +kernel
theorem dX1_init_61 : decode cX1_init 61 = .ok (.bipush 80, 2) := by decide +kernel
theorem dX1_init_63 : decode cX1_init 63 = .ok (.newarray .int, 2) := by decide +kernel
theorem dX1_init_65 : decode cX1_init 65 = .ok (.putfield 34, 3) := by decide +kernel
theorem dX1_init_68 : decode cX1_init 68 = .ok (.aload_n 0, 1) := by decide +kernel
theorem dX1_init_69 : decode cX1_init 69 = .ok (.bipush 80, 2) := by decide +kernel
theorem dX1_init_71 : decode cX1_init 71 = .ok (.newarray .int, 2) := by decide +kernel
theorem dX1_init_73 : decode cX1_init 73 = .ok (.putfield 37, 3) := by decide +kernel
theorem dX1_init_76 : decode cX1_init 76 = .ok (.aload_n 0, 1) := by decide +kernel
theorem dX1_init_77 : decode cX1_init 77 = .ok (.bipush 80, 2) := by decide +kernel
theorem dX1_init_79 : decode cX1_init 79 = .ok (.newarray .int, 2) := by decide +kernel
theorem dX1_init_81 : decode cX1_init 81 = .ok (.putfield 40, 3) := by decide +kernel
theorem dX1_init_84 : decode cX1_init 84 = .ok (.aload_n 0, 1) := by decide +kernel
theorem dX1_init_85 : decode cX1_init 85 = .ok (.bipush 80, 2) := by decide +kernel
theorem dX1_init_87 : decode cX1_init 87 = .ok (.newarray .int, 2) := by decide +kernel
theorem dX1_init_89 : decode cX1_init 89 = .ok (.putfield 43, 3) := by decide +kernel
theorem dX1_init_92 : decode cX1_init 92 = .ok (.return_, 1) := by decide +kernel
theorem dX1_contains_0 : decode cX1_contains 0 = .ok (.iload_n 1, 1) := by decide +kernel
theorem dX1_contains_1 : decode cX1_contains 1 = .ok (.ifCond .lt 15, 3) := by decide +kernel
theorem dX1_contains_4 : decode cX1_contains 4 = .ok (.iload_n 1, 1) := by decide +kernel
theorem dX1_contains_5 : decode cX1_contains 5 = .ok (.aload_n 0, 1) := by decide +kernel
theorem dX1_contains_6 : decode cX1_contains 6 = .ok (.getfield 46, 3) := by decide +kernel
theorem dX1_contains_9 : decode cX1_contains 9 = .ok (.if_icmp .ge 7, 3) := by decide +kernel
theorem dX1_contains_12 : decode cX1_contains 12 = .ok (.iconst 1, 1) := by decide +kernel
theorem dX1_contains_13 : decode cX1_contains 13 = .ok (.goto 4, 3) := by decide +kernel
theorem dX1_contains_16 : decode cX1_contains 16 = .ok (.iconst 0, 1) := by decide +kernel
theorem dX1_contains_17 : decode cX1_contains 17 = .ok (.ireturn, 1) := by decide +kernel
theorem dX1_isFull_0 : decode cX1_isFull 0 = .ok (.aload_n 0, 1) := by decide +kernel
theorem dX1_isFull_1 : decode cX1_isFull 1 = .ok (.getfield 46, 3) := by decide +kernel
theorem dX1_isFull_4 : decode cX1_isFull 4 = .ok (.bipush 80, 2) := by decide +kernel
theorem dX1_isFull_6 : decode cX1_isFull 6 = .ok (.if_icmp .lt 7, 3) := by decide +kernel
theorem dX1_isFull_9 : decode cX1_isFull 9 = .ok (.iconst 1, 1) := by decide +kernel
theorem dX1_isFull_10 : decode cX1_isFull 10 = .ok (.goto 4, 3) := by decide +kernel
theorem dX1_isFull_13 : decode cX1_isFull 13 = .ok (.iconst 0, 1) := by decide +kernel
theorem dX1_isFull_14 : decode cX1_isFull 14 = .ok (.ireturn, 1) := by decide +kernel
theorem dX1_find_0 : decode cX1_find 0 = .ok (.iconst 0, 1) := by decide +kernel
theorem dX1_find_1 : decode cX1_find 1 = .ok (.istore_n 2, 1) := by decide +kernel
theorem dX1_find_2 : decode cX1_find 2 = .ok (.iload_n 2, 1) := by decide +kernel
theorem dX1_find_3 : decode cX1_find 3 = .ok (.aload_n 0, 1) := by decide +kernel
theorem dX1_find_4 : decode cX1_find 4 = .ok (.getfield 46, 3) := by decide +kernel
theorem dX1_find_7 : decode cX1_find 7 = .ok (.if_icmp .ge 21, 3) := by decide +kernel
theorem dX1_find_10 : decode cX1_find 10 = .ok (.aload_n 0, 1) := by decide +kernel
theorem dX1_find_11 : decode cX1_find 11 = .ok (.getfield 15, 3) := by decide +kernel
theorem dX1_find_14 : decode cX1_find 14 = .ok (.iload_n 2, 1) := by decide +kernel
theorem dX1_find_15 : decode cX1_find 15 = .ok (.iaload, 1) := by decide +kernel
theorem dX1_find_16 : decode cX1_find 16 = .ok (.iload_n 1, 1) := by decide +kernel
theorem dX1_find_17 : decode cX1_find 17 = .ok (.if_icmp .ne 5, 3) := by decide +kernel
theorem dX1_find_20 : decode cX1_find 20 = .ok (.iload_n 2, 1) := by decide +kernel
theorem dX1_find_21 : decode cX1_find 21 = .ok (.ireturn, 1) := by decide +kernel
theorem dX1_find_22 : decode cX1_find 22 = .ok (.iinc 2 1, 3) := by decide +kernel
theorem dX1_find_25 : decode cX1_find 25 = .ok (.goto (-23), 3) := by decide +kernel
theorem dX1_find_28 : decode cX1_find 28 = .ok (.iconst (-1), 1) := by decide +kernel
theorem dX1_find_29 : decode cX1_find 29 = .ok (.ireturn, 1) := by decide +kernel
theorem dX1_add_0 : decode cX1_add 0 = .ok (.aload_n 0, 1) := by decide +kernel
theorem dX1_add_1 : decode cX1_add 1 = .ok (.getfield 46, 3) := by decide +kernel
theorem dX1_add_4 : decode cX1_add 4 = .ok (.istore 7, 2) := by decide +kernel
theorem dX1_add_6 : decode cX1_add 6 = .ok (.aload_n 0, 1) := by decide +kernel
theorem dX1_add_7 : decode cX1_add 7 = .ok (.getfield 9, 3) := by decide +kernel
theorem dX1_add_10 : decode cX1_add 10 = .ok (.iload 7, 2) := by decide +kernel
theorem dX1_add_12 : decode cX1_add 12 = .ok (.iload_n 1, 1) := by decide +kernel
theorem dX1_add_13 : decode cX1_add 13 = .ok (.iastore, 1) := by decide +kernel
theorem dX1_add_14 : decode cX1_add 14 = .ok (.aload_n 0, 1) := by decide +kernel
theorem dX1_add_15 : decode cX1_add 15 = .ok (.getfield 15, 3) := by decide +kernel
theorem dX1_add_18 : decode cX1_add 18 = .ok (.iload 7, 2) := by decide +kernel
theorem dX1_add_20 : decode cX1_add 20 = .ok (.iload_n 2, 1) := by decide +kernel
theorem dX1_add_21 : decode cX1_add 21 = .ok (.iastore, 1) := by decide +kernel
theorem dX1_add_22 : decode cX1_add 22 = .ok (.aload_n 0, 1) := by decide +kernel
theorem dX1_add_23 : decode cX1_add 23 = .ok (.getfield 18, 3) := by decide +kernel
theorem dX1_add_26 : decode cX1_add 26 = .ok (.iload 7, 2) := by decide +kernel
theorem dX1_add_28 : decode cX1_add 28 = .ok (.iload_n 3, 1) := by decide +kernel
theorem dX1_add_29 : decode cX1_add 29 = .ok (.castore, 1) := by decide +kernel
theorem dX1_add_30 : decode cX1_add 30 = .ok (.aload_n 0, 1) := by decide +kernel
theorem dX1_add_31 : decode cX1_add 31 = .ok (.getfield 22, 3) := by decide +kernel
theorem dX1_add_34 : decode cX1_add 34 = .ok (.iload 7, 2) := by decide +kernel
theorem dX1_add_36 : decode cX1_add 36 = .ok (.iload 4, 2) := by decide +kernel
theorem dX1_add_38 : decode cX1_add 38 = .ok (.iastore, 1) := by decide +kernel
theorem dX1_add_39 : decode cX1_add 39 = .ok (.aload_n 0, 1) := by decide +kernel
theorem dX1_add_40 : decode cX1_add 40 = .ok (.getfield 25, 3) := by decide +kernel
theorem dX1_add_43 : decode cX1_add 43 = .ok (.iload 7, 2) := by decide +kernel
theorem dX1_add_45 : decode cX1_add 45 = .ok (.iload 5, 2) := by decide +kernel
theorem dX1_add_47 : decode cX1_add 47 = .ok (.iastore, 1) := by decide +kernel
theorem dX1_add_48 : decode cX1_add 48 = .ok (.aload_n 0, 1) := by decide +kernel
theorem dX1_add_49 : decode cX1_add 49 = .ok (.getfield 31, 3) := by decide +kernel
theorem dX1_add_52 : decode cX1_add 52 = .ok (.iload 7, 2) := by decide +kernel
theorem dX1_add_54 : decode cX1_add 54 = .ok (.iload 6, 2) := by decide +kernel
theorem dX1_add_56 : decode cX1_add 56 = .ok (.iastore, 1) := by decide +kernel
theorem dX1_add_57 : decode cX1_add 57 = .ok (.aload_n 0, 1) := by decide +kernel
theorem dX1_add_58 : decode cX1_add 58 = .ok (.getfield 28, 3) := by decide +kernel
theorem dX1_add_61 : decode cX1_add 61 = .ok (.iload 7, 2) := by decide +kernel
theorem dX1_add_63 : decode cX1_add 63 = .ok (.bipush 119, 2) := by decide +kernel
theorem dX1_add_65 : decode cX1_add 65 = .ok (.castore, 1) := by decide +kernel
theorem dX1_add_66 : decode cX1_add 66 = .ok (.aload_n 0, 1) := by decide +kernel
theorem dX1_add_67 : decode cX1_add 67 = .ok (.dup, 1) := by decide +kernel
theorem dX1_add_68 : decode cX1_add 68 = .ok (.getfield 46, 3) := by decide +kernel
theorem dX1_add_71 : decode cX1_add 71 = .ok (.iconst 1, 1) := by decide +kernel
theorem dX1_add_72 : decode cX1_add 72 = .ok (.iadd, 1) := by decide +kernel
theorem dX1_add_73 : decode cX1_add 73 = .ok (.putfield 46, 3) := by decide +kernel
theorem dX1_add_76 : decode cX1_add 76 = .ok (.iload 7, 2) := by decide +kernel
theorem dX1_add_78 : decode cX1_add 78 = .ok (.ireturn, 1) := by decide +kernel
theorem dX1_release_0 : decode cX1_release 0 = .ok (.iconst 0, 1) := by decide +kernel
theorem dX1_release_1 : decode cX1_release 1 = .ok (.istore_n 3, 1) := by decide +kernel
theorem dX1_release_2 : decode cX1_release 2 = .ok (.iload_n 3, 1) := by decide +kernel
theorem dX1_release_3 : decode cX1_release 3 = .ok (.aload_n 0, 1) := by decide +kernel
theorem dX1_release_4 : decode cX1_release 4 = .ok (.getfield 46, 3) := by decide +kernel
theorem dX1_release_7 : decode cX1_release 7 = .ok (.if_icmp .ge 54, 3) := by decide +kernel
theorem dX1_release_10 : decode cX1_release 10 = .ok (.aload_n 0, 1) := by decide +kernel
theorem dX1_release_11 : decode cX1_release 11 = .ok (.getfield 28, 3) := by decide +kernel
theorem dX1_release_14 : decode cX1_release 14 = .ok (.iload_n 3, 1) := by decide +kernel
theorem dX1_release_15 : decode cX1_release 15 = .ok (.caload, 1) := by decide +kernel
theorem dX1_release_16 : decode cX1_release 16 = .ok (.bipush 104, 2) := by decide +kernel
theorem dX1_release_18 : decode cX1_release 18 = .ok (.if_icmp .ne 37, 3) := by decide +kernel
theorem dX1_release_21 : decode cX1_release 21 = .ok (.aload_n 0, 1) := by decide +kernel
theorem dX1_release_22 : decode cX1_release 22 = .ok (.getfield 22, 3) := by decide +kernel
theorem dX1_release_25 : decode cX1_release 25 = .ok (.iload_n 3, 1) := by decide +kernel
theorem dX1_release_26 : decode cX1_release 26 = .ok (.iaload, 1) := by decide +kernel
theorem dX1_release_27 : decode cX1_release 27 = .ok (.iload_n 1, 1) := by decide +kernel
theorem dX1_release_28 : decode cX1_release 28 = .ok (.if_icmp .ne 27, 3) := by decide +kernel
theorem dX1_release_31 : decode cX1_release 31 = .ok (.aload_n 0, 1) := by decide +kernel
theorem dX1_release_32 : decode cX1_release 32 = .ok (.getfield 28, 3) := by decide +kernel
theorem dX1_release_35 : decode cX1_release 35 = .ok (.iload_n 3, 1) := by decide +kernel
theorem dX1_release_36 : decode cX1_release 36 = .ok (.bipush 119, 2) := by decide +kernel
theorem dX1_release_38 : decode cX1_release 38 = .ok (.castore, 1) := by decide +kernel
theorem dX1_release_39 : decode cX1_release 39 = .ok (.aload_n 0, 1) := by decide +kernel
theorem dX1_release_40 : decode cX1_release 40 = .ok (.getfield 31, 3) := by decide +kernel
theorem dX1_release_43 : decode cX1_release 43 = .ok (.iload_n 3, 1) := by decide +kernel
theorem dX1_release_44 : decode cX1_release 44 = .ok (.aload_n 0, 1) := by decide +kernel
theorem dX1_release_45 : decode cX1_release 45 = .ok (.getfield 31, 3) := by decide +kernel
theorem dX1_release_48 : decode cX1_release 48 = .ok (.iload_n 3, 1) := by decide +kernel
theorem dX1_release_49 : decode cX1_release 49 = .ok (.iaload, 1) := by decide +kernel
theorem dX1_release_50 : decode cX1_release 50 = .ok (.iload_n 2, 1) := by decide +kernel
theorem dX1_release_51 : decode cX1_release 51 = .ok (.invokestatic 50, 3) := by decide +kernel
theorem dX1_release_54 : decode cX1_release 54 = .ok (.iastore, 1) := by decide +kernel
theorem dX1_release_55 : decode cX1_release 55 = .ok (.iinc 3 1, 3) := by decide +kernel
theorem dX1_release_58 : decode cX1_release 58 = .ok (.goto (-56), 3) := by decide +kernel
theorem dX1_release_61 : decode cX1_release 61 = .ok (.return_, 1) := by decide +kernel
theorem dX1_isReady_0 : decode cX1_isReady 0 = .ok (.aload_n 0, 1) := by decide +kernel
theorem dX1_isReady_1 : decode cX1_isReady 1 = .ok (.getfield 9, 3) := by decide +kernel
theorem dX1_isReady_4 : decode cX1_isReady 4 = .ok (.iload_n 1, 1) := by decide +kernel
theorem dX1_isReady_5 : decode cX1_isReady 5 = .ok (.iaload, 1) := by decide +kernel
theorem dX1_isReady_6 : decode cX1_isReady 6 = .ok (.iload_n 2, 1) := by decide +kernel
theorem dX1_isReady_7 : decode cX1_isReady 7 = .ok (.if_icmp .ne 28, 3) := by decide +kernel
theorem dX1_isReady_10 : decode cX1_isReady 10 = .ok (.aload_n 0, 1) := by decide +kernel
theorem dX1_isReady_11 : decode cX1_isReady 11 = .ok (.getfield 28, 3) := by decide +kernel
theorem dX1_isReady_14 : decode cX1_isReady 14 = .ok (.iload_n 1, 1) := by decide +kernel
theorem dX1_isReady_15 : decode cX1_isReady 15 = .ok (.caload, 1) := by decide +kernel
theorem dX1_isReady_16 : decode cX1_isReady 16 = .ok (.bipush 119, 2) := by decide +kernel
theorem dX1_isReady_18 : decode cX1_isReady 18 = .ok (.if_icmp .ne 17, 3) := by decide +kernel
theorem dX1_isReady_21 : decode cX1_isReady 21 = .ok (.aload_n 0, 1) := by decide +kernel
theorem dX1_isReady_22 : decode cX1_isReady 22 = .ok (.getfield 31, 3) := by decide +kernel
theorem dX1_isReady_25 : decode cX1_isReady 25 = .ok (.iload_n 1, 1) := by decide +kernel
theorem dX1_isReady_26 : decode cX1_isReady 26 = .ok (.iaload, 1) := by decide +kernel
theorem dX1_isReady_27 : decode cX1_isReady 27 = .ok (.iload_n 3, 1) := by decide +kernel
theorem dX1_isReady_28 : decode cX1_isReady 28 = .ok (.if_icmp .gt 7, 3) := by decide +kernel
theorem dX1_isReady_31 : decode cX1_isReady 31 = .ok (.iconst 1, 1) := by decide +kernel
theorem dX1_isReady_32 : decode cX1_isReady 32 = .ok (.goto 4, 3) := by decide +kernel
theorem dX1_isReady_35 : decode cX1_isReady 35 = .ok (.iconst 0, 1) := by decide +kernel
theorem dX1_isReady_36 : decode cX1_isReady 36 = .ok (.ireturn, 1) := by decide +kernel
set_option maxRecDepth 20000 in
theorem ggX1_countReady_X1_isReady : GoodIn wsX1_countReady wsX1_isReady := goodIn_ca (goodIn_r _ [6, 7, 8, 9, 10, 11, 12, 13, 14, 15, 16, 17, 18, 19, 20, 21, 22] (by decide +kernel) (by decide +kernel)) (goodIn_sub (fun _ h => List.mem_cons_of_mem _ (List.mem_append_right _ h)) (by decide +kernel))
set_option maxRecDepth 20000 in
theorem gX1_countReady_X1_isReady : GoodIn wsX1_countReady (wsV RX1 56 RX1 yX1_isReady wsX1_isReady) := goodIn_app (goodIn_of _ (by decide +kernel)) ggX1_countReady_X1_isReady
theorem dX1_countReady_0 : decode cX1_countReady 0 = .ok (.iconst 0, 1) := by decide +kernel
theorem dX1_countReady_1 : decode cX1_countReady 1 = .ok (.istore_n 3, 1) := by decide +kernel
theorem dX1_countReady_2 : decode cX1_countReady 2 = .ok (.iconst 0, 1) := by decide +kernel
theorem dX1_countReady_3 : decode cX1_countReady 3 = .ok (.istore 4, 2) := by decide +kernel
theorem dX1_countReady_5 : decode cX1_countReady 5 = .ok (.iload 4, 2) := by decide +kernel
theorem dX1_countReady_7 : decode cX1_countReady 7 = .ok (.aload_n 0, 1) := by decide +kernel
theorem dX1_countReady_8 : decode cX1_countReady 8 = .ok (.getfield 46, 3) := by decide +kernel
theorem dX1_countReady_11 : decode cX1_countReady 11 = .ok (.if_icmp .ge 23, 3) := by decide +kernel
theorem dX1_countReady_14 : decode cX1_countReady 14 = .ok (.aload_n 0, 1) := by decide +kernel
theorem dX1_countReady_15 : decode cX1_countReady 15 = .ok (.iload 4, 2) := by decide +kernel
theorem dX1_countReady_17 : decode cX1_countReady 17 = .ok (.iload_n 1, 1) := by decide +kernel
theorem dX1_countReady_18 : decode cX1_countReady 18 = .ok (.iload_n 2, 1) := by decide +kernel
theorem dX1_countReady_19 : decode cX1_countReady 19 = .ok (.invokevirtual 56, 3) := by decide +kernel
theorem dX1_countReady_22 : decode cX1_countReady 22 = .ok (.ifCond .eq 6, 3) := by decide +kernel
theorem dX1_countReady_25 : decode cX1_countReady 25 = .ok (.iinc 3 1, 3) := by decide +kernel
theorem dX1_countReady_28 : decode cX1_countReady 28 = .ok (.iinc 4 1, 3) := by decide +kernel
theorem dX1_countReady_31 : decode cX1_countReady 31 = .ok (.goto (-26), 3) := by decide +kernel
theorem dX1_countReady_34 : decode cX1_countReady 34 = .ok (.iload_n 3, 1) := by decide +kernel
theorem dX1_countReady_35 : decode cX1_countReady 35 = .ok (.ireturn, 1) := by decide +kernel
theorem dX1_goesBefore_0 : decode cX1_goesBefore 0 = .ok (.aload_n 0, 1) := by decide +kernel
theorem dX1_goesBefore_1 : decode cX1_goesBefore 1 = .ok (.getfield 31, 3) := by decide +kernel
theorem dX1_goesBefore_4 : decode cX1_goesBefore 4 = .ok (.iload_n 1, 1) := by decide +kernel
theorem dX1_goesBefore_5 : decode cX1_goesBefore 5 = .ok (.iaload, 1) := by decide +kernel
theorem dX1_goesBefore_6 : decode cX1_goesBefore 6 = .ok (.aload_n 0, 1) := by decide +kernel
theorem dX1_goesBefore_7 : decode cX1_goesBefore 7 = .ok (.getfield 31, 3) := by decide +kernel
theorem dX1_goesBefore_10 : decode cX1_goesBefore 10 = .ok (.iload_n 2, 1) := by decide +kernel
theorem dX1_goesBefore_11 : decode cX1_goesBefore 11 = .ok (.iaload, 1) := by decide +kernel
theorem dX1_goesBefore_12 : decode cX1_goesBefore 12 = .ok (.if_icmp .eq 24, 3) := by decide +kernel
theorem dX1_goesBefore_15 : decode cX1_goesBefore 15 = .ok (.aload_n 0, 1) := by decide +kernel
theorem dX1_goesBefore_16 : decode cX1_goesBefore 16 = .ok (.getfield 31, 3) := by decide +kernel
theorem dX1_goesBefore_19 : decode cX1_goesBefore 19 = .ok (.iload_n 1, 1) := by decide +kernel
theorem dX1_goesBefore_20 : decode cX1_goesBefore 20 = .ok (.iaload, 1) := by decide +kernel
theorem dX1_goesBefore_21 : decode cX1_goesBefore 21 = .ok (.aload_n 0, 1) := by decide +kernel
theorem dX1_goesBefore_22 : decode cX1_goesBefore 22 = .ok (.getfield 31, 3) := by decide +kernel
theorem dX1_goesBefore_25 : decode cX1_goesBefore 25 = .ok (.iload_n 2, 1) := by decide +kernel
theorem dX1_goesBefore_26 : decode cX1_goesBefore 26 = .ok (.iaload, 1) := by decide +kernel
theorem dX1_goesBefore_27 : decode cX1_goesBefore 27 = .ok (.if_icmp .ge 7, 3) := by decide +kernel
theorem dX1_goesBefore_30 : decode cX1_goesBefore 30 = .ok (.iconst 1, 1) := by decide +kernel
theorem dX1_goesBefore_31 : decode cX1_goesBefore 31 = .ok (.goto 4, 3) := by decide +kernel
theorem dX1_goesBefore_34 : decode cX1_goesBefore 34 = .ok (.iconst 0, 1) := by decide +kernel
theorem dX1_goesBefore_35 : decode cX1_goesBefore 35 = .ok (.ireturn, 1) := by decide +kernel
theorem dX1_goesBefore_36 : decode cX1_goesBefore 36 = .ok (.iload_n 1, 1) := by decide +kernel
theorem dX1_goesBefore_37 : decode cX1_goesBefore 37 = .ok (.iload_n 2, 1) := by decide +kernel
theorem dX1_goesBefore_38 : decode cX1_goesBefore 38 = .ok (.if_icmp .ge 7, 3) := by decide +kernel
theorem dX1_goesBefore_41 : decode cX1_goesBefore 41 = .ok (.iconst 1, 1) := by decide +kernel
theorem dX1_goesBefore_42 : decode cX1_goesBefore 42 = .ok (.goto 4, 3) := by decide +kernel
theorem dX1_goesBefore_45 : decode cX1_goesBefore 45 = .ok (.iconst 0, 1) := by decide +kernel
theorem dX1_goesBefore_46 : decode cX1_goesBefore 46 = .ok (.ireturn, 1) := by decide +kernel
set_option maxRecDepth 20000 in
theorem ggX1_nextReady_X1_isReady : GoodIn wsX1_nextReady wsX1_isReady := goodIn_ca (goodIn_r _ [6, 7, 8, 9, 14, 15, 16, 17, 18, 19, 20, 21, 22, 23, 24, 25, 26] (by decide +kernel) (by decide +kernel)) (goodIn_sub (fun _ h => List.mem_cons_of_mem _ (List.mem_append_right _ h)) (by decide +kernel))
set_option maxRecDepth 20000 in
theorem gX1_nextReady_X1_isReady : GoodIn wsX1_nextReady (wsV RX1 56 RX1 yX1_isReady wsX1_isReady) := goodIn_app (goodIn_of _ (by decide +kernel)) ggX1_nextReady_X1_isReady
set_option maxRecDepth 20000 in
theorem ggX1_nextReady_X1_goesBefore : GoodIn wsX1_nextReady wsX1_goesBefore := goodIn_ca (goodIn_r _ [13, 9, 14, 15, 16, 17, 18, 19, 20, 21, 22, 23, 24, 25, 26] (by decide +kernel) (by decide +kernel)) (goodIn_sub (fun _ h => List.mem_cons_of_mem _ (List.mem_append_right _ h)) (by decide +kernel))
set_option maxRecDepth 20000 in
theorem gX1_nextReady_X1_goesBefore : GoodIn wsX1_nextReady (wsV RX1 60 RX1 yX1_goesBefore wsX1_goesBefore) := goodIn_app (goodIn_of _ (by decide +kernel)) ggX1_nextReady_X1_goesBefore
theorem dX1_nextReady_0 : decode cX1_nextReady 0 = .ok (.iconst (-1), 1) := by decide +kernel
theorem dX1_nextReady_1 : decode cX1_nextReady 1 = .ok (.istore 4, 2) := by decide +kernel
theorem dX1_nextReady_3 : decode cX1_nextReady 3 = .ok (.iconst 0, 1) := by decide +kernel
theorem dX1_nextReady_4 : decode cX1_nextReady 4 = .ok (.istore 5, 2) := by decide +kernel
theorem dX1_nextReady_6 : decode cX1_nextReady 6 = .ok (.iload 5, 2) := by decide +kernel
theorem dX1_nextReady_8 : decode cX1_nextReady 8 = .ok (.aload_n 0, 1) := by decide +kernel
theorem dX1_nextReady_9 : decode cX1_nextReady 9 = .ok (.getfield 46, 3) := by decide +kernel
theorem dX1_nextReady_12 : decode cX1_nextReady 12 = .ok (.if_icmp .ge 56, 3) := by decide +kernel
theorem dX1_nextReady_15 : decode cX1_nextReady 15 = .ok (.aload_n 0, 1) := by decide +kernel
theorem dX1_nextReady_16 : decode cX1_nextReady 16 = .ok (.iload 5, 2) := by decide +kernel
theorem dX1_nextReady_18 : decode cX1_nextReady 18 = .ok (.iload_n 1, 1) := by decide +kernel
theorem dX1_nextReady_19 : decode cX1_nextReady 19 = .ok (.iload_n 2, 1) := by decide +kernel
theorem dX1_nextReady_20 : decode cX1_nextReady 20 = .ok (.invokevirtual 56, 3) := by decide +kernel
theorem dX1_nextReady_23 : decode cX1_nextReady 23 = .ok (.ifCond .eq 39, 3) := by decide +kernel
theorem dX1_nextReady_26 : decode cX1_nextReady 26 = .ok (.iload_n 3, 1) := by decide +kernel
theorem dX1_nextReady_27 : decode cX1_nextReady 27 = .ok (.iconst (-1), 1) := by decide +kernel
theorem dX1_nextReady_28 : decode cX1_nextReady 28 = .ok (.if_icmp .eq 13, 3) := by decide +kernel
theorem dX1_nextReady_31 : decode cX1_nextReady 31 = .ok (.aload_n 0, 1) := by decide +kernel
theorem dX1_nextReady_32 : decode cX1_nextReady 32 = .ok (.iload_n 3, 1) := by decide +kernel
theorem dX1_nextReady_33 : decode cX1_nextReady 33 = .ok (.iload 5, 2) := by decide +kernel
theorem dX1_nextReady_35 : decode cX1_nextReady 35 = .ok (.invokevirtual 60, 3) := by decide +kernel
theorem dX1_nextReady_38 : decode cX1_nextReady 38 = .ok (.ifCond .eq 24, 3) := by decide +kernel
theorem dX1_nextReady_41 : decode cX1_nextReady 41 = .ok (.iload 4, 2) := by decide +kernel
theorem dX1_nextReady_43 : decode cX1_nextReady 43 = .ok (.iconst (-1), 1) := by decide +kernel
theorem dX1_nextReady_44 : decode cX1_nextReady 44 = .ok (.if_icmp .eq 14, 3) := by decide +kernel
theorem dX1_nextReady_47 : decode cX1_nextReady 47 = .ok (.aload_n 0, 1) := by decide +kernel
theorem dX1_nextReady_48 : decode cX1_nextReady 48 = .ok (.iload 5, 2) := by decide +kernel
theorem dX1_nextReady_50 : decode cX1_nextReady 50 = .ok (.iload 4, 2) := by decide +kernel
theorem dX1_nextReady_52 : decode cX1_nextReady 52 = .ok (.invokevirtual 60, 3) := by decide +kernel
theorem dX1_nextReady_55 : decode cX1_nextReady 55 = .ok (.ifCond .eq 7, 3) := by decide +kernel
theorem dX1_nextReady_58 : decode cX1_nextReady 58 = .ok (.iload 5, 2) := by decide +kernel
theorem dX1_nextReady_60 : decode cX1_nextReady 60 = .ok (.istore 4, 2) := by decide +kernel
theorem dX1_nextReady_62 : decode cX1_nextReady 62 = .ok (.iinc 5 1, 3) := by decide +kernel
theorem dX1_nextReady_65 : decode cX1_nextReady 65 = .ok (.goto (-59), 3) := by decide +kernel
theorem dX1_nextReady_68 : decode cX1_nextReady 68 = .ok (.iload 4, 2) := by decide +kernel
theorem dX1_nextReady_70 : decode cX1_nextReady 70 = .ok (.ireturn, 1) := by decide +kernel
theorem dX1_giveTo_0 : decode cX1_giveTo 0 = .ok (.aload_n 0, 1) := by decide +kernel
theorem dX1_giveTo_1 : decode cX1_giveTo 1 = .ok (.getfield 28, 3) := by decide +kernel
theorem dX1_giveTo_4 : decode cX1_giveTo 4 = .ok (.iload_n 2, 1) := by decide +kernel
theorem dX1_giveTo_5 : decode cX1_giveTo 5 = .ok (.bipush 116, 2) := by decide +kernel
theorem dX1_giveTo_7 : decode cX1_giveTo 7 = .ok (.castore, 1) := by decide +kernel
theorem dX1_giveTo_8 : decode cX1_giveTo 8 = .ok (.aload_n 0, 1) := by decide +kernel
theorem dX1_giveTo_9 : decode cX1_giveTo 9 = .ok (.getfield 37, 3) := by decide +kernel
theorem dX1_giveTo_12 : decode cX1_giveTo 12 = .ok (.iload_n 2, 1) := by decide +kernel
theorem dX1_giveTo_13 : decode cX1_giveTo 13 = .ok (.iload_n 1, 1) := by decide +kernel
theorem dX1_giveTo_14 : decode cX1_giveTo 14 = .ok (.iastore, 1) := by decide +kernel
theorem dX1_giveTo_15 : decode cX1_giveTo 15 = .ok (.aload_n 0, 1) := by decide +kernel
theorem dX1_giveTo_16 : decode cX1_giveTo 16 = .ok (.getfield 40, 3) := by decide +kernel
theorem dX1_giveTo_19 : decode cX1_giveTo 19 = .ok (.iload_n 2, 1) := by decide +kernel
theorem dX1_giveTo_20 : decode cX1_giveTo 20 = .ok (.iload_n 3, 1) := by decide +kernel
theorem dX1_giveTo_21 : decode cX1_giveTo 21 = .ok (.iastore, 1) := by decide +kernel
theorem dX1_giveTo_22 : decode cX1_giveTo 22 = .ok (.return_, 1) := by decide +kernel
theorem dX1_countTakenBy_0 : decode cX1_countTakenBy 0 = .ok (.iconst 0, 1) := by decide +kernel
theorem dX1_countTakenBy_1 : decode cX1_countTakenBy 1 = .ok (.istore_n 2, 1) := by decide +kernel
theorem dX1_countTakenBy_2 : decode cX1_countTakenBy 2 = .ok (.iconst 0, 1) := by decide +kernel
theorem dX1_countTakenBy_3 : decode cX1_countTakenBy 3 = .ok (.istore_n 3, 1) := by decide +kernel
theorem dX1_countTakenBy_4 : decode cX1_countTakenBy 4 = .ok (.iload_n 3, 1) := by decide +kernel
theorem dX1_countTakenBy_5 : decode cX1_countTakenBy 5 = .ok (.aload_n 0, 1) := by decide +kernel
theorem dX1_countTakenBy_6 : decode cX1_countTakenBy 6 = .ok (.getfield 46, 3) := by decide +kernel
theorem dX1_countTakenBy_9 : decode cX1_countTakenBy 9 = .ok (.if_icmp .ge 33, 3) := by decide +kernel
theorem dX1_countTakenBy_12 : decode cX1_countTakenBy 12 = .ok (.aload_n 0, 1) := by decide +kernel
theorem dX1_countTakenBy_13 : decode cX1_countTakenBy 13 = .ok (.getfield 28, 3) := by decide +kernel
theorem dX1_countTakenBy_16 : decode cX1_countTakenBy 16 = .ok (.iload_n 3, 1) := by decide +kernel
theorem dX1_countTakenBy_17 : decode cX1_countTakenBy 17 = .ok (.caload, 1) := by decide +kernel
theorem dX1_countTakenBy_18 : decode cX1_countTakenBy 18 = .ok (.bipush 116, 2) := by decide +kernel
theorem dX1_countTakenBy_20 : decode cX1_countTakenBy 20 = .ok (.if_icmp .ne 16, 3) := by decide +kernel
theorem dX1_countTakenBy_23 : decode cX1_countTakenBy 23 = .ok (.aload_n 0, 1) := by decide +kernel
theorem dX1_countTakenBy_24 : decode cX1_countTakenBy 24 = .ok (.getfield 37, 3) := by decide +kernel
theorem dX1_countTakenBy_27 : decode cX1_countTakenBy 27 = .ok (.iload_n 3, 1) := by decide +kernel
theorem dX1_countTakenBy_28 : decode cX1_countTakenBy 28 = .ok (.iaload, 1) := by decide +kernel
theorem dX1_countTakenBy_29 : decode cX1_countTakenBy 29 = .ok (.iload_n 1, 1) := by decide +kernel
theorem dX1_countTakenBy_30 : decode cX1_countTakenBy 30 = .ok (.if_icmp .ne 6, 3) := by decide +kernel
theorem dX1_countTakenBy_33 : decode cX1_countTakenBy 33 = .ok (.iinc 2 1, 3) := by decide +kernel
theorem dX1_countTakenBy_36 : decode cX1_countTakenBy 36 = .ok (.iinc 3 1, 3) := by decide +kernel
theorem dX1_countTakenBy_39 : decode cX1_countTakenBy 39 = .ok (.goto (-35), 3) := by decide +kernel
theorem dX1_countTakenBy_42 : decode cX1_countTakenBy 42 = .ok (.iload_n 2, 1) := by decide +kernel
theorem dX1_countTakenBy_43 : decode cX1_countTakenBy 43 = .ok (.ireturn, 1) := by decide +kernel
theorem dX1_countIn_0 : decode cX1_countIn 0 = .ok (.iconst 0, 1) := by decide +kernel
theorem dX1_countIn_1 : decode cX1_countIn 1 = .ok (.istore_n 2, 1) := by decide +kernel
theorem dX1_countIn_2 : decode cX1_countIn 2 = .ok (.iconst 0, 1) := by decide +kernel
theorem dX1_countIn_3 : decode cX1_countIn 3 = .ok (.istore_n 3, 1) := by decide +kernel
theorem dX1_countIn_4 : decode cX1_countIn 4 = .ok (.iload_n 3, 1) := by decide +kernel
theorem dX1_countIn_5 : decode cX1_countIn 5 = .ok (.aload_n 0, 1) := by decide +kernel
theorem dX1_countIn_6 : decode cX1_countIn 6 = .ok (.getfield 46, 3) := by decide +kernel
theorem dX1_countIn_9 : decode cX1_countIn 9 = .ok (.if_icmp .ge 22, 3) := by decide +kernel
theorem dX1_countIn_12 : decode cX1_countIn 12 = .ok (.aload_n 0, 1) := by decide +kernel
theorem dX1_countIn_13 : decode cX1_countIn 13 = .ok (.getfield 28, 3) := by decide +kernel
theorem dX1_countIn_16 : decode cX1_countIn 16 = .ok (.iload_n 3, 1) := by decide +kernel
theorem dX1_countIn_17 : decode cX1_countIn 17 = .ok (.caload, 1) := by decide +kernel
theorem dX1_countIn_18 : decode cX1_countIn 18 = .ok (.iload_n 1, 1) := by decide +kernel
theorem dX1_countIn_19 : decode cX1_countIn 19 = .ok (.if_icmp .ne 6, 3) := by decide +kernel
theorem dX1_countIn_22 : decode cX1_countIn 22 = .ok (.iinc 2 1, 3) := by decide +kernel
theorem dX1_countIn_25 : decode cX1_countIn 25 = .ok (.iinc 3 1, 3) := by decide +kernel
theorem dX1_countIn_28 : decode cX1_countIn 28 = .ok (.goto (-24), 3) := by decide +kernel
theorem dX1_countIn_31 : decode cX1_countIn 31 = .ok (.iload_n 2, 1) := by decide +kernel
theorem dX1_countIn_32 : decode cX1_countIn 32 = .ok (.ireturn, 1) := by decide +kernel
theorem dX1_close_0 : decode cX1_close 0 = .ok (.aload_n 0, 1) := by decide +kernel
theorem dX1_close_1 : decode cX1_close 1 = .ok (.getfield 28, 3) := by decide +kernel
theorem dX1_close_4 : decode cX1_close 4 = .ok (.iload_n 1, 1) := by decide +kernel
theorem dX1_close_5 : decode cX1_close 5 = .ok (.bipush 100, 2) := by decide +kernel
theorem dX1_close_7 : decode cX1_close 7 = .ok (.castore, 1) := by decide +kernel
theorem dX1_close_8 : decode cX1_close 8 = .ok (.aload_n 0, 1) := by decide +kernel
theorem dX1_close_9 : decode cX1_close 9 = .ok (.getfield 64, 3) := by decide +kernel
theorem dX1_close_12 : decode cX1_close 12 = .ok (.bipush 80, 2) := by decide +kernel
theorem dX1_close_14 : decode cX1_close 14 = .ok (.if_icmp .ge 23, 3) := by decide +kernel
theorem dX1_close_17 : decode cX1_close 17 = .ok (.aload_n 0, 1) := by decide +kernel
theorem dX1_close_18 : decode cX1_close 18 = .ok (.getfield 43, 3) := by decide +kernel
theorem dX1_close_21 : decode cX1_close 21 = .ok (.aload_n 0, 1) := by decide +kernel
theorem dX1_close_22 : decode cX1_close 22 = .ok (.getfield 64, 3) := by decide +kernel
theorem dX1_close_25 : decode cX1_close 25 = .ok (.iload_n 1, 1) := by decide +kernel
theorem dX1_close_26 : decode cX1_close 26 = .ok (.iastore, 1) := by decide +kernel
theorem dX1_close_27 : decode cX1_close 27 = .ok (.aload_n 0, 1) := by decide +kernel
theorem dX1_close_28 : decode cX1_close 28 = .ok (.dup, 1) := by decide +kernel
theorem dX1_close_29 : decode cX1_close 29 = .ok (.getfield 64, 3) := by decide +kernel
theorem dX1_close_32 : decode cX1_close 32 = .ok (.iconst 1, 1) := by decide +kernel
theorem dX1_close_33 : decode cX1_close 33 = .ok (.iadd, 1) := by decide +kernel
theorem dX1_close_34 : decode cX1_close 34 = .ok (.putfield 64, 3) := by decide +kernel
theorem dX1_close_37 : decode cX1_close 37 = .ok (.return_, 1) := by decide +kernel
theorem dX1_putBack_0 : decode cX1_putBack 0 = .ok (.aload_n 0, 1) := by decide +kernel
theorem dX1_putBack_1 : decode cX1_putBack 1 = .ok (.getfield 34, 3) := by decide +kernel
theorem dX1_putBack_4 : decode cX1_putBack 4 = .ok (.iload_n 1, 1) := by decide +kernel
theorem dX1_putBack_5 : decode cX1_putBack 5 = .ok (.dup2, 1) := by decide +kernel
theorem dX1_putBack_6 : decode cX1_putBack 6 = .ok (.iaload, 1) := by decide +kernel
theorem dX1_putBack_7 : decode cX1_putBack 7 = .ok (.iconst 1, 1) := by decide +kernel
theorem dX1_putBack_8 : decode cX1_putBack 8 = .ok (.iadd, 1) := by decide +kernel
theorem dX1_putBack_9 : decode cX1_putBack 9 = .ok (.iastore, 1) := by decide +kernel
theorem dX1_putBack_10 : decode cX1_putBack 10 = .ok (.aload_n 0, 1) := by decide +kernel
theorem dX1_putBack_11 : decode cX1_putBack 11 = .ok (.getfield 34, 3) := by decide +kernel
theorem dX1_putBack_14 : decode cX1_putBack 14 = .ok (.iload_n 1, 1) := by decide +kernel
theorem dX1_putBack_15 : decode cX1_putBack 15 = .ok (.iaload, 1) := by decide +kernel
theorem dX1_putBack_16 : decode cX1_putBack 16 = .ok (.iconst 3, 1) := by decide +kernel
theorem dX1_putBack_17 : decode cX1_putBack 17 = .ok (.if_icmp .lt 14, 3) := by decide +kernel
theorem dX1_putBack_20 : decode cX1_putBack 20 = .ok (.aload_n 0, 1) := by decide +kernel
theorem dX1_putBack_21 : decode cX1_putBack 21 = .ok (.getfield 28, 3) := by decide +kernel
theorem dX1_putBack_24 : decode cX1_putBack 24 = .ok (.iload_n 1, 1) := by decide +kernel
theorem dX1_putBack_25 : decode cX1_putBack 25 = .ok (.bipush 120, 2) := by decide +kernel
theorem dX1_putBack_27 : decode cX1_putBack 27 = .ok (.castore, 1) := by decide +kernel
theorem dX1_putBack_28 : decode cX1_putBack 28 = .ok (.goto 27, 3) := by decide +kernel
theorem dX1_putBack_31 : decode cX1_putBack 31 = .ok (.aload_n 0, 1) := by decide +kernel
theorem dX1_putBack_32 : decode cX1_putBack 32 = .ok (.getfield 28, 3) := by decide +kernel
theorem dX1_putBack_35 : decode cX1_putBack 35 = .ok (.iload_n 1, 1) := by decide +kernel
theorem dX1_putBack_36 : decode cX1_putBack 36 = .ok (.bipush 119, 2) := by decide +kernel
theorem dX1_putBack_38 : decode cX1_putBack 38 = .ok (.castore, 1) := by decide +kernel
theorem dX1_putBack_39 : decode cX1_putBack 39 = .ok (.aload_n 0, 1) := by decide +kernel
theorem dX1_putBack_40 : decode cX1_putBack 40 = .ok (.getfield 31, 3) := by decide +kernel
theorem dX1_putBack_43 : decode cX1_putBack 43 = .ok (.iload_n 1, 1) := by decide +kernel
theorem dX1_putBack_44 : decode cX1_putBack 44 = .ok (.iload_n 2, 1) := by decide +kernel
theorem dX1_putBack_45 : decode cX1_putBack 45 = .ok (.iconst 2, 1) := by decide +kernel
theorem dX1_putBack_46 : decode cX1_putBack 46 = .ok (.aload_n 0, 1) := by decide +kernel
theorem dX1_putBack_47 : decode cX1_putBack 47 = .ok (.getfield 34, 3) := by decide +kernel
theorem dX1_putBack_50 : decode cX1_putBack 50 = .ok (.iload_n 1, 1) := by decide +kernel
theorem dX1_putBack_51 : decode cX1_putBack 51 = .ok (.iaload, 1) := by decide +kernel
theorem dX1_putBack_52 : decode cX1_putBack 52 = .ok (.imul, 1) := by decide +kernel
theorem dX1_putBack_53 : decode cX1_putBack 53 = .ok (.iadd, 1) := by decide +kernel
theorem dX1_putBack_54 : decode cX1_putBack 54 = .ok (.iastore, 1) := by decide +kernel
theorem dX1_putBack_55 : decode cX1_putBack 55 = .ok (.return_, 1) := by decide +kernel
set_option maxRecDepth 20000 in
theorem ggX1_putBackTakenUntil_X1_putBack : GoodIn wsX1_putBackTakenUntil wsX1_putBack := goodIn_ca (goodIn_r _ [8, 9, 2, 10, 11, 12, 13, 14, 15, 16, 17, 18, 19, 20, 21, 22, 23] (by decide +kernel) (by decide +kernel)) (goodIn_sub (fun _ h => List.mem_cons_of_mem _ (List.mem_append_right _ h)) (by decide +kernel))
set_option maxRecDepth 20000 in
theorem gX1_putBackTakenUntil_X1_putBack : GoodIn wsX1_putBackTakenUntil (wsV RX1 67 RX1 yX1_putBack wsX1_putBack) := goodIn_app (goodIn_of _ (by decide +kernel)) ggX1_putBackTakenUntil_X1_putBack
theorem dX1_putBackTakenUntil_0 : decode cX1_putBackTakenUntil 0 = .ok (.iconst 0, 1) := by decide +kernel
theorem dX1_putBackTakenUntil_1 : decode cX1_putBackTakenUntil 1 = .ok (.istore_n 3, 1) := by decide +kernel
theorem dX1_putBackTakenUntil_2 : decode cX1_putBackTakenUntil 2 = .ok (.iload_n 3, 1) := by decide +kernel
theorem dX1_putBackTakenUntil_3 : decode cX1_putBackTakenUntil 3 = .ok (.aload_n 0, 1) := by decide +kernel
theorem dX1_putBackTakenUntil_4 : decode cX1_putBackTakenUntil 4 = .ok (.getfield 46, 3) := by decide +kernel
theorem dX1_putBackTakenUntil_7 : decode cX1_putBackTakenUntil 7 = .ok (.if_icmp .ge 36, 3) := by decide +kernel
theorem dX1_putBackTakenUntil_10 : decode cX1_putBackTakenUntil 10 = .ok (.aload_n 0, 1) := by decide +kernel
theorem dX1_putBackTakenUntil_11 : decode cX1_putBackTakenUntil 11 = .ok (.getfield 28, 3) := by decide +kernel
theorem dX1_putBackTakenUntil_14 : decode cX1_putBackTakenUntil 14 = .ok (.iload_n 3, 1) := by decide +kernel
theorem dX1_putBackTakenUntil_15 : decode cX1_putBackTakenUntil 15 = .ok (.caload, 1) := by decide +kernel
theorem dX1_putBackTakenUntil_16 : decode cX1_putBackTakenUntil 16 = .ok (.bipush 116, 2) := by decide +kernel
theorem dX1_putBackTakenUntil_18 : decode cX1_putBackTakenUntil 18 = .ok (.if_icmp .ne 19, 3) := by decide +kernel
theorem dX1_putBackTakenUntil_21 : decode cX1_putBackTakenUntil 21 = .ok (.aload_n 0, 1) := by decide +kernel
theorem dX1_putBackTakenUntil_22 : decode cX1_putBackTakenUntil 22 = .ok (.getfield 40, 3) := by decide +kernel
theorem dX1_putBackTakenUntil_25 : decode cX1_putBackTakenUntil 25 = .ok (.iload_n 3, 1) := by decide +kernel
theorem dX1_putBackTakenUntil_26 : decode cX1_putBackTakenUntil 26 = .ok (.iaload, 1) := by decide +kernel
theorem dX1_putBackTakenUntil_27 : decode cX1_putBackTakenUntil 27 = .ok (.iload_n 1, 1) := by decide +kernel
theorem dX1_putBackTakenUntil_28 : decode cX1_putBackTakenUntil 28 = .ok (.if_icmp .gt 9, 3) := by decide +kernel
theorem dX1_putBackTakenUntil_31 : decode cX1_putBackTakenUntil 31 = .ok (.aload_n 0, 1) := by decide +kernel
theorem dX1_putBackTakenUntil_32 : decode cX1_putBackTakenUntil 32 = .ok (.iload_n 3, 1) := by decide +kernel
theorem dX1_putBackTakenUntil_33 : decode cX1_putBackTakenUntil 33 = .ok (.iload_n 2, 1) := by decide +kernel
theorem dX1_putBackTakenUntil_34 : decode cX1_putBackTakenUntil 34 = .ok (.invokevirtual 67, 3) := by decide +kernel
theorem dX1_putBackTakenUntil_37 : decode cX1_putBackTakenUntil 37 = .ok (.iinc 3 1, 3) := by decide +kernel
theorem dX1_putBackTakenUntil_40 : decode cX1_putBackTakenUntil 40 = .ok (.goto (-38), 3) := by decide +kernel
theorem dX1_putBackTakenUntil_43 : decode cX1_putBackTakenUntil 43 = .ok (.return_, 1) := by decide +kernel
theorem dX1_wake_0 : decode cX1_wake 0 = .ok (.aload_n 0, 1) := by decide +kernel
theorem dX1_wake_1 : decode cX1_wake 1 = .ok (.getfield 28, 3) := by decide +kernel
theorem dX1_wake_4 : decode cX1_wake 4 = .ok (.iload_n 1, 1) := by decide +kernel
theorem dX1_wake_5 : decode cX1_wake 5 = .ok (.bipush 119, 2) := by decide +kernel
theorem dX1_wake_7 : decode cX1_wake 7 = .ok (.castore, 1) := by decide +kernel
theorem dX1_wake_8 : decode cX1_wake 8 = .ok (.aload_n 0, 1) := by decide +kernel
theorem dX1_wake_9 : decode cX1_wake 9 = .ok (.getfield 31, 3) := by decide +kernel
theorem dX1_wake_12 : decode cX1_wake 12 = .ok (.iload_n 1, 1) := by decide +kernel
theorem dX1_wake_13 : decode cX1_wake 13 = .ok (.iload_n 2, 1) := by decide +kernel
theorem dX1_wake_14 : decode cX1_wake 14 = .ok (.iastore, 1) := by decide +kernel
theorem dX1_wake_15 : decode cX1_wake 15 = .ok (.aload_n 0, 1) := by decide +kernel
theorem dX1_wake_16 : decode cX1_wake 16 = .ok (.getfield 34, 3) := by decide +kernel
theorem dX1_wake_19 : decode cX1_wake 19 = .ok (.iload_n 1, 1) := by decide +kernel
theorem dX1_wake_20 : decode cX1_wake 20 = .ok (.iconst 0, 1) := by decide +kernel
theorem dX1_wake_21 : decode cX1_wake 21 = .ok (.iastore, 1) := by decide +kernel
theorem dX1_wake_22 : decode cX1_wake 22 = .ok (.return_, 1) := by decide +kernel
set_option maxRecDepth 20000 in
theorem ggX1_lettersFrom_X1_contains : GoodIn wsX1_lettersFrom wsX1_contains := goodIn_r _ [14, 15, 16, 17, 18, 19, 20, 21, 22, 23, 24, 25, 26, 27, 28] (by decide +kernel) (by decide +kernel)
set_option maxRecDepth 20000 in
theorem gX1_lettersFrom_X1_contains : GoodIn wsX1_lettersFrom (wsV RX1 71 RX1 yX1_contains wsX1_contains) := goodIn_app (goodIn_of _ (by decide +kernel)) ggX1_lettersFrom_X1_contains
theorem dX1_lettersFrom_0 : decode cX1_lettersFrom 0 = .ok (.iload_n 2, 1) := by decide +kernel
theorem dX1_lettersFrom_1 : decode cX1_lettersFrom 1 = .ok (.istore_n 3, 1) := by decide +kernel
theorem dX1_lettersFrom_2 : decode cX1_lettersFrom 2 = .ok (.iconst 0, 1) := by decide +kernel
theorem dX1_lettersFrom_3 : decode cX1_lettersFrom 3 = .ok (.istore 4, 2) := by decide +kernel
theorem dX1_lettersFrom_5 : decode cX1_lettersFrom 5 = .ok (.iconst 0, 1) := by decide +kernel
theorem dX1_lettersFrom_6 : decode cX1_lettersFrom 6 = .ok (.istore 5, 2) := by decide +kernel
theorem dX1_lettersFrom_8 : decode cX1_lettersFrom 8 = .ok (.iload 5, 2) := by decide +kernel
theorem dX1_lettersFrom_10 : decode cX1_lettersFrom 10 = .ok (.aload_n 0, 1) := by decide +kernel
theorem dX1_lettersFrom_11 : decode cX1_lettersFrom 11 = .ok (.getfield 64, 3) := by decide +kernel
theorem dX1_lettersFrom_14 : decode cX1_lettersFrom 14 = .ok (.if_icmp .ge 98, 3) := by decide +kernel
theorem dX1_lettersFrom_17 : decode cX1_lettersFrom 17 = .ok (.aload_n 0, 1) := by decide +kernel
theorem dX1_lettersFrom_18 : decode cX1_lettersFrom 18 = .ok (.getfield 43, 3) := by decide +kernel
theorem dX1_lettersFrom_21 : decode cX1_lettersFrom 21 = .ok (.iload 5, 2) := by decide +kernel
theorem dX1_lettersFrom_23 : decode cX1_lettersFrom 23 = .ok (.iaload, 1) := by decide +kernel
theorem dX1_lettersFrom_24 : decode cX1_lettersFrom 24 = .ok (.istore 6, 2) := by decide +kernel
theorem dX1_lettersFrom_26 : decode cX1_lettersFrom 26 = .ok (.aload_n 0, 1) := by decide +kernel
theorem dX1_lettersFrom_27 : decode cX1_lettersFrom 27 = .ok (.iload 6, 2) := by decide +kernel
theorem dX1_lettersFrom_29 : decode cX1_lettersFrom 29 = .ok (.invokevirtual 71, 3) := by decide +kernel
theorem dX1_lettersFrom_32 : decode cX1_lettersFrom 32 = .ok (.ifCond .eq 74, 3) := by decide +kernel
theorem dX1_lettersFrom_35 : decode cX1_lettersFrom 35 = .ok (.aload_n 0, 1) := by decide +kernel
theorem dX1_lettersFrom_36 : decode cX1_lettersFrom 36 = .ok (.getfield 22, 3) := by decide +kernel
theorem dX1_lettersFrom_39 : decode cX1_lettersFrom 39 = .ok (.iload 6, 2) := by decide +kernel
theorem dX1_lettersFrom_41 : decode cX1_lettersFrom 41 = .ok (.iaload, 1) := by decide +kernel
theorem dX1_lettersFrom_42 : decode cX1_lettersFrom 42 = .ok (.iload_n 1, 1) := by decide +kernel
theorem dX1_lettersFrom_43 : decode cX1_lettersFrom 43 = .ok (.if_icmp .ne 63, 3) := by decide +kernel
theorem dX1_lettersFrom_46 : decode cX1_lettersFrom 46 = .ok (.aload_n 0, 1) := by decide +kernel
theorem dX1_lettersFrom_47 : decode cX1_lettersFrom 47 = .ok (.getfield 18, 3) := by decide +kernel
theorem dX1_lettersFrom_50 : decode cX1_lettersFrom 50 = .ok (.iload 6, 2) := by decide +kernel
theorem dX1_lettersFrom_52 : decode cX1_lettersFrom 52 = .ok (.caload, 1) := by decide +kernel
theorem dX1_lettersFrom_53 : decode cX1_lettersFrom 53 = .ok (.bipush 112, 2) := by decide +kernel
theorem dX1_lettersFrom_55 : decode cX1_lettersFrom 55 = .ok (.if_icmp .ne 20, 3) := by decide +kernel
theorem dX1_lettersFrom_58 : decode cX1_lettersFrom 58 = .ok (.iconst 0, 1) := by decide +kernel
theorem dX1_lettersFrom_59 : decode cX1_lettersFrom 59 = .ok (.iload_n 3, 1) := by decide +kernel
theorem dX1_lettersFrom_60 : decode cX1_lettersFrom 60 = .ok (.aload_n 0, 1) := by decide +kernel
theorem dX1_lettersFrom_61 : decode cX1_lettersFrom 61 = .ok (.getfield 25, 3) := by decide +kernel
theorem dX1_lettersFrom_64 : decode cX1_lettersFrom 64 = .ok (.iload 6, 2) := by decide +kernel
theorem dX1_lettersFrom_66 : decode cX1_lettersFrom 66 = .ok (.iaload, 1) := by decide +kernel
theorem dX1_lettersFrom_67 : decode cX1_lettersFrom 67 = .ok (.isub, 1) := by decide +kernel
theorem dX1_lettersFrom_68 : decode cX1_lettersFrom 68 = .ok (.invokestatic 50, 3) := by decide +kernel
theorem dX1_lettersFrom_71 : decode cX1_lettersFrom 71 = .ok (.istore_n 3, 1) := by decide +kernel
theorem dX1_lettersFrom_72 : decode cX1_lettersFrom 72 = .ok (.goto 34, 3) := by decide +kernel
theorem dX1_lettersFrom_75 : decode cX1_lettersFrom 75 = .ok (.aload_n 0, 1) := by decide +kernel
theorem dX1_lettersFrom_76 : decode cX1_lettersFrom 76 = .ok (.getfield 18, 3) := by decide +kernel
theorem dX1_lettersFrom_79 : decode cX1_lettersFrom 79 = .ok (.iload 6, 2) := by decide +kernel
theorem dX1_lettersFrom_81 : decode cX1_lettersFrom 81 = .ok (.caload, 1) := by decide +kernel
theorem dX1_lettersFrom_82 : decode cX1_lettersFrom 82 = .ok (.bipush 114, 2) := by decide +kernel
theorem dX1_lettersFrom_84 : decode cX1_lettersFrom 84 = .ok (.if_icmp .ne 22, 3) := by decide +kernel
theorem dX1_lettersFrom_87 : decode cX1_lettersFrom 87 = .ok (.iload_n 3, 1) := by decide +kernel
theorem dX1_lettersFrom_88 : decode cX1_lettersFrom 88 = .ok (.ifCond .le 18, 3) := by decide +kernel
theorem dX1_lettersFrom_91 : decode cX1_lettersFrom 91 = .ok (.aload_n 0, 1) := by decide +kernel
theorem dX1_lettersFrom_92 : decode cX1_lettersFrom 92 = .ok (.getfield 25, 3) := by decide +kernel
theorem dX1_lettersFrom_95 : decode cX1_lettersFrom 95 = .ok (.iload 6, 2) := by decide +kernel
theorem dX1_lettersFrom_97 : decode cX1_lettersFrom 97 = .ok (.iaload, 1) := by decide +kernel
theorem dX1_lettersFrom_98 : decode cX1_lettersFrom 98 = .ok (.iload 4, 2) := by decide +kernel
theorem dX1_lettersFrom_100 : decode cX1_lettersFrom 100 = .ok (.if_icmp .ne 6, 3) := by decide +kernel
theorem dX1_lettersFrom_103 : decode cX1_lettersFrom 103 = .ok (.iinc 4 1, 3) := by decide +kernel
theorem dX1_lettersFrom_106 : decode cX1_lettersFrom 106 = .ok (.iinc 5 1, 3) := by decide +kernel
theorem dX1_lettersFrom_109 : decode cX1_lettersFrom 109 = .ok (.goto (-101), 3) := by decide +kernel
theorem dX1_lettersFrom_112 : decode cX1_lettersFrom 112 = .ok (.iload 4, 2) := by decide +kernel
theorem dX1_lettersFrom_114 : decode cX1_lettersFrom 114 = .ok (.ireturn, 1) := by decide +kernel
