theorem dX3_init_0 : decode cX3_init 0 = .ok (.aload_n 0, 1) := by decide +kernel
theorem dX3_init_1 : decode cX3_init 1 = .ok (.invokespecial 1, 3) := by decide +kernel
theorem dX3_init_4 : decode cX3_init 4 = .ok (.aload_n 0, 1) := by decide +kernel
theorem dX3_init_5 : decode cX3_init 5 = .ok (.bipush 8, 2) := by decide +kernel
theorem dX3_init_7 : decode cX3_init 7 = .ok (.newarray .int, 2) := by decide +kernel
theorem dX3_init_9 : decode cX3_init 9 = .ok (.putfield 9, 3) := by decide +kernel
theorem dX3_init_12 : decode cX3_init 12 = .ok (.aload_n 0, 1) := by decide +kernel
theorem dX3_init_13 : decode cX3_init 13 = .ok (.bipush 8, 2) := by decide +kernel
theorem dX3_init_15 : decode cX3_init 15 = .ok (.newarray .int, 2) := by decide +kernel
theorem dX3_init_17 : decode cX3_init 17 = .ok (.putfield 13, 3) := by decide +kernel
theorem dX3_init_20 : decode cX3_init 20 = .ok (.aload_n 0, 1) := by decide +kernel
theorem dX3_init_21 : decode cX3_init 21 = .ok (.bipush 8, 2) := by decide +kernel
theorem dX3_init_23 : decode cX3_init 23 = .ok (.newarray .int, 2) := by decide +kernel
theorem dX3_init_25 : decode cX3_init 25 = .ok (.putfield 16, 3) := by decide +kernel
theorem dX3_init_28 : decode cX3_init 28 = .ok (.aload_n 0, 1) := by decide +kernel
theorem dX3_init_29 : decode cX3_init 29 = .ok (.bipush 8, 2) := by decide +kernel
theorem dX3_init_31 : decode cX3_init 31 = .ok (.newarray .int, 2) := by decide +kernel
theorem dX3_init_33 : decode cX3_init 33 = .ok (.putfield 19, 3) := by decide +kernel
theorem dX3_init_36 : decode cX3_init 36 = .ok (.aload_n 0, 1) := by decide +kernel
theorem dX3_init_37 : decode cX3_init 37 = .ok (.bipush 8, 2) := by decide +kernel
theorem dX3_init_39 : decode cX3_init 39 = .ok (.newarray .boolean, 2) := by decide +kernel
theorem dX3_init_41 : decode cX3_init 41 = .ok (.putfield 22, 3) := by decide +kernel
theorem dX3_init_44 : decode cX3_init 44 = .ok (.aload_n 0, 1) := by decide +kernel
theorem dX3_init_45 : decode cX3_init 45 = .ok (.bipush 80, 2) := by decide +kernel
theorem dX3_init_47 : decode cX3_init 47 = .ok (.newarray .int, 2) := by decide +kernel
theorem dX3_init_49 : decode cX3_init 49 = .ok (.putfield 26, 3) := by decide +kernel
theorem dX3_init_52 : decode cX3_init 52 = .ok (.aload_n 0, 1) := by decide +kernel
theorem dX3_init_53 : decode cX3_init 53 = .ok (.bipush 80, 2) := by decide +kernel
theorem dX3_init_55 : decode cX3_init 55 = .ok (.newarray .int, 2) := by decide +kernel
theorem dX3_init_57 : decode cX3_init 57 = .ok (.putfield 29, 3) := by decide +kernel
theorem dX3_init_60 : decode cX3_init 60 = .ok (.aload_n 0, 1) := by decide +kernel
theorem dX3_init_61 : decode cX3_init 61 = .ok (.bipush 80, 2) := by decide +kernel
theorem dX3_init_63 : decode cX3_init 63 = .ok (.newarray .char, 2) := by decide +kernel
theorem dX3_init_65 : decode cX3_init 65 = .ok (.putfield 32, 3) := by decide +kernel
theorem dX3_init_68 : decode cX3_init 68 = .ok (.aload_n 0, 1) := by decide +kernel
theorem dX3_init_69 : decode cX3_init 69 = .ok (.bipush 80, 2) := by decide +kernel
theorem dX3_init_71 : decode cX3_init 71 = .ok (.newarray .int, 2) := by decide +kernel
theorem dX3_init_73 : decode cX3_init 73 = .ok (.putfield 36, 3) := by decide +kernel
theorem dX3_init_76 : decode cX3_init 76 = .ok (.aload_n 0, 1) := by decide +kernel
theorem dX3_init_77 : decode cX3_init 77 = .ok (.bipush 80, 2) := by decide +kernel
theorem dX3_init_79 : decode cX3_init 79 = .ok (.newarray .int, 2) := by decide +kernel
theorem dX3_init_81 : decode cX3_init 81 = .ok (.putfield 39, 3) := by decide +kernel
theorem dX3_init_84 : decode cX3_init 84 = .ok (.aload_n 0, 1) := by decide +kernel
theorem dX3_init_85 : decode cX3_init 85 = .ok (.bipush 80, 2) := by decide +kernel
theorem dX3_init_87 : decode cX3_init 87 = .ok (.newarray .int, 2) := by decide +kernel
theorem dX3_init_89 : decode cX3_init 89 = .ok (.putfield 42, 3) := by decide +kernel
theorem dX3_init_92 : decode cX3_init 92 = .ok (.aload_n 0, 1) := by decide +kernel
theorem dX3_init_93 : decode cX3_init 93 = .ok (.bipush 80, 2) := by decide +kernel
theorem dX3_init_95 : decode cX3_init 95 = .ok (.newarray .int, 2) := by decide +kernel
theorem dX3_init_97 : decode cX3_init 97 = .ok (.putfield 45, 3) := by decide +kernel
theorem dX3_init_100 : decode cX3_init 100 = .ok (.aload_n 0, 1) := by decide +kernel
theorem dX3_init_101 : decode cX3_init 101 = .ok (.bipush 80, 2) := by decide +kernel
theorem dX3_init_103 : decode cX3_init 103 = .ok (.newarray .char, 2) := by decide +kernel
theorem dX3_init_105 : decode cX3_init 105 = .ok (.putfield 48, 3) := by decide +kernel
theorem dX3_init_108 : decode cX3_init 108 = .ok (.aload_n 0, 1) := by decide +kernel
theorem dX3_init_109 : decode cX3_init 109 = .ok (.bipush 80, 2) := by decide +kernel
theorem dX3_init_111 : decode cX3_init 111 = .ok (.newarray .int, 2) := by decide +kernel
theorem dX3_init_113 : decode cX3_init 113 = .ok (.putfield 51, 3) := by decide +kernel
theorem dX3_init_116 : decode cX3_init 116 = .ok (.aload_n 0, 1) := by decide +kernel
theorem dX3_init_117 : decode cX3_init 117 = .ok (.bipush 80, 2) := by decide +kernel
theorem dX3_init_119 : decode cX3_init 119 = .ok (.newarray .int, 2) := by decide +kernel
theorem dX3_init_121 : decode cX3_init 121 = .ok (.putfield 54, 3) := by decide +kernel
theorem dX3_init_124 : decode cX3_init 124 = .ok (.return_, 1) := by decide +kernel
theorem dX3_thrown_0 : decode cX3_thrown 0 = .ok (.aload_n 0, 1) := by decide +kernel
theorem dX3_thrown_1 : decode cX3_thrown 1 = .ok (.getfield 57, 3) := by decide +kernel
theorem dX3_thrown_4 : decode cX3_thrown 4 = .ok (.ireturn, 1) := by decide +kernel
theorem dX3_raises_0 : decode cX3_raises 0 = .ok (.aload_n 0, 1) := by decide +kernel
theorem dX3_raises_1 : decode cX3_raises 1 = .ok (.iload_n 1, 1) := by decide +kernel
theorem dX3_raises_2 : decode cX3_raises 2 = .ok (.putfield 57, 3) := by decide +kernel
theorem dX3_raises_5 : decode cX3_raises 5 = .ok (.iconst 0, 1) := by decide +kernel
theorem dX3_raises_6 : decode cX3_raises 6 = .ok (.ireturn, 1) := by decide +kernel
theorem dX3_in_0 : decode cX3_in 0 = .ok (.iload_n 0, 1) := by decide +kernel
theorem dX3_in_1 : decode cX3_in 1 = .ok (.iload_n 1, 1) := by decide +kernel
theorem dX3_in_2 : decode cX3_in 2 = .ok (.if_icmp .lt 12, 3) := by decide +kernel
theorem dX3_in_5 : decode cX3_in 5 = .ok (.iload_n 0, 1) := by decide +kernel
theorem dX3_in_6 : decode cX3_in 6 = .ok (.iload_n 2, 1) := by decide +kernel
theorem dX3_in_7 : decode cX3_in 7 = .ok (.if_icmp .gt 7, 3) := by decide +kernel
theorem dX3_in_10 : decode cX3_in 10 = .ok (.iconst 1, 1) := by decide +kernel
theorem dX3_in_11 : decode cX3_in 11 = .ok (.goto 4, 3) := by decide +kernel
theorem dX3_in_14 : decode cX3_in 14 = .ok (.iconst 0, 1) := by decide +kernel
theorem dX3_in_15 : decode cX3_in 15 = .ok (.ireturn, 1) := by decide +kernel
set_option maxRecDepth 20000 in
theorem ggX3_noCase_X3_in : GoodIn wsX3_noCase wsX3_in := goodIn_r _ [6] (by decide +kernel) (by decide +kernel)
set_option maxRecDepth 20000 in
theorem gX3_noCase_X3_in : GoodIn wsX3_noCase (va_wsS RX3 64 yX3_in wsX3_in) := goodIn_app (goodIn_of _ (by decide +kernel)) ggX3_noCase_X3_in
theorem dX3_noCase_0 : decode cX3_noCase 0 = .ok (.aload_n 0, 1) := by decide +kernel
theorem dX3_noCase_1 : decode cX3_noCase 1 = .ok (.iload_n 1, 1) := by decide +kernel
theorem dX3_noCase_2 : decode cX3_noCase 2 = .ok (.iconst 0, 1) := by decide +kernel
theorem dX3_noCase_3 : decode cX3_noCase 3 = .ok (.aload_n 0, 1) := by decide +kernel
theorem dX3_noCase_4 : decode cX3_noCase 4 = .ok (.getfield 61, 3) := by decide +kernel
theorem dX3_noCase_7 : decode cX3_noCase 7 = .ok (.iconst 1, 1) := by decide +kernel
theorem dX3_noCase_8 : decode cX3_noCase 8 = .ok (.isub, 1) := by decide +kernel
theorem dX3_noCase_9 : decode cX3_noCase 9 = .ok (.invokestatic 64, 3) := by decide +kernel
theorem dX3_noCase_12 : decode cX3_noCase 12 = .ok (.ifCond .eq 7, 3) := by decide +kernel
theorem dX3_noCase_15 : decode cX3_noCase 15 = .ok (.iconst 0, 1) := by decide +kernel
theorem dX3_noCase_16 : decode cX3_noCase 16 = .ok (.goto 4, 3) := by decide +kernel
theorem dX3_noCase_19 : decode cX3_noCase 19 = .ok (.iconst 1, 1) := by decide +kernel
theorem dX3_noCase_20 : decode cX3_noCase 20 = .ok (.putfield 57, 3) := by decide +kernel
theorem dX3_noCase_23 : decode cX3_noCase 23 = .ok (.aload_n 0, 1) := by decide +kernel
theorem dX3_noCase_24 : decode cX3_noCase 24 = .ok (.getfield 57, 3) := by decide +kernel
theorem dX3_noCase_27 : decode cX3_noCase 27 = .ok (.ifCond .le 7, 3) := by decide +kernel
theorem dX3_noCase_30 : decode cX3_noCase 30 = .ok (.iconst 1, 1) := by decide +kernel
theorem dX3_noCase_31 : decode cX3_noCase 31 = .ok (.goto 4, 3) := by decide +kernel
theorem dX3_noCase_34 : decode cX3_noCase 34 = .ok (.iconst 0, 1) := by decide +kernel
theorem dX3_noCase_35 : decode cX3_noCase 35 = .ok (.ireturn, 1) := by decide +kernel
set_option maxRecDepth 20000 in
theorem ggX3_noMessage_X3_in : GoodIn wsX3_noMessage wsX3_in := goodIn_r _ [6] (by decide +kernel) (by decide +kernel)
set_option maxRecDepth 20000 in
theorem gX3_noMessage_X3_in : GoodIn wsX3_noMessage (va_wsS RX3 64 yX3_in wsX3_in) := goodIn_app (goodIn_of _ (by decide +kernel)) ggX3_noMessage_X3_in
theorem dX3_noMessage_0 : decode cX3_noMessage 0 = .ok (.aload_n 0, 1) := by decide +kernel
theorem dX3_noMessage_1 : decode cX3_noMessage 1 = .ok (.iload_n 1, 1) := by decide +kernel
theorem dX3_noMessage_2 : decode cX3_noMessage 2 = .ok (.iconst 0, 1) := by decide +kernel
theorem dX3_noMessage_3 : decode cX3_noMessage 3 = .ok (.aload_n 0, 1) := by decide +kernel
theorem dX3_noMessage_4 : decode cX3_noMessage 4 = .ok (.getfield 68, 3) := by decide +kernel
theorem dX3_noMessage_7 : decode cX3_noMessage 7 = .ok (.iconst 1, 1) := by decide +kernel
theorem dX3_noMessage_8 : decode cX3_noMessage 8 = .ok (.isub, 1) := by decide +kernel
theorem dX3_noMessage_9 : decode cX3_noMessage 9 = .ok (.invokestatic 64, 3) := by decide +kernel
theorem dX3_noMessage_12 : decode cX3_noMessage 12 = .ok (.ifCond .eq 7, 3) := by decide +kernel
theorem dX3_noMessage_15 : decode cX3_noMessage 15 = .ok (.iconst 0, 1) := by decide +kernel
theorem dX3_noMessage_16 : decode cX3_noMessage 16 = .ok (.goto 4, 3) := by decide +kernel
theorem dX3_noMessage_19 : decode cX3_noMessage 19 = .ok (.iconst 1, 1) := by decide +kernel
theorem dX3_noMessage_20 : decode cX3_noMessage 20 = .ok (.putfield 57, 3) := by decide +kernel
theorem dX3_noMessage_23 : decode cX3_noMessage 23 = .ok (.aload_n 0, 1) := by decide +kernel
theorem dX3_noMessage_24 : decode cX3_noMessage 24 = .ok (.getfield 57, 3) := by decide +kernel
theorem dX3_noMessage_27 : decode cX3_noMessage 27 = .ok (.ifCond .le 7, 3) := by decide +kernel
theorem dX3_noMessage_30 : decode cX3_noMessage 30 = .ok (.iconst 1, 1) := by decide +kernel
theorem dX3_noMessage_31 : decode cX3_noMessage 31 = .ok (.goto 4, 3) := by decide +kernel
theorem dX3_noMessage_34 : decode cX3_noMessage 34 = .ok (.iconst 0, 1) := by decide +kernel
theorem dX3_noMessage_35 : decode cX3_noMessage 35 = .ok (.ireturn, 1) := by decide +kernel
set_option maxRecDepth 20000 in
theorem ggX3_open_X3_in : GoodIn wsX3_open wsX3_in := goodIn_r _ [17] (by decide +kernel) (by decide +kernel)
set_option maxRecDepth 20000 in
theorem gX3_open_X3_in : GoodIn wsX3_open (va_wsS RX3 64 yX3_in wsX3_in) := goodIn_app (goodIn_of _ (by decide +kernel)) ggX3_open_X3_in
theorem dX3_open_0 : decode cX3_open 0 = .ok (.aload_n 0, 1) := by decide +kernel
theorem dX3_open_1 : decode cX3_open 1 = .ok (.iload_n 1, 1) := by decide +kernel
theorem dX3_open_2 : decode cX3_open 2 = .ok (.iconst 1, 1) := by decide +kernel
theorem dX3_open_3 : decode cX3_open 3 = .ok (.sipush 9999, 3) := by decide +kernel
theorem dX3_open_6 : decode cX3_open 6 = .ok (.invokestatic 64, 3) := by decide +kernel
theorem dX3_open_9 : decode cX3_open 9 = .ok (.ifCond .eq 14, 3) := by decide +kernel
theorem dX3_open_12 : decode cX3_open 12 = .ok (.iload_n 2, 1) := by decide +kernel
theorem dX3_open_13 : decode cX3_open 13 = .ok (.iconst 0, 1) := by decide +kernel
theorem dX3_open_14 : decode cX3_open 14 = .ok (.sipush 999, 3) := by decide +kernel
theorem dX3_open_17 : decode cX3_open 17 = .ok (.invokestatic 64, 3) := by decide +kernel
theorem dX3_open_20 : decode cX3_open 20 = .ok (.ifCond .ne 7, 3) := by decide +kernel
theorem dX3_open_23 : decode cX3_open 23 = .ok (.iconst 1, 1) := by decide +kernel
theorem dX3_open_24 : decode cX3_open 24 = .ok (.goto 17, 3) := by decide +kernel
theorem dX3_open_27 : decode cX3_open 27 = .ok (.aload_n 0, 1) := by decide +kernel
theorem dX3_open_28 : decode cX3_open 28 = .ok (.getfield 61, 3) := by decide +kernel
theorem dX3_open_31 : decode cX3_open 31 = .ok (.bipush 8, 2) := by decide +kernel
theorem dX3_open_33 : decode cX3_open 33 = .ok (.if_icmp .ne 7, 3) := by decide +kernel
theorem dX3_open_36 : decode cX3_open 36 = .ok (.iconst 2, 1) := by decide +kernel
theorem dX3_open_37 : decode cX3_open 37 = .ok (.goto 4, 3) := by decide +kernel
theorem dX3_open_40 : decode cX3_open 40 = .ok (.iconst 0, 1) := by decide +kernel
theorem dX3_open_41 : decode cX3_open 41 = .ok (.putfield 57, 3) := by decide +kernel
theorem dX3_open_44 : decode cX3_open 44 = .ok (.aload_n 0, 1) := by decide +kernel
theorem dX3_open_45 : decode cX3_open 45 = .ok (.getfield 57, 3) := by decide +kernel
theorem dX3_open_48 : decode cX3_open 48 = .ok (.ifCond .le 5, 3) := by decide +kernel
theorem dX3_open_51 : decode cX3_open 51 = .ok (.iconst 0, 1) := by decide +kernel
theorem dX3_open_52 : decode cX3_open 52 = .ok (.ireturn, 1) := by decide +kernel
theorem dX3_open_53 : decode cX3_open 53 = .ok (.aload_n 0, 1) := by decide +kernel
theorem dX3_open_54 : decode cX3_open 54 = .ok (.getfield 9, 3) := by decide +kernel
theorem dX3_open_57 : decode cX3_open 57 = .ok (.aload_n 0, 1) := by decide +kernel
theorem dX3_open_58 : decode cX3_open 58 = .ok (.getfield 61, 3) := by decide +kernel
theorem dX3_open_61 : decode cX3_open 61 = .ok (.iload_n 1, 1) := by decide +kernel
theorem dX3_open_62 : decode cX3_open 62 = .ok (.iastore, 1) := by decide +kernel
theorem dX3_open_63 : decode cX3_open 63 = .ok (.aload_n 0, 1) := by decide +kernel
theorem dX3_open_64 : decode cX3_open 64 = .ok (.getfield 13, 3) := by decide +kernel
theorem dX3_open_67 : decode cX3_open 67 = .ok (.aload_n 0, 1) := by decide +kernel
theorem dX3_open_68 : decode cX3_open 68 = .ok (.getfield 61, 3) := by decide +kernel
theorem dX3_open_71 : decode cX3_open 71 = .ok (.iload_n 2, 1) := by decide +kernel
theorem dX3_open_72 : decode cX3_open 72 = .ok (.iastore, 1) := by decide +kernel
theorem dX3_open_73 : decode cX3_open 73 = .ok (.iconst 0, 1) := by decide +kernel
theorem dX3_open_74 : decode cX3_open 74 = .ok (.istore_n 3, 1) := by decide +kernel
theorem dX3_open_75 : decode cX3_open 75 = .ok (.iload_n 3, 1) := by decide +kernel
theorem dX3_open_76 : decode cX3_open 76 = .ok (.aload_n 0, 1) := by decide +kernel
theorem dX3_open_77 : decode cX3_open 77 = .ok (.getfield 68, 3) := by decide +kernel
theorem dX3_open_80 : decode cX3_open 80 = .ok (.if_icmp .ge 60, 3) := by decide +kernel
theorem dX3_open_83 : decode cX3_open 83 = .ok (.aload_n 0, 1) := by decide +kernel
theorem dX3_open_84 : decode cX3_open 84 = .ok (.getfield 48, 3) := by decide +kernel
theorem dX3_open_87 : decode cX3_open 87 = .ok (.iload_n 3, 1) := by decide +kernel
theorem dX3_open_88 : decode cX3_open 88 = .ok (.caload, 1) := by decide +kernel
theorem dX3_open_89 : decode cX3_open 89 = .ok (.bipush 104, 2) := by decide +kernel
theorem dX3_open_91 : decode cX3_open 91 = .ok (.if_icmp .ne 43, 3) := by decide +kernel
theorem dX3_open_94 : decode cX3_open 94 = .ok (.aload_n 0, 1) := by decide +kernel
theorem dX3_open_95 : decode cX3_open 95 = .ok (.getfield 36, 3) := by decide +kernel
theorem dX3_open_98 : decode cX3_open 98 = .ok (.iload_n 3, 1) := by decide +kernel
theorem dX3_open_99 : decode cX3_open 99 = .ok (.iaload, 1) := by decide +kernel
theorem dX3_open_100 : decode cX3_open 100 = .ok (.aload_n 0, 1) := by decide +kernel
theorem dX3_open_101 : decode cX3_open 101 = .ok (.getfield 61, 3) := by decide +kernel
theorem dX3_open_104 : decode cX3_open 104 = .ok (.if_icmp .ne 30, 3) := by decide +kernel
theorem dX3_open_107 : decode cX3_open 107 = .ok (.aload_n 0, 1) := by decide +kernel
theorem dX3_open_108 : decode cX3_open 108 = .ok (.getfield 48, 3) := by decide +kernel
theorem dX3_open_111 : decode cX3_open 111 = .ok (.iload_n 3, 1) := by decide +kernel
theorem dX3_open_112 : decode cX3_open 112 = .ok (.bipush 119, 2) := by decide +kernel
theorem dX3_open_114 : decode cX3_open 114 = .ok (.castore, 1) := by decide +kernel
theorem dX3_open_115 : decode cX3_open 115 = .ok (.aload_n 0, 1) := by decide +kernel
theorem dX3_open_116 : decode cX3_open 116 = .ok (.getfield 42, 3) := by decide +kernel
theorem dX3_open_119 : decode cX3_open 119 = .ok (.iload_n 3, 1) := by decide +kernel
theorem dX3_open_120 : decode cX3_open 120 = .ok (.aload_n 0, 1) := by decide +kernel
theorem dX3_open_121 : decode cX3_open 121 = .ok (.getfield 42, 3) := by decide +kernel
theorem dX3_open_124 : decode cX3_open 124 = .ok (.iload_n 3, 1) := by decide +kernel
theorem dX3_open_125 : decode cX3_open 125 = .ok (.iaload, 1) := by decide +kernel
theorem dX3_open_126 : decode cX3_open 126 = .ok (.aload_n 0, 1) := by decide +kernel
theorem dX3_open_127 : decode cX3_open 127 = .ok (.getfield 71, 3) := by decide +kernel
theorem dX3_open_130 : decode cX3_open 130 = .ok (.invokestatic 74, 3) := by decide +kernel
theorem dX3_open_133 : decode cX3_open 133 = .ok (.iastore, 1) := by decide +kernel
theorem dX3_open_134 : decode cX3_open 134 = .ok (.iinc 3 1, 3) := by decide +kernel
theorem dX3_open_137 : decode cX3_open 137 = .ok (.goto (-62), 3) := by decide +kernel
theorem dX3_open_140 : decode cX3_open 140 = .ok (.aload_n 0, 1) := by decide +kernel
theorem dX3_open_141 : decode cX3_open 141 = .ok (.dup, 1) := by decide +kernel
theorem dX3_open_142 : decode cX3_open 142 = .ok (.getfield 61, 3) := by decide +kernel
theorem dX3_open_145 : decode cX3_open 145 = .ok (.iconst 1, 1) := by decide +kernel
theorem dX3_open_146 : decode cX3_open 146 = .ok (.iadd, 1) := by decide +kernel
theorem dX3_open_147 : decode cX3_open 147 = .ok (.putfield 61, 3) := by decide +kernel
theorem dX3_open_150 : decode cX3_open 150 = .ok (.aload_n 0, 1) := by decide +kernel
theorem dX3_open_151 : decode cX3_open 151 = .ok (.getfield 61, 3) := by decide +kernel
theorem dX3_open_154 : decode cX3_open 154 = .ok (.iconst 1, 1) := by decide +kernel
theorem dX3_open_155 : decode cX3_open 155 = .ok (.isub, 1) := by decide +kernel
theorem dX3_open_156 : decode cX3_open 156 = .ok (.ireturn, 1) := by decide +kernel
set_option maxRecDepth 20000 in
theorem ggX3_amount_X3_noCase : GoodIn wsX3_amount wsX3_noCase := goodIn_r _ [6, 7, 8, 9, 10, 5, 11, 12, 13, 14, 15, 16, 17, 18, 19, 20, 21, 22, 23, 24, 25, 26, 27, 28, 29, 30] (by decide +kernel) (by decide +kernel)
set_option maxRecDepth 20000 in
theorem gX3_amount_X3_noCase : GoodIn wsX3_amount (wsV RX3 80 RX3 yX3_noCase wsX3_noCase) := goodIn_app (goodIn_of _ (by decide +kernel)) ggX3_amount_X3_noCase
theorem dX3_amount_0 : decode cX3_amount 0 = .ok (.aload_n 0, 1) := by decide +kernel
theorem dX3_amount_1 : decode cX3_amount 1 = .ok (.iload_n 1, 1) := by decide +kernel
theorem dX3_amount_2 : decode cX3_amount 2 = .ok (.invokevirtual 80, 3) := by decide +kernel
theorem dX3_amount_5 : decode cX3_amount 5 = .ok (.ifCond .eq 7, 3) := by decide +kernel
theorem dX3_amount_8 : decode cX3_amount 8 = .ok (.iconst 0, 1) := by decide +kernel
theorem dX3_amount_9 : decode cX3_amount 9 = .ok (.goto 9, 3) := by decide +kernel
theorem dX3_amount_12 : decode cX3_amount 12 = .ok (.aload_n 0, 1) := by decide +kernel
theorem dX3_amount_13 : decode cX3_amount 13 = .ok (.getfield 9, 3) := by decide +kernel
theorem dX3_amount_16 : decode cX3_amount 16 = .ok (.iload_n 1, 1) := by decide +kernel
theorem dX3_amount_17 : decode cX3_amount 17 = .ok (.iaload, 1) := by decide +kernel
theorem dX3_amount_18 : decode cX3_amount 18 = .ok (.ireturn, 1) := by decide +kernel
set_option maxRecDepth 20000 in
theorem ggX3_pause_X3_noCase : GoodIn wsX3_pause wsX3_noCase := goodIn_r _ [13, 14, 2, 15, 16, 12, 17, 18, 19, 20, 21, 22, 23, 24, 25, 26, 27, 28, 29, 30, 31, 32, 33, 34, 35, 36] (by decide +kernel) (by decide +kernel)
set_option maxRecDepth 20000 in
theorem gX3_pause_X3_noCase : GoodIn wsX3_pause (wsV RX3 80 RX3 yX3_noCase wsX3_noCase) := goodIn_app (goodIn_of _ (by decide +kernel)) ggX3_pause_X3_noCase
set_option maxRecDepth 20000 in
theorem ggX3_pause_X3_in : GoodIn wsX3_pause wsX3_in := goodIn_r _ [17] (by decide +kernel) (by decide +kernel)
set_option maxRecDepth 20000 in
theorem gX3_pause_X3_in : GoodIn wsX3_pause (va_wsS RX3 64 yX3_in wsX3_in) := goodIn_app (goodIn_of _ (by decide +kernel)) ggX3_pause_X3_in
theorem dX3_pause_0 : decode cX3_pause 0 = .ok (.aload_n 0, 1) := by decide +kernel
theorem dX3_pause_1 : decode cX3_pause 1 = .ok (.iload_n 1, 1) := by decide +kernel
theorem dX3_pause_2 : decode cX3_pause 2 = .ok (.invokevirtual 80, 3) := by decide +kernel
theorem dX3_pause_5 : decode cX3_pause 5 = .ok (.ifCond .eq 5, 3) := by decide +kernel
theorem dX3_pause_8 : decode cX3_pause 8 = .ok (.iconst 0, 1) := by decide +kernel
theorem dX3_pause_9 : decode cX3_pause 9 = .ok (.ireturn, 1) := by decide +kernel
theorem dX3_pause_10 : decode cX3_pause 10 = .ok (.aload_n 0, 1) := by decide +kernel
theorem dX3_pause_11 : decode cX3_pause 11 = .ok (.iload_n 2, 1) := by decide +kernel
theorem dX3_pause_12 : decode cX3_pause 12 = .ok (.iconst 1, 1) := by decide +kernel
theorem dX3_pause_13 : decode cX3_pause 13 = .ok (.bipush 60, 2) := by decide +kernel
theorem dX3_pause_15 : decode cX3_pause 15 = .ok (.invokestatic 64, 3) := by decide +kernel
theorem dX3_pause_18 : decode cX3_pause 18 = .ok (.ifCond .ne 7, 3) := by decide +kernel
theorem dX3_pause_21 : decode cX3_pause 21 = .ok (.iconst 2, 1) := by decide +kernel
theorem dX3_pause_22 : decode cX3_pause 22 = .ok (.goto 17, 3) := by decide +kernel
theorem dX3_pause_25 : decode cX3_pause 25 = .ok (.aload_n 0, 1) := by decide +kernel
theorem dX3_pause_26 : decode cX3_pause 26 = .ok (.getfield 9, 3) := by decide +kernel
theorem dX3_pause_29 : decode cX3_pause 29 = .ok (.iload_n 1, 1) := by decide +kernel
theorem dX3_pause_30 : decode cX3_pause 30 = .ok (.iaload, 1) := by decide +kernel
theorem dX3_pause_31 : decode cX3_pause 31 = .ok (.ifCond .ne 7, 3) := by decide +kernel
theorem dX3_pause_34 : decode cX3_pause 34 = .ok (.iconst 3, 1) := by decide +kernel
theorem dX3_pause_35 : decode cX3_pause 35 = .ok (.goto 4, 3) := by decide +kernel
theorem dX3_pause_38 : decode cX3_pause 38 = .ok (.iconst 0, 1) := by decide +kernel
theorem dX3_pause_39 : decode cX3_pause 39 = .ok (.putfield 57, 3) := by decide +kernel
theorem dX3_pause_42 : decode cX3_pause 42 = .ok (.aload_n 0, 1) := by decide +kernel
theorem dX3_pause_43 : decode cX3_pause 43 = .ok (.getfield 57, 3) := by decide +kernel
theorem dX3_pause_46 : decode cX3_pause 46 = .ok (.ifCond .le 5, 3) := by decide +kernel
theorem dX3_pause_49 : decode cX3_pause 49 = .ok (.iconst 0, 1) := by decide +kernel
theorem dX3_pause_50 : decode cX3_pause 50 = .ok (.ireturn, 1) := by decide +kernel
theorem dX3_pause_51 : decode cX3_pause 51 = .ok (.aload_n 0, 1) := by decide +kernel
theorem dX3_pause_52 : decode cX3_pause 52 = .ok (.getfield 19, 3) := by decide +kernel
theorem dX3_pause_55 : decode cX3_pause 55 = .ok (.iload_n 1, 1) := by decide +kernel
theorem dX3_pause_56 : decode cX3_pause 56 = .ok (.aload_n 0, 1) := by decide +kernel
theorem dX3_pause_57 : decode cX3_pause 57 = .ok (.getfield 19, 3) := by decide +kernel
theorem dX3_pause_60 : decode cX3_pause 60 = .ok (.iload_n 1, 1) := by decide +kernel
theorem dX3_pause_61 : decode cX3_pause 61 = .ok (.iaload, 1) := by decide +kernel
theorem dX3_pause_62 : decode cX3_pause 62 = .ok (.aload_n 0, 1) := by decide +kernel
theorem dX3_pause_63 : decode cX3_pause 63 = .ok (.getfield 71, 3) := by decide +kernel
theorem dX3_pause_66 : decode cX3_pause 66 = .ok (.iload_n 2, 1) := by decide +kernel
theorem dX3_pause_67 : decode cX3_pause 67 = .ok (.iadd, 1) := by decide +kernel
theorem dX3_pause_68 : decode cX3_pause 68 = .ok (.invokestatic 74, 3) := by decide +kernel
theorem dX3_pause_71 : decode cX3_pause 71 = .ok (.iastore, 1) := by decide +kernel
theorem dX3_pause_72 : decode cX3_pause 72 = .ok (.aload_n 0, 1) := by decide +kernel
theorem dX3_pause_73 : decode cX3_pause 73 = .ok (.getfield 19, 3) := by decide +kernel
theorem dX3_pause_76 : decode cX3_pause 76 = .ok (.iload_n 1, 1) := by decide +kernel
theorem dX3_pause_77 : decode cX3_pause 77 = .ok (.iaload, 1) := by decide +kernel
theorem dX3_pause_78 : decode cX3_pause 78 = .ok (.ireturn, 1) := by decide +kernel
set_option maxRecDepth 20000 in
theorem ggX3_awaitNote_X3_noCase : GoodIn wsX3_awaitNote wsX3_noCase := goodIn_r _ [8, 9, 2, 10, 11, 7, 12, 13, 14, 15, 16, 17, 18, 19, 20, 21, 22, 23, 24, 25, 26, 27, 28, 29, 30, 31] (by decide +kernel) (by decide +kernel)
set_option maxRecDepth 20000 in
theorem gX3_awaitNote_X3_noCase : GoodIn wsX3_awaitNote (wsV RX3 80 RX3 yX3_noCase wsX3_noCase) := goodIn_app (goodIn_of _ (by decide +kernel)) ggX3_awaitNote_X3_noCase
theorem dX3_awaitNote_0 : decode cX3_awaitNote 0 = .ok (.aload_n 0, 1) := by decide +kernel
theorem dX3_awaitNote_1 : decode cX3_awaitNote 1 = .ok (.iload_n 1, 1) := by decide +kernel
theorem dX3_awaitNote_2 : decode cX3_awaitNote 2 = .ok (.invokevirtual 80, 3) := by decide +kernel
theorem dX3_awaitNote_5 : decode cX3_awaitNote 5 = .ok (.ifCond .eq 5, 3) := by decide +kernel
theorem dX3_awaitNote_8 : decode cX3_awaitNote 8 = .ok (.iconst 0, 1) := by decide +kernel
theorem dX3_awaitNote_9 : decode cX3_awaitNote 9 = .ok (.ireturn, 1) := by decide +kernel
theorem dX3_awaitNote_10 : decode cX3_awaitNote 10 = .ok (.aload_n 0, 1) := by decide +kernel
theorem dX3_awaitNote_11 : decode cX3_awaitNote 11 = .ok (.aload_n 0, 1) := by decide +kernel
theorem dX3_awaitNote_12 : decode cX3_awaitNote 12 = .ok (.getfield 9, 3) := by decide +kernel
theorem dX3_awaitNote_15 : decode cX3_awaitNote 15 = .ok (.iload_n 1, 1) := by decide +kernel
theorem dX3_awaitNote_16 : decode cX3_awaitNote 16 = .ok (.iaload, 1) := by decide +kernel
theorem dX3_awaitNote_17 : decode cX3_awaitNote 17 = .ok (.ifCond .ne 7, 3) := by decide +kernel
theorem dX3_awaitNote_20 : decode cX3_awaitNote 20 = .ok (.iconst 2, 1) := by decide +kernel
theorem dX3_awaitNote_21 : decode cX3_awaitNote 21 = .ok (.goto 4, 3) := by decide +kernel
theorem dX3_awaitNote_24 : decode cX3_awaitNote 24 = .ok (.iconst 0, 1) := by decide +kernel
theorem dX3_awaitNote_25 : decode cX3_awaitNote 25 = .ok (.putfield 57, 3) := by decide +kernel
theorem dX3_awaitNote_28 : decode cX3_awaitNote 28 = .ok (.aload_n 0, 1) := by decide +kernel
theorem dX3_awaitNote_29 : decode cX3_awaitNote 29 = .ok (.getfield 57, 3) := by decide +kernel
theorem dX3_awaitNote_32 : decode cX3_awaitNote 32 = .ok (.ifCond .le 5, 3) := by decide +kernel
theorem dX3_awaitNote_35 : decode cX3_awaitNote 35 = .ok (.iconst 0, 1) := by decide +kernel
theorem dX3_awaitNote_36 : decode cX3_awaitNote 36 = .ok (.ireturn, 1) := by decide +kernel
theorem dX3_awaitNote_37 : decode cX3_awaitNote 37 = .ok (.aload_n 0, 1) := by decide +kernel
theorem dX3_awaitNote_38 : decode cX3_awaitNote 38 = .ok (.getfield 22, 3) := by decide +kernel
theorem dX3_awaitNote_41 : decode cX3_awaitNote 41 = .ok (.iload_n 1, 1) := by decide +kernel
theorem dX3_awaitNote_42 : decode cX3_awaitNote 42 = .ok (.baload, 1) := by decide +kernel
theorem dX3_awaitNote_43 : decode cX3_awaitNote 43 = .ok (.istore_n 2, 1) := by decide +kernel
theorem dX3_awaitNote_44 : decode cX3_awaitNote 44 = .ok (.aload_n 0, 1) := by decide +kernel
theorem dX3_awaitNote_45 : decode cX3_awaitNote 45 = .ok (.getfield 22, 3) := by decide +kernel
theorem dX3_awaitNote_48 : decode cX3_awaitNote 48 = .ok (.iload_n 1, 1) := by decide +kernel
theorem dX3_awaitNote_49 : decode cX3_awaitNote 49 = .ok (.iconst 1, 1) := by decide +kernel
theorem dX3_awaitNote_50 : decode cX3_awaitNote 50 = .ok (.bastore, 1) := by decide +kernel
theorem dX3_awaitNote_51 : decode cX3_awaitNote 51 = .ok (.iload_n 2, 1) := by decide +kernel
theorem dX3_awaitNote_52 : decode cX3_awaitNote 52 = .ok (.ireturn, 1) := by decide +kernel
set_option maxRecDepth 20000 in
theorem ggX3_letters_X3_noCase : GoodIn wsX3_letters wsX3_noCase := goodIn_r _ [6, 7, 8, 9, 10, 5, 11, 12, 13, 14, 15, 16, 17, 18, 19, 20, 21, 22, 23, 24, 25, 26, 27, 28, 29, 30] (by decide +kernel) (by decide +kernel)
set_option maxRecDepth 20000 in
theorem gX3_letters_X3_noCase : GoodIn wsX3_letters (wsV RX3 80 RX3 yX3_noCase wsX3_noCase) := goodIn_app (goodIn_of _ (by decide +kernel)) ggX3_letters_X3_noCase
theorem dX3_letters_0 : decode cX3_letters 0 = .ok (.aload_n 0, 1) := by decide +kernel
theorem dX3_letters_1 : decode cX3_letters 1 = .ok (.iload_n 1, 1) := by decide +kernel
theorem dX3_letters_2 : decode cX3_letters 2 = .ok (.invokevirtual 80, 3) := by decide +kernel
theorem dX3_letters_5 : decode cX3_letters 5 = .ok (.ifCond .eq 7, 3) := by decide +kernel
theorem dX3_letters_8 : decode cX3_letters 8 = .ok (.iconst 0, 1) := by decide +kernel
theorem dX3_letters_9 : decode cX3_letters 9 = .ok (.goto 9, 3) := by decide +kernel
theorem dX3_letters_12 : decode cX3_letters 12 = .ok (.aload_n 0, 1) := by decide +kernel
theorem dX3_letters_13 : decode cX3_letters 13 = .ok (.getfield 16, 3) := by decide +kernel
theorem dX3_letters_16 : decode cX3_letters 16 = .ok (.iload_n 1, 1) := by decide +kernel
theorem dX3_letters_17 : decode cX3_letters 17 = .ok (.iaload, 1) := by decide +kernel
theorem dX3_letters_18 : decode cX3_letters 18 = .ok (.ireturn, 1) := by decide +kernel
set_option maxRecDepth 20000 in
theorem ggX3_lettersByMessages_X3_letters : GoodIn wsX3_lettersByMessages wsX3_letters := goodIn_ca (goodIn_r _ [5, 6, 7, 8, 9, 4, 10, 11, 12, 13, 14, 15, 16, 17, 18, 19, 20, 21, 22, 23, 24, 25, 26, 27, 28, 29, 30, 31, 32, 33, 34] (by decide +kernel) (by decide +kernel)) (goodIn_sub (fun _ h => List.mem_cons_of_mem _ (List.mem_append_right _ h)) (by decide +kernel))
set_option maxRecDepth 20000 in
theorem gX3_lettersByMessages_X3_letters : GoodIn wsX3_lettersByMessages (wsV RX3 84 RX3 yX3_letters wsX3_letters) := goodIn_app (goodIn_of _ (by decide +kernel)) ggX3_lettersByMessages_X3_letters
theorem dX3_lettersByMessages_0 : decode cX3_lettersByMessages 0 = .ok (.aload_n 0, 1) := by decide +kernel
theorem dX3_lettersByMessages_1 : decode cX3_lettersByMessages 1 = .ok (.iload_n 1, 1) := by decide +kernel
theorem dX3_lettersByMessages_2 : decode cX3_lettersByMessages 2 = .ok (.invokevirtual 84, 3) := by decide +kernel
theorem dX3_lettersByMessages_5 : decode cX3_lettersByMessages 5 = .ok (.ireturn, 1) := by decide +kernel
theorem dX3_find_0 : decode cX3_find 0 = .ok (.iconst 0, 1) := by decide +kernel
theorem dX3_find_1 : decode cX3_find 1 = .ok (.istore_n 2, 1) := by decide +kernel
theorem dX3_find_2 : decode cX3_find 2 = .ok (.iload_n 2, 1) := by decide +kernel
theorem dX3_find_3 : decode cX3_find 3 = .ok (.aload_n 0, 1) := by decide +kernel
theorem dX3_find_4 : decode cX3_find 4 = .ok (.getfield 68, 3) := by decide +kernel
theorem dX3_find_7 : decode cX3_find 7 = .ok (.if_icmp .ge 21, 3) := by decide +kernel
theorem dX3_find_10 : decode cX3_find 10 = .ok (.aload_n 0, 1) := by decide +kernel
theorem dX3_find_11 : decode cX3_find 11 = .ok (.getfield 29, 3) := by decide +kernel
theorem dX3_find_14 : decode cX3_find 14 = .ok (.iload_n 2, 1) := by decide +kernel
theorem dX3_find_15 : decode cX3_find 15 = .ok (.iaload, 1) := by decide +kernel
theorem dX3_find_16 : decode cX3_find 16 = .ok (.iload_n 1, 1) := by decide +kernel
theorem dX3_find_17 : decode cX3_find 17 = .ok (.if_icmp .ne 5, 3) := by decide +kernel
theorem dX3_find_20 : decode cX3_find 20 = .ok (.iload_n 2, 1) := by decide +kernel
theorem dX3_find_21 : decode cX3_find 21 = .ok (.ireturn, 1) := by decide +kernel
theorem dX3_find_22 : decode cX3_find 22 = .ok (.iinc 2 1, 3) := by decide +kernel
theorem dX3_find_25 : decode cX3_find 25 = .ok (.goto (-23), 3) := by decide +kernel
theorem dX3_find_28 : decode cX3_find 28 = .ok (.iconst (-1), 1) := by decide +kernel
theorem dX3_find_29 : decode cX3_find 29 = .ok (.ireturn, 1) := by decide +kernel
set_option maxRecDepth 20000 in
theorem ggX3_mayRemind_X3_find : GoodIn wsX3_mayRemind wsX3_find := goodIn_ca (goodIn_r _ [8, 9, 10, 11, 12, 13, 14, 15, 16, 17, 18, 19, 20, 21, 22, 23, 24, 25, 26, 27, 28, 29] (by decide +kernel) (by decide +kernel)) (goodIn_sub (fun _ h => List.mem_cons_of_mem _ (List.mem_append_right _ h)) (by decide +kernel))
set_option maxRecDepth 20000 in
theorem gX3_mayRemind_X3_find : GoodIn wsX3_mayRemind (wsV RX3 87 RX3 yX3_find wsX3_find) := goodIn_app (goodIn_of _ (by decide +kernel)) ggX3_mayRemind_X3_find
theorem dX3_mayRemind_0 : decode cX3_mayRemind 0 = .ok (.aload_n 0, 1) := by decide +kernel
theorem dX3_mayRemind_1 : decode cX3_mayRemind 1 = .ok (.getfield 9, 3) := by decide +kernel
theorem dX3_mayRemind_4 : decode cX3_mayRemind 4 = .ok (.iload_n 1, 1) := by decide +kernel
theorem dX3_mayRemind_5 : decode cX3_mayRemind 5 = .ok (.iaload, 1) := by decide +kernel
theorem dX3_mayRemind_6 : decode cX3_mayRemind 6 = .ok (.ifCond .le 26, 3) := by decide +kernel
theorem dX3_mayRemind_9 : decode cX3_mayRemind 9 = .ok (.aload_n 0, 1) := by decide +kernel
theorem dX3_mayRemind_10 : decode cX3_mayRemind 10 = .ok (.getfield 22, 3) := by decide +kernel
theorem dX3_mayRemind_13 : decode cX3_mayRemind 13 = .ok (.iload_n 1, 1) := by decide +kernel
theorem dX3_mayRemind_14 : decode cX3_mayRemind 14 = .ok (.baload, 1) := by decide +kernel
theorem dX3_mayRemind_15 : decode cX3_mayRemind 15 = .ok (.ifCond .ne 17, 3) := by decide +kernel
theorem dX3_mayRemind_18 : decode cX3_mayRemind 18 = .ok (.aload_n 0, 1) := by decide +kernel
theorem dX3_mayRemind_19 : decode cX3_mayRemind 19 = .ok (.getfield 16, 3) := by decide +kernel
theorem dX3_mayRemind_22 : decode cX3_mayRemind 22 = .ok (.iload_n 1, 1) := by decide +kernel
theorem dX3_mayRemind_23 : decode cX3_mayRemind 23 = .ok (.iaload, 1) := by decide +kernel
theorem dX3_mayRemind_24 : decode cX3_mayRemind 24 = .ok (.iconst 3, 1) := by decide +kernel
theorem dX3_mayRemind_25 : decode cX3_mayRemind 25 = .ok (.if_icmp .ge 7, 3) := by decide +kernel
theorem dX3_mayRemind_28 : decode cX3_mayRemind 28 = .ok (.iconst 1, 1) := by decide +kernel
theorem dX3_mayRemind_29 : decode cX3_mayRemind 29 = .ok (.goto 4, 3) := by decide +kernel
theorem dX3_mayRemind_32 : decode cX3_mayRemind 32 = .ok (.iconst 0, 1) := by decide +kernel
theorem dX3_mayRemind_33 : decode cX3_mayRemind 33 = .ok (.istore_n 2, 1) := by decide +kernel
theorem dX3_mayRemind_34 : decode cX3_mayRemind 34 = .ok (.iload_n 2, 1) := by decide +kernel
theorem dX3_mayRemind_35 : decode cX3_mayRemind 35 = .ok (.ifCond .eq 30, 3) := by decide +kernel
theorem dX3_mayRemind_38 : decode cX3_mayRemind 38 = .ok (.aload_n 0, 1) := by decide +kernel
theorem dX3_mayRemind_39 : decode cX3_mayRemind 39 = .ok (.sipush 1000, 3) := by decide +kernel
theorem dX3_mayRemind_42 : decode cX3_mayRemind 42 = .ok (.bipush 10, 2) := by decide +kernel
theorem dX3_mayRemind_44 : decode cX3_mayRemind 44 = .ok (.iload_n 1, 1) := by decide +kernel
theorem dX3_mayRemind_45 : decode cX3_mayRemind 45 = .ok (.imul, 1) := by decide +kernel
theorem dX3_mayRemind_46 : decode cX3_mayRemind 46 = .ok (.iadd, 1) := by decide +kernel
theorem dX3_mayRemind_47 : decode cX3_mayRemind 47 = .ok (.aload_n 0, 1) := by decide +kernel
theorem dX3_mayRemind_48 : decode cX3_mayRemind 48 = .ok (.getfield 16, 3) := by decide +kernel
theorem dX3_mayRemind_51 : decode cX3_mayRemind 51 = .ok (.iload_n 1, 1) := by decide +kernel
theorem dX3_mayRemind_52 : decode cX3_mayRemind 52 = .ok (.iaload, 1) := by decide +kernel
theorem dX3_mayRemind_53 : decode cX3_mayRemind 53 = .ok (.iadd, 1) := by decide +kernel
theorem dX3_mayRemind_54 : decode cX3_mayRemind 54 = .ok (.invokevirtual 87, 3) := by decide +kernel
theorem dX3_mayRemind_57 : decode cX3_mayRemind 57 = .ok (.iconst (-1), 1) := by decide +kernel
theorem dX3_mayRemind_58 : decode cX3_mayRemind 58 = .ok (.if_icmp .ne 7, 3) := by decide +kernel
theorem dX3_mayRemind_61 : decode cX3_mayRemind 61 = .ok (.iconst 1, 1) := by decide +kernel
theorem dX3_mayRemind_62 : decode cX3_mayRemind 62 = .ok (.goto 4, 3) := by decide +kernel
theorem dX3_mayRemind_65 : decode cX3_mayRemind 65 = .ok (.iconst 0, 1) := by decide +kernel
theorem dX3_mayRemind_66 : decode cX3_mayRemind 66 = .ok (.ireturn, 1) := by decide +kernel
theorem dX3_remindsFrom_0 : decode cX3_remindsFrom 0 = .ok (.aload_n 0, 1) := by decide +kernel
theorem dX3_remindsFrom_1 : decode cX3_remindsFrom 1 = .ok (.getfield 19, 3) := by decide +kernel
theorem dX3_remindsFrom_4 : decode cX3_remindsFrom 4 = .ok (.iload_n 1, 1) := by decide +kernel
theorem dX3_remindsFrom_5 : decode cX3_remindsFrom 5 = .ok (.iaload, 1) := by decide +kernel
theorem dX3_remindsFrom_6 : decode cX3_remindsFrom 6 = .ok (.aload_n 0, 1) := by decide +kernel
theorem dX3_remindsFrom_7 : decode cX3_remindsFrom 7 = .ok (.getfield 13, 3) := by decide +kernel
theorem dX3_remindsFrom_10 : decode cX3_remindsFrom 10 = .ok (.iload_n 1, 1) := by decide +kernel
theorem dX3_remindsFrom_11 : decode cX3_remindsFrom 11 = .ok (.iaload, 1) := by decide +kernel
theorem dX3_remindsFrom_12 : decode cX3_remindsFrom 12 = .ok (.bipush 7, 2) := by decide +kernel
theorem dX3_remindsFrom_14 : decode cX3_remindsFrom 14 = .ok (.aload_n 0, 1) := by decide +kernel
theorem dX3_remindsFrom_15 : decode cX3_remindsFrom 15 = .ok (.getfield 16, 3) := by decide +kernel
theorem dX3_remindsFrom_18 : decode cX3_remindsFrom 18 = .ok (.iload_n 1, 1) := by decide +kernel
theorem dX3_remindsFrom_19 : decode cX3_remindsFrom 19 = .ok (.iaload, 1) := by decide +kernel
theorem dX3_remindsFrom_20 : decode cX3_remindsFrom 20 = .ok (.imul, 1) := by decide +kernel
theorem dX3_remindsFrom_21 : decode cX3_remindsFrom 21 = .ok (.iadd, 1) := by decide +kernel
theorem dX3_remindsFrom_22 : decode cX3_remindsFrom 22 = .ok (.iconst 1, 1) := by decide +kernel
theorem dX3_remindsFrom_23 : decode cX3_remindsFrom 23 = .ok (.iadd, 1) := by decide +kernel
theorem dX3_remindsFrom_24 : decode cX3_remindsFrom 24 = .ok (.invokestatic 74, 3) := by decide +kernel
theorem dX3_remindsFrom_27 : decode cX3_remindsFrom 27 = .ok (.ireturn, 1) := by decide +kernel
set_option maxRecDepth 20000 in
theorem ggX3_nextReminder_X3_noCase : GoodIn wsX3_nextReminder wsX3_noCase := goodIn_r _ [11, 12, 1, 13, 14, 10, 15, 35, 36, 37, 38, 39, 40, 41, 42, 43, 44, 45, 46, 47, 48, 49, 50, 51, 52, 53] (by decide +kernel) (by decide +kernel)
set_option maxRecDepth 20000 in
theorem gX3_nextReminder_X3_noCase : GoodIn wsX3_nextReminder (wsV RX3 80 RX3 yX3_noCase wsX3_noCase) := goodIn_app (goodIn_of _ (by decide +kernel)) ggX3_nextReminder_X3_noCase
set_option maxRecDepth 20000 in
theorem ggX3_nextReminder_X3_mayRemind : GoodIn wsX3_nextReminder wsX3_mayRemind := goodIn_ca (goodIn_r _ [19, 20, 21, 22, 23, 24, 25, 10, 26, 27, 28, 35, 36, 37, 38, 39, 40, 41, 42, 43, 44, 45, 46, 47, 48, 49, 50, 51, 52, 53] (by decide +kernel) (by decide +kernel)) (goodIn_sub (fun _ h => List.mem_cons_of_mem _ (List.mem_append_right _ h)) (by decide +kernel))
set_option maxRecDepth 20000 in
theorem gX3_nextReminder_X3_mayRemind : GoodIn wsX3_nextReminder (wsV RX3 90 RX3 yX3_mayRemind wsX3_mayRemind) := goodIn_app (goodIn_of _ (by decide +kernel)) ggX3_nextReminder_X3_mayRemind
set_option maxRecDepth 20000 in
theorem ggX3_nextReminder_X3_remindsFrom : GoodIn wsX3_nextReminder wsX3_remindsFrom := goodIn_ca (goodIn_r _ [32, 33, 34, 22, 3, 4, 5, 6, 35, 36, 37, 38, 39, 40, 41, 42, 43, 44, 45, 46, 47, 48, 49, 50, 51, 52, 53] (by decide +kernel) (by decide +kernel)) (goodIn_sub (fun _ h => List.mem_cons_of_mem _ (List.mem_append_right _ h)) (by decide +kernel))
set_option maxRecDepth 20000 in
theorem gX3_nextReminder_X3_remindsFrom : GoodIn wsX3_nextReminder (wsV RX3 93 RX3 yX3_remindsFrom wsX3_remindsFrom) := goodIn_app (goodIn_of _ (by decide +kernel)) ggX3_nextReminder_X3_remindsFrom
theorem dX3_nextReminder_0 : decode cX3_nextReminder 0 = .ok (.aload_n 0, 1) := by decide +kernel
theorem dX3_nextReminder_1 : decode cX3_nextReminder 1 = .ok (.iload_n 1, 1) := by decide +kernel
theorem dX3_nextReminder_2 : decode cX3_nextReminder 2 = .ok (.invokevirtual 80, 3) := by decide +kernel
theorem dX3_nextReminder_5 : decode cX3_nextReminder 5 = .ok (.ifCond .eq 5, 3) := by decide +kernel
theorem dX3_nextReminder_8 : decode cX3_nextReminder 8 = .ok (.iconst 0, 1) := by decide +kernel
theorem dX3_nextReminder_9 : decode cX3_nextReminder 9 = .ok (.ireturn, 1) := by decide +kernel
theorem dX3_nextReminder_10 : decode cX3_nextReminder 10 = .ok (.aload_n 0, 1) := by decide +kernel
theorem dX3_nextReminder_11 : decode cX3_nextReminder 11 = .ok (.aload_n 0, 1) := by decide +kernel
theorem dX3_nextReminder_12 : decode cX3_nextReminder 12 = .ok (.iload_n 1, 1) := by decide +kernel
theorem dX3_nextReminder_13 : decode cX3_nextReminder 13 = .ok (.invokevirtual 90, 3) := by decide +kernel
theorem dX3_nextReminder_16 : decode cX3_nextReminder 16 = .ok (.ifCond .eq 7, 3) := by decide +kernel
theorem dX3_nextReminder_19 : decode cX3_nextReminder 19 = .ok (.iconst 0, 1) := by decide +kernel
theorem dX3_nextReminder_20 : decode cX3_nextReminder 20 = .ok (.goto 4, 3) := by decide +kernel
theorem dX3_nextReminder_23 : decode cX3_nextReminder 23 = .ok (.iconst 2, 1) := by decide +kernel
theorem dX3_nextReminder_24 : decode cX3_nextReminder 24 = .ok (.putfield 57, 3) := by decide +kernel
theorem dX3_nextReminder_27 : decode cX3_nextReminder 27 = .ok (.aload_n 0, 1) := by decide +kernel
theorem dX3_nextReminder_28 : decode cX3_nextReminder 28 = .ok (.getfield 57, 3) := by decide +kernel
theorem dX3_nextReminder_31 : decode cX3_nextReminder 31 = .ok (.ifCond .le 7, 3) := by decide +kernel
theorem dX3_nextReminder_34 : decode cX3_nextReminder 34 = .ok (.iconst 0, 1) := by decide +kernel
theorem dX3_nextReminder_35 : decode cX3_nextReminder 35 = .ok (.goto 17, 3) := by decide +kernel
theorem dX3_nextReminder_38 : decode cX3_nextReminder 38 = .ok (.aload_n 0, 1) := by decide +kernel
theorem dX3_nextReminder_39 : decode cX3_nextReminder 39 = .ok (.getfield 71, 3) := by decide +kernel
theorem dX3_nextReminder_42 : decode cX3_nextReminder 42 = .ok (.iconst 1, 1) := by decide +kernel
theorem dX3_nextReminder_43 : decode cX3_nextReminder 43 = .ok (.iadd, 1) := by decide +kernel
theorem dX3_nextReminder_44 : decode cX3_nextReminder 44 = .ok (.aload_n 0, 1) := by decide +kernel
theorem dX3_nextReminder_45 : decode cX3_nextReminder 45 = .ok (.iload_n 1, 1) := by decide +kernel
theorem dX3_nextReminder_46 : decode cX3_nextReminder 46 = .ok (.invokevirtual 93, 3) := by decide +kernel
theorem dX3_nextReminder_49 : decode cX3_nextReminder 49 = .ok (.invokestatic 74, 3) := by decide +kernel
theorem dX3_nextReminder_52 : decode cX3_nextReminder 52 = .ok (.ireturn, 1) := by decide +kernel
theorem dX3_adds_0 : decode cX3_adds 0 = .ok (.aload_n 0, 1) := by decide +kernel
theorem dX3_adds_1 : decode cX3_adds 1 = .ok (.getfield 26, 3) := by decide +kernel
theorem dX3_adds_4 : decode cX3_adds 4 = .ok (.aload_n 0, 1) := by decide +kernel
theorem dX3_adds_5 : decode cX3_adds 5 = .ok (.getfield 68, 3) := by decide +kernel
theorem dX3_adds_8 : decode cX3_adds 8 = .ok (.iload_n 1, 1) := by decide +kernel
theorem dX3_adds_9 : decode cX3_adds 9 = .ok (.iastore, 1) := by decide +kernel
theorem dX3_adds_10 : decode cX3_adds 10 = .ok (.aload_n 0, 1) := by decide +kernel
theorem dX3_adds_11 : decode cX3_adds 11 = .ok (.getfield 29, 3) := by decide +kernel
theorem dX3_adds_14 : decode cX3_adds 14 = .ok (.aload_n 0, 1) := by decide +kernel
theorem dX3_adds_15 : decode cX3_adds 15 = .ok (.getfield 68, 3) := by decide +kernel
theorem dX3_adds_18 : decode cX3_adds 18 = .ok (.iload_n 2, 1) := by decide +kernel
theorem dX3_adds_19 : decode cX3_adds 19 = .ok (.iastore, 1) := by decide +kernel
theorem dX3_adds_20 : decode cX3_adds 20 = .ok (.aload_n 0, 1) := by decide +kernel
theorem dX3_adds_21 : decode cX3_adds 21 = .ok (.getfield 32, 3) := by decide +kernel
theorem dX3_adds_24 : decode cX3_adds 24 = .ok (.aload_n 0, 1) := by decide +kernel
theorem dX3_adds_25 : decode cX3_adds 25 = .ok (.getfield 68, 3) := by decide +kernel
theorem dX3_adds_28 : decode cX3_adds 28 = .ok (.iload_n 3, 1) := by decide +kernel
theorem dX3_adds_29 : decode cX3_adds 29 = .ok (.castore, 1) := by decide +kernel
theorem dX3_adds_30 : decode cX3_adds 30 = .ok (.aload_n 0, 1) := by decide +kernel
theorem dX3_adds_31 : decode cX3_adds 31 = .ok (.getfield 36, 3) := by decide +kernel
theorem dX3_adds_34 : decode cX3_adds 34 = .ok (.aload_n 0, 1) := by decide +kernel
theorem dX3_adds_35 : decode cX3_adds 35 = .ok (.getfield 68, 3) := by decide +kernel
theorem dX3_adds_38 : decode cX3_adds 38 = .ok (.iload 4, 2) := by decide +kernel
theorem dX3_adds_40 : decode cX3_adds 40 = .ok (.iastore, 1) := by decide +kernel
theorem dX3_adds_41 : decode cX3_adds 41 = .ok (.aload_n 0, 1) := by decide +kernel
theorem dX3_adds_42 : decode cX3_adds 42 = .ok (.getfield 39, 3) := by decide +kernel
theorem dX3_adds_45 : decode cX3_adds 45 = .ok (.aload_n 0, 1) := by decide +kernel
theorem dX3_adds_46 : decode cX3_adds 46 = .ok (.getfield 68, 3) := by decide +kernel
theorem dX3_adds_49 : decode cX3_adds 49 = .ok (.iload 5, 2) := by decide +kernel
theorem dX3_adds_51 : decode cX3_adds 51 = .ok (.iastore, 1) := by decide +kernel
theorem dX3_adds_52 : decode cX3_adds 52 = .ok (.aload_n 0, 1) := by decide +kernel
theorem dX3_adds_53 : decode cX3_adds 53 = .ok (.getfield 42, 3) := by decide +kernel
theorem dX3_adds_56 : decode cX3_adds 56 = .ok (.aload_n 0, 1) := by decide +kernel
theorem dX3_adds_57 : decode cX3_adds 57 = .ok (.getfield 68, 3) := by decide +kernel
theorem dX3_adds_60 : decode cX3_adds 60 = .ok (.iload 6, 2) := by decide +kernel
theorem dX3_adds_62 : decode cX3_adds 62 = .ok (.iastore, 1) := by decide +kernel
theorem dX3_adds_63 : decode cX3_adds 63 = .ok (.aload_n 0, 1) := by decide +kernel
theorem dX3_adds_64 : decode cX3_adds 64 = .ok (.getfield 48, 3) := by decide +kernel
theorem dX3_adds_67 : decode cX3_adds 67 = .ok (.aload_n 0, 1) := by decide +kernel
theorem dX3_adds_68 : decode cX3_adds 68 = .ok (.getfield 68, 3) := by decide +kernel
theorem dX3_adds_71 : decode cX3_adds 71 = .ok (.iload 4, 2) := by decide +kernel
theorem dX3_adds_73 : decode cX3_adds 73 = .ok (.aload_n 0, 1) := by decide +kernel
theorem dX3_adds_74 : decode cX3_adds 74 = .ok (.getfield 61, 3) := by decide +kernel
theorem dX3_adds_77 : decode cX3_adds 77 = .ok (.if_icmp .ge 8, 3) := by decide +kernel
theorem dX3_adds_80 : decode cX3_adds 80 = .ok (.bipush 119, 2) := by decide +kernel
theorem dX3_adds_82 : decode cX3_adds 82 = .ok (.goto 5, 3) := by decide +kernel
theorem dX3_adds_85 : decode cX3_adds 85 = .ok (.bipush 104, 2) := by decide +kernel
theorem dX3_adds_87 : decode cX3_adds 87 = .ok (.castore, 1) := by decide +kernel
theorem dX3_adds_88 : decode cX3_adds 88 = .ok (.aload_n 0, 1) := by decide +kernel
theorem dX3_adds_89 : decode cX3_adds 89 = .ok (.dup, 1) := by decide +kernel
theorem dX3_adds_90 : decode cX3_adds 90 = .ok (.getfield 68, 3) := by decide +kernel
theorem dX3_adds_93 : decode cX3_adds 93 = .ok (.iconst 1, 1) := by decide +kernel
theorem dX3_adds_94 : decode cX3_adds 94 = .ok (.iadd, 1) := by decide +kernel
theorem dX3_adds_95 : decode cX3_adds 95 = .ok (.putfield 68, 3) := by decide +kernel
theorem dX3_adds_98 : decode cX3_adds 98 = .ok (.aload_n 0, 1) := by decide +kernel
theorem dX3_adds_99 : decode cX3_adds 99 = .ok (.getfield 68, 3) := by decide +kernel
theorem dX3_adds_102 : decode cX3_adds 102 = .ok (.iconst 1, 1) := by decide +kernel
theorem dX3_adds_103 : decode cX3_adds 103 = .ok (.isub, 1) := by decide +kernel
theorem dX3_adds_104 : decode cX3_adds 104 = .ok (.ireturn, 1) := by decide +kernel
set_option maxRecDepth 20000 in
theorem ggX3_post_X3_in : GoodIn wsX3_post wsX3_in := goodIn_r _ [7] (by decide +kernel) (by decide +kernel)
set_option maxRecDepth 20000 in
theorem gX3_post_X3_in : GoodIn wsX3_post (va_wsS RX3 64 yX3_in wsX3_in) := goodIn_app (goodIn_of _ (by decide +kernel)) ggX3_post_X3_in
set_option maxRecDepth 20000 in
theorem ggX3_post_X3_raises : GoodIn wsX3_post wsX3_raises := goodIn_r _ [11, 2, 28, 29, 30, 31, 32, 33, 34, 35, 36, 37, 38, 39, 40, 41, 42, 43, 44, 45, 46] (by decide +kernel) (by decide +kernel)
set_option maxRecDepth 20000 in
theorem gX3_post_X3_raises : GoodIn wsX3_post (wsV RX3 96 RX3 yX3_raises wsX3_raises) := goodIn_app (goodIn_of _ (by decide +kernel)) ggX3_post_X3_raises
set_option maxRecDepth 20000 in
theorem ggX3_post_X3_find : GoodIn wsX3_post wsX3_find := goodIn_ca (goodIn_r _ [15, 1, 16, 28, 29, 30, 31, 32, 33, 34, 35, 36, 37, 38, 39, 40, 41, 42, 43, 44, 45, 46] (by decide +kernel) (by decide +kernel)) (goodIn_sub (fun _ h => List.mem_cons_of_mem _ (List.mem_append_right _ h)) (by decide +kernel))
set_option maxRecDepth 20000 in
theorem gX3_post_X3_find : GoodIn wsX3_post (wsV RX3 87 RX3 yX3_find wsX3_find) := goodIn_app (goodIn_of _ (by decide +kernel)) ggX3_post_X3_find
set_option maxRecDepth 20000 in
theorem ggX3_post_X3_adds : GoodIn wsX3_post wsX3_adds := goodIn_ca (goodIn_r _ [20, 21, 1, 16, 22, 23, 24, 25, 26, 27, 28, 29, 30, 31, 32, 33, 34, 35, 36, 37, 38, 39, 40, 41, 42, 43, 44, 45, 46] (by decide +kernel) (by decide +kernel)) (goodIn_sub (fun _ h => List.mem_cons_of_mem _ (List.mem_append_right _ h)) (by decide +kernel))
set_option maxRecDepth 20000 in
theorem gX3_post_X3_adds : GoodIn wsX3_post (wsV RX3 99 RX3 yX3_adds wsX3_adds) := goodIn_app (goodIn_of _ (by decide +kernel)) ggX3_post_X3_adds
theorem dX3_post_0 : decode cX3_post 0 = .ok (.iload_n 1, 1) := by decide +kernel
theorem dX3_post_1 : decode cX3_post 1 = .ok (.iconst 0, 1) := by decide +kernel
theorem dX3_post_2 : decode cX3_post 2 = .ok (.iconst 2, 1) := by decide +kernel
theorem dX3_post_3 : decode cX3_post 3 = .ok (.invokestatic 64, 3) := by decide +kernel
theorem dX3_post_6 : decode cX3_post 6 = .ok (.ifCond .eq 64, 3) := by decide +kernel
theorem dX3_post_9 : decode cX3_post 9 = .ok (.iload_n 2, 1) := by decide +kernel
theorem dX3_post_10 : decode cX3_post 10 = .ok (.iconst 0, 1) := by decide +kernel
theorem dX3_post_11 : decode cX3_post 11 = .ok (.sipush 999, 3) := by decide +kernel
theorem dX3_post_14 : decode cX3_post 14 = .ok (.invokestatic 64, 3) := by decide +kernel
theorem dX3_post_17 : decode cX3_post 17 = .ok (.ifCond .eq 53, 3) := by decide +kernel
theorem dX3_post_20 : decode cX3_post 20 = .ok (.iload_n 3, 1) := by decide +kernel
theorem dX3_post_21 : decode cX3_post 21 = .ok (.bipush 112, 2) := by decide +kernel
theorem dX3_post_23 : decode cX3_post 23 = .ok (.if_icmp .eq 9, 3) := by decide +kernel
theorem dX3_post_26 : decode cX3_post 26 = .ok (.iload_n 3, 1) := by decide +kernel
theorem dX3_post_27 : decode cX3_post 27 = .ok (.bipush 110, 2) := by decide +kernel
theorem dX3_post_29 : decode cX3_post 29 = .ok (.if_icmp .ne 41, 3) := by decide +kernel
theorem dX3_post_32 : decode cX3_post 32 = .ok (.iload 4, 2) := by decide +kernel
theorem dX3_post_34 : decode cX3_post 34 = .ok (.iconst 0, 1) := by decide +kernel
theorem dX3_post_35 : decode cX3_post 35 = .ok (.bipush 7, 2) := by decide +kernel
theorem dX3_post_37 : decode cX3_post 37 = .ok (.invokestatic 64, 3) := by decide +kernel
theorem dX3_post_40 : decode cX3_post 40 = .ok (.ifCond .eq 30, 3) := by decide +kernel
theorem dX3_post_43 : decode cX3_post 43 = .ok (.iload 5, 2) := by decide +kernel
theorem dX3_post_45 : decode cX3_post 45 = .ok (.iconst 0, 1) := by decide +kernel
theorem dX3_post_46 : decode cX3_post 46 = .ok (.sipush 9999, 3) := by decide +kernel
theorem dX3_post_49 : decode cX3_post 49 = .ok (.invokestatic 64, 3) := by decide +kernel
theorem dX3_post_52 : decode cX3_post 52 = .ok (.ifCond .eq 18, 3) := by decide +kernel
theorem dX3_post_55 : decode cX3_post 55 = .ok (.iload 6, 2) := by decide +kernel
theorem dX3_post_57 : decode cX3_post 57 = .ok (.iconst 0, 1) := by decide +kernel
theorem dX3_post_58 : decode cX3_post 58 = .ok (.bipush 30, 2) := by decide +kernel
theorem dX3_post_60 : decode cX3_post 60 = .ok (.invokestatic 64, 3) := by decide +kernel
theorem dX3_post_63 : decode cX3_post 63 = .ok (.ifCond .eq 7, 3) := by decide +kernel
theorem dX3_post_66 : decode cX3_post 66 = .ok (.iconst 1, 1) := by decide +kernel
theorem dX3_post_67 : decode cX3_post 67 = .ok (.goto 4, 3) := by decide +kernel
theorem dX3_post_70 : decode cX3_post 70 = .ok (.iconst 0, 1) := by decide +kernel
theorem dX3_post_71 : decode cX3_post 71 = .ok (.istore 7, 2) := by decide +kernel
theorem dX3_post_73 : decode cX3_post 73 = .ok (.iload 7, 2) := by decide +kernel
theorem dX3_post_75 : decode cX3_post 75 = .ok (.ifCond .ne 9, 3) := by decide +kernel
theorem dX3_post_78 : decode cX3_post 78 = .ok (.aload_n 0, 1) := by decide +kernel
theorem dX3_post_79 : decode cX3_post 79 = .ok (.iconst 1, 1) := by decide +kernel
theorem dX3_post_80 : decode cX3_post 80 = .ok (.invokevirtual 96, 3) := by decide +kernel
theorem dX3_post_83 : decode cX3_post 83 = .ok (.ireturn, 1) := by decide +kernel
theorem dX3_post_84 : decode cX3_post 84 = .ok (.aload_n 0, 1) := by decide +kernel
theorem dX3_post_85 : decode cX3_post 85 = .ok (.iload_n 2, 1) := by decide +kernel
theorem dX3_post_86 : decode cX3_post 86 = .ok (.invokevirtual 87, 3) := by decide +kernel
theorem dX3_post_89 : decode cX3_post 89 = .ok (.istore 8, 2) := by decide +kernel
theorem dX3_post_91 : decode cX3_post 91 = .ok (.aload_n 0, 1) := by decide +kernel
theorem dX3_post_92 : decode cX3_post 92 = .ok (.iload 8, 2) := by decide +kernel
theorem dX3_post_94 : decode cX3_post 94 = .ok (.iconst (-1), 1) := by decide +kernel
theorem dX3_post_95 : decode cX3_post 95 = .ok (.if_icmp .ne 16, 3) := by decide +kernel
theorem dX3_post_98 : decode cX3_post 98 = .ok (.aload_n 0, 1) := by decide +kernel
theorem dX3_post_99 : decode cX3_post 99 = .ok (.getfield 68, 3) := by decide +kernel
theorem dX3_post_102 : decode cX3_post 102 = .ok (.bipush 80, 2) := by decide +kernel
theorem dX3_post_104 : decode cX3_post 104 = .ok (.if_icmp .ne 7, 3) := by decide +kernel
theorem dX3_post_107 : decode cX3_post 107 = .ok (.iconst 2, 1) := by decide +kernel
theorem dX3_post_108 : decode cX3_post 108 = .ok (.goto 4, 3) := by decide +kernel
theorem dX3_post_111 : decode cX3_post 111 = .ok (.iconst 0, 1) := by decide +kernel
theorem dX3_post_112 : decode cX3_post 112 = .ok (.putfield 57, 3) := by decide +kernel
theorem dX3_post_115 : decode cX3_post 115 = .ok (.aload_n 0, 1) := by decide +kernel
theorem dX3_post_116 : decode cX3_post 116 = .ok (.getfield 57, 3) := by decide +kernel
theorem dX3_post_119 : decode cX3_post 119 = .ok (.ifCond .le 5, 3) := by decide +kernel
theorem dX3_post_122 : decode cX3_post 122 = .ok (.iconst 0, 1) := by decide +kernel
theorem dX3_post_123 : decode cX3_post 123 = .ok (.ireturn, 1) := by decide +kernel
theorem dX3_post_124 : decode cX3_post 124 = .ok (.iload 8, 2) := by decide +kernel
theorem dX3_post_126 : decode cX3_post 126 = .ok (.iconst (-1), 1) := by decide +kernel
theorem dX3_post_127 : decode cX3_post 127 = .ok (.if_icmp .ne 24, 3) := by decide +kernel
theorem dX3_post_130 : decode cX3_post 130 = .ok (.aload_n 0, 1) := by decide +kernel
theorem dX3_post_131 : decode cX3_post 131 = .ok (.iload_n 1, 1) := by decide +kernel
theorem dX3_post_132 : decode cX3_post 132 = .ok (.iload_n 2, 1) := by decide +kernel
theorem dX3_post_133 : decode cX3_post 133 = .ok (.iload_n 3, 1) := by decide +kernel
theorem dX3_post_134 : decode cX3_post 134 = .ok (.iload 4, 2) := by decide +kernel
theorem dX3_post_136 : decode cX3_post 136 = .ok (.iload 5, 2) := by decide +kernel
theorem dX3_post_138 : decode cX3_post 138 = .ok (.aload_n 0, 1) := by decide +kernel
theorem dX3_post_139 : decode cX3_post 139 = .ok (.getfield 71, 3) := by decide +kernel
theorem dX3_post_142 : decode cX3_post 142 = .ok (.iload 6, 2) := by decide +kernel
theorem dX3_post_144 : decode cX3_post 144 = .ok (.iadd, 1) := by decide +kernel
theorem dX3_post_145 : decode cX3_post 145 = .ok (.invokevirtual 99, 3) := by decide +kernel
theorem dX3_post_148 : decode cX3_post 148 = .ok (.goto 5, 3) := by decide +kernel
theorem dX3_post_151 : decode cX3_post 151 = .ok (.iload 8, 2) := by decide +kernel
theorem dX3_post_153 : decode cX3_post 153 = .ok (.ireturn, 1) := by decide +kernel
set_option maxRecDepth 20000 in
theorem ggX3_withKey_X3_find : GoodIn wsX3_withKey wsX3_find := goodIn_ca (goodIn_r _ [6, 7, 8, 9, 10, 11, 12, 13, 14, 15, 16, 17, 18, 19, 20, 21, 22, 23, 24, 25, 26, 27] (by decide +kernel) (by decide +kernel)) (goodIn_sub (fun _ h => List.mem_cons_of_mem _ (List.mem_append_right _ h)) (by decide +kernel))
set_option maxRecDepth 20000 in
theorem gX3_withKey_X3_find : GoodIn wsX3_withKey (wsV RX3 87 RX3 yX3_find wsX3_find) := goodIn_app (goodIn_of _ (by decide +kernel)) ggX3_withKey_X3_find
theorem dX3_withKey_0 : decode cX3_withKey 0 = .ok (.aload_n 0, 1) := by decide +kernel
theorem dX3_withKey_1 : decode cX3_withKey 1 = .ok (.iload_n 1, 1) := by decide +kernel
theorem dX3_withKey_2 : decode cX3_withKey 2 = .ok (.invokevirtual 87, 3) := by decide +kernel
theorem dX3_withKey_5 : decode cX3_withKey 5 = .ok (.istore_n 2, 1) := by decide +kernel
theorem dX3_withKey_6 : decode cX3_withKey 6 = .ok (.aload_n 0, 1) := by decide +kernel
theorem dX3_withKey_7 : decode cX3_withKey 7 = .ok (.iload_n 2, 1) := by decide +kernel
theorem dX3_withKey_8 : decode cX3_withKey 8 = .ok (.iconst (-1), 1) := by decide +kernel
theorem dX3_withKey_9 : decode cX3_withKey 9 = .ok (.if_icmp .ne 7, 3) := by decide +kernel
theorem dX3_withKey_12 : decode cX3_withKey 12 = .ok (.iconst 1, 1) := by decide +kernel
theorem dX3_withKey_13 : decode cX3_withKey 13 = .ok (.goto 4, 3) := by decide +kernel
theorem dX3_withKey_16 : decode cX3_withKey 16 = .ok (.iconst 0, 1) := by decide +kernel
theorem dX3_withKey_17 : decode cX3_withKey 17 = .ok (.putfield 57, 3) := by decide +kernel
theorem dX3_withKey_20 : decode cX3_withKey 20 = .ok (.aload_n 0, 1) := by decide +kernel
theorem dX3_withKey_21 : decode cX3_withKey 21 = .ok (.getfield 57, 3) := by decide +kernel
theorem dX3_withKey_24 : decode cX3_withKey 24 = .ok (.ifCond .le 7, 3) := by decide +kernel
theorem dX3_withKey_27 : decode cX3_withKey 27 = .ok (.iconst 0, 1) := by decide +kernel
theorem dX3_withKey_28 : decode cX3_withKey 28 = .ok (.goto 4, 3) := by decide +kernel
theorem dX3_withKey_31 : decode cX3_withKey 31 = .ok (.iload_n 2, 1) := by decide +kernel
theorem dX3_withKey_32 : decode cX3_withKey 32 = .ok (.ireturn, 1) := by decide +kernel
set_option maxRecDepth 20000 in
theorem ggX3_state_X3_noMessage : GoodIn wsX3_state wsX3_noMessage := goodIn_r _ [6, 7, 8, 9, 10, 5, 11, 12, 13, 14, 15, 16, 17, 18, 19, 20, 21, 22, 23, 24, 25, 26, 27, 28, 29, 30] (by decide +kernel) (by decide +kernel)
set_option maxRecDepth 20000 in
theorem gX3_state_X3_noMessage : GoodIn wsX3_state (wsV RX3 103 RX3 yX3_noMessage wsX3_noMessage) := goodIn_app (goodIn_of _ (by decide +kernel)) ggX3_state_X3_noMessage
theorem dX3_state_0 : decode cX3_state 0 = .ok (.aload_n 0, 1) := by decide +kernel
theorem dX3_state_1 : decode cX3_state 1 = .ok (.iload_n 1, 1) := by decide +kernel
theorem dX3_state_2 : decode cX3_state 2 = .ok (.invokevirtual 103, 3) := by decide +kernel
theorem dX3_state_5 : decode cX3_state 5 = .ok (.ifCond .eq 8, 3) := by decide +kernel
theorem dX3_state_8 : decode cX3_state 8 = .ok (.bipush 32, 2) := by decide +kernel
theorem dX3_state_10 : decode cX3_state 10 = .ok (.goto 9, 3) := by decide +kernel
theorem dX3_state_13 : decode cX3_state 13 = .ok (.aload_n 0, 1) := by decide +kernel
theorem dX3_state_14 : decode cX3_state 14 = .ok (.getfield 48, 3) := by decide +kernel
theorem dX3_state_17 : decode cX3_state 17 = .ok (.iload_n 1, 1) := by decide +kernel
theorem dX3_state_18 : decode cX3_state 18 = .ok (.caload, 1) := by decide +kernel
theorem dX3_state_19 : decode cX3_state 19 = .ok (.ireturn, 1) := by decide +kernel
set_option maxRecDepth 20000 in
theorem ggX3_kind_X3_noMessage : GoodIn wsX3_kind wsX3_noMessage := goodIn_r _ [6, 7, 8, 9, 10, 5, 11, 12, 13, 14, 15, 16, 17, 18, 19, 20, 21, 22, 23, 24, 25, 26, 27, 28, 29, 30] (by decide +kernel) (by decide +kernel)
set_option maxRecDepth 20000 in
theorem gX3_kind_X3_noMessage : GoodIn wsX3_kind (wsV RX3 103 RX3 yX3_noMessage wsX3_noMessage) := goodIn_app (goodIn_of _ (by decide +kernel)) ggX3_kind_X3_noMessage
theorem dX3_kind_0 : decode cX3_kind 0 = .ok (.aload_n 0, 1) := by decide +kernel
theorem dX3_kind_1 : decode cX3_kind 1 = .ok (.iload_n 1, 1) := by decide +kernel
theorem dX3_kind_2 : decode cX3_kind 2 = .ok (.invokevirtual 103, 3) := by decide +kernel
theorem dX3_kind_5 : decode cX3_kind 5 = .ok (.ifCond .eq 8, 3) := by decide +kernel
theorem dX3_kind_8 : decode cX3_kind 8 = .ok (.bipush 32, 2) := by decide +kernel
theorem dX3_kind_10 : decode cX3_kind 10 = .ok (.goto 9, 3) := by decide +kernel
theorem dX3_kind_13 : decode cX3_kind 13 = .ok (.aload_n 0, 1) := by decide +kernel
theorem dX3_kind_14 : decode cX3_kind 14 = .ok (.getfield 32, 3) := by decide +kernel
theorem dX3_kind_17 : decode cX3_kind 17 = .ok (.iload_n 1, 1) := by decide +kernel
theorem dX3_kind_18 : decode cX3_kind 18 = .ok (.caload, 1) := by decide +kernel
theorem dX3_kind_19 : decode cX3_kind 19 = .ok (.ireturn, 1) := by decide +kernel
set_option maxRecDepth 20000 in
theorem ggX3_tries_X3_noMessage : GoodIn wsX3_tries wsX3_noMessage := goodIn_r _ [6, 7, 8, 9, 10, 5, 11, 12, 13, 14, 15, 16, 17, 18, 19, 20, 21, 22, 23, 24, 25, 26, 27, 28, 29, 30] (by decide +kernel) (by decide +kernel)
set_option maxRecDepth 20000 in
theorem gX3_tries_X3_noMessage : GoodIn wsX3_tries (wsV RX3 103 RX3 yX3_noMessage wsX3_noMessage) := goodIn_app (goodIn_of _ (by decide +kernel)) ggX3_tries_X3_noMessage
theorem dX3_tries_0 : decode cX3_tries 0 = .ok (.aload_n 0, 1) := by decide +kernel
theorem dX3_tries_1 : decode cX3_tries 1 = .ok (.iload_n 1, 1) := by decide +kernel
theorem dX3_tries_2 : decode cX3_tries 2 = .ok (.invokevirtual 103, 3) := by decide +kernel
theorem dX3_tries_5 : decode cX3_tries 5 = .ok (.ifCond .eq 7, 3) := by decide +kernel
theorem dX3_tries_8 : decode cX3_tries 8 = .ok (.iconst 0, 1) := by decide +kernel
theorem dX3_tries_9 : decode cX3_tries 9 = .ok (.goto 9, 3) := by decide +kernel
theorem dX3_tries_12 : decode cX3_tries 12 = .ok (.aload_n 0, 1) := by decide +kernel
theorem dX3_tries_13 : decode cX3_tries 13 = .ok (.getfield 45, 3) := by decide +kernel
theorem dX3_tries_16 : decode cX3_tries 16 = .ok (.iload_n 1, 1) := by decide +kernel
theorem dX3_tries_17 : decode cX3_tries 17 = .ok (.iaload, 1) := by decide +kernel
theorem dX3_tries_18 : decode cX3_tries 18 = .ok (.ireturn, 1) := by decide +kernel
set_option maxRecDepth 20000 in
theorem ggX3_readyAt_X3_noMessage : GoodIn wsX3_readyAt wsX3_noMessage := goodIn_r _ [8, 9, 2, 10, 11, 7, 12, 13, 14, 15, 16, 17, 18, 19, 20, 21, 22, 23, 24, 25, 26, 27, 28, 29, 30, 31] (by decide +kernel) (by decide +kernel)
set_option maxRecDepth 20000 in
theorem gX3_readyAt_X3_noMessage : GoodIn wsX3_readyAt (wsV RX3 103 RX3 yX3_noMessage wsX3_noMessage) := goodIn_app (goodIn_of _ (by decide +kernel)) ggX3_readyAt_X3_noMessage
theorem dX3_readyAt_0 : decode cX3_readyAt 0 = .ok (.aload_n 0, 1) := by decide +kernel
theorem dX3_readyAt_1 : decode cX3_readyAt 1 = .ok (.iload_n 1, 1) := by decide +kernel
theorem dX3_readyAt_2 : decode cX3_readyAt 2 = .ok (.invokevirtual 103, 3) := by decide +kernel
theorem dX3_readyAt_5 : decode cX3_readyAt 5 = .ok (.ifCond .eq 5, 3) := by decide +kernel
theorem dX3_readyAt_8 : decode cX3_readyAt 8 = .ok (.iconst 0, 1) := by decide +kernel
theorem dX3_readyAt_9 : decode cX3_readyAt 9 = .ok (.ireturn, 1) := by decide +kernel
theorem dX3_readyAt_10 : decode cX3_readyAt 10 = .ok (.aload_n 0, 1) := by decide +kernel
theorem dX3_readyAt_11 : decode cX3_readyAt 11 = .ok (.aload_n 0, 1) := by decide +kernel
theorem dX3_readyAt_12 : decode cX3_readyAt 12 = .ok (.getfield 48, 3) := by decide +kernel
theorem dX3_readyAt_15 : decode cX3_readyAt 15 = .ok (.iload_n 1, 1) := by decide +kernel
theorem dX3_readyAt_16 : decode cX3_readyAt 16 = .ok (.caload, 1) := by decide +kernel
theorem dX3_readyAt_17 : decode cX3_readyAt 17 = .ok (.bipush 119, 2) := by decide +kernel
theorem dX3_readyAt_19 : decode cX3_readyAt 19 = .ok (.if_icmp .ne 7, 3) := by decide +kernel
theorem dX3_readyAt_22 : decode cX3_readyAt 22 = .ok (.iconst 0, 1) := by decide +kernel
theorem dX3_readyAt_23 : decode cX3_readyAt 23 = .ok (.goto 4, 3) := by decide +kernel
theorem dX3_readyAt_26 : decode cX3_readyAt 26 = .ok (.iconst 2, 1) := by decide +kernel
theorem dX3_readyAt_27 : decode cX3_readyAt 27 = .ok (.putfield 57, 3) := by decide +kernel
theorem dX3_readyAt_30 : decode cX3_readyAt 30 = .ok (.aload_n 0, 1) := by decide +kernel
theorem dX3_readyAt_31 : decode cX3_readyAt 31 = .ok (.getfield 57, 3) := by decide +kernel
theorem dX3_readyAt_34 : decode cX3_readyAt 34 = .ok (.ifCond .le 7, 3) := by decide +kernel
theorem dX3_readyAt_37 : decode cX3_readyAt 37 = .ok (.iconst 0, 1) := by decide +kernel
theorem dX3_readyAt_38 : decode cX3_readyAt 38 = .ok (.goto 9, 3) := by decide +kernel
theorem dX3_readyAt_41 : decode cX3_readyAt 41 = .ok (.aload_n 0, 1) := by decide +kernel
theorem dX3_readyAt_42 : decode cX3_readyAt 42 = .ok (.getfield 42, 3) := by decide +kernel
theorem dX3_readyAt_45 : decode cX3_readyAt 45 = .ok (.iload_n 1, 1) := by decide +kernel
theorem dX3_readyAt_46 : decode cX3_readyAt 46 = .ok (.iaload, 1) := by decide +kernel
theorem dX3_readyAt_47 : decode cX3_readyAt 47 = .ok (.ireturn, 1) := by decide +kernel
theorem dX3_isReady_0 : decode cX3_isReady 0 = .ok (.aload_n 0, 1) := by decide +kernel
theorem dX3_isReady_1 : decode cX3_isReady 1 = .ok (.getfield 26, 3) := by decide +kernel
theorem dX3_isReady_4 : decode cX3_isReady 4 = .ok (.iload_n 1, 1) := by decide +kernel
theorem dX3_isReady_5 : decode cX3_isReady 5 = .ok (.iaload, 1) := by decide +kernel
theorem dX3_isReady_6 : decode cX3_isReady 6 = .ok (.iload_n 2, 1) := by decide +kernel
theorem dX3_isReady_7 : decode cX3_isReady 7 = .ok (.if_icmp .ne 31, 3) := by decide +kernel
theorem dX3_isReady_10 : decode cX3_isReady 10 = .ok (.aload_n 0, 1) := by decide +kernel
theorem dX3_isReady_11 : decode cX3_isReady 11 = .ok (.getfield 48, 3) := by decide +kernel
theorem dX3_isReady_14 : decode cX3_isReady 14 = .ok (.iload_n 1, 1) := by decide +kernel
theorem dX3_isReady_15 : decode cX3_isReady 15 = .ok (.caload, 1) := by decide +kernel
theorem dX3_isReady_16 : decode cX3_isReady 16 = .ok (.bipush 119, 2) := by decide +kernel
theorem dX3_isReady_18 : decode cX3_isReady 18 = .ok (.if_icmp .ne 20, 3) := by decide +kernel
theorem dX3_isReady_21 : decode cX3_isReady 21 = .ok (.aload_n 0, 1) := by decide +kernel
theorem dX3_isReady_22 : decode cX3_isReady 22 = .ok (.getfield 42, 3) := by decide +kernel
theorem dX3_isReady_25 : decode cX3_isReady 25 = .ok (.iload_n 1, 1) := by decide +kernel
theorem dX3_isReady_26 : decode cX3_isReady 26 = .ok (.iaload, 1) := by decide +kernel
theorem dX3_isReady_27 : decode cX3_isReady 27 = .ok (.aload_n 0, 1) := by decide +kernel
theorem dX3_isReady_28 : decode cX3_isReady 28 = .ok (.getfield 71, 3) := by decide +kernel
theorem dX3_isReady_31 : decode cX3_isReady 31 = .ok (.if_icmp .gt 7, 3) := by decide +kernel
theorem dX3_isReady_34 : decode cX3_isReady 34 = .ok (.iconst 1, 1) := by decide +kernel
theorem dX3_isReady_35 : decode cX3_isReady 35 = .ok (.goto 4, 3) := by decide +kernel
theorem dX3_isReady_38 : decode cX3_isReady 38 = .ok (.iconst 0, 1) := by decide +kernel
theorem dX3_isReady_39 : decode cX3_isReady 39 = .ok (.ireturn, 1) := by decide +kernel
set_option maxRecDepth 20000 in
theorem ggX3_readyIn_X3_isReady : GoodIn wsX3_readyIn wsX3_isReady := goodIn_ca (goodIn_r _ [6, 7, 8, 9, 10, 11, 12, 13, 14, 15, 16, 17, 18, 19, 20, 21, 22, 23, 24, 25, 26, 27, 28, 29] (by decide +kernel) (by decide +kernel)) (goodIn_sub (fun _ h => List.mem_cons_of_mem _ (List.mem_append_right _ h)) (by decide +kernel))
set_option maxRecDepth 20000 in
theorem gX3_readyIn_X3_isReady : GoodIn wsX3_readyIn (wsV RX3 106 RX3 yX3_isReady wsX3_isReady) := goodIn_app (goodIn_of _ (by decide +kernel)) ggX3_readyIn_X3_isReady
theorem dX3_readyIn_0 : decode cX3_readyIn 0 = .ok (.iconst 0, 1) := by decide +kernel
theorem dX3_readyIn_1 : decode cX3_readyIn 1 = .ok (.istore_n 2, 1) := by decide +kernel
theorem dX3_readyIn_2 : decode cX3_readyIn 2 = .ok (.iconst 0, 1) := by decide +kernel
theorem dX3_readyIn_3 : decode cX3_readyIn 3 = .ok (.istore_n 3, 1) := by decide +kernel
theorem dX3_readyIn_4 : decode cX3_readyIn 4 = .ok (.iload_n 3, 1) := by decide +kernel
theorem dX3_readyIn_5 : decode cX3_readyIn 5 = .ok (.aload_n 0, 1) := by decide +kernel
theorem dX3_readyIn_6 : decode cX3_readyIn 6 = .ok (.getfield 68, 3) := by decide +kernel
theorem dX3_readyIn_9 : decode cX3_readyIn 9 = .ok (.if_icmp .ge 26, 3) := by decide +kernel
theorem dX3_readyIn_12 : decode cX3_readyIn 12 = .ok (.iload_n 2, 1) := by decide +kernel
theorem dX3_readyIn_13 : decode cX3_readyIn 13 = .ok (.aload_n 0, 1) := by decide +kernel
theorem dX3_readyIn_14 : decode cX3_readyIn 14 = .ok (.iload_n 3, 1) := by decide +kernel
theorem dX3_readyIn_15 : decode cX3_readyIn 15 = .ok (.iload_n 1, 1) := by decide +kernel
theorem dX3_readyIn_16 : decode cX3_readyIn 16 = .ok (.invokevirtual 106, 3) := by decide +kernel
theorem dX3_readyIn_19 : decode cX3_readyIn 19 = .ok (.ifCond .eq 7, 3) := by decide +kernel
theorem dX3_readyIn_22 : decode cX3_readyIn 22 = .ok (.iconst 1, 1) := by decide +kernel
theorem dX3_readyIn_23 : decode cX3_readyIn 23 = .ok (.goto 4, 3) := by decide +kernel
theorem dX3_readyIn_26 : decode cX3_readyIn 26 = .ok (.iconst 0, 1) := by decide +kernel
theorem dX3_readyIn_27 : decode cX3_readyIn 27 = .ok (.iadd, 1) := by decide +kernel
theorem dX3_readyIn_28 : decode cX3_readyIn 28 = .ok (.istore_n 2, 1) := by decide +kernel
theorem dX3_readyIn_29 : decode cX3_readyIn 29 = .ok (.iinc 3 1, 3) := by decide +kernel
theorem dX3_readyIn_32 : decode cX3_readyIn 32 = .ok (.goto (-28), 3) := by decide +kernel
theorem dX3_readyIn_35 : decode cX3_readyIn 35 = .ok (.iload_n 2, 1) := by decide +kernel
theorem dX3_readyIn_36 : decode cX3_readyIn 36 = .ok (.ireturn, 1) := by decide +kernel
set_option maxRecDepth 20000 in
theorem ggX3_ready_X3_in : GoodIn wsX3_ready wsX3_in := goodIn_r _ [5] (by decide +kernel) (by decide +kernel)
set_option maxRecDepth 20000 in
theorem gX3_ready_X3_in : GoodIn wsX3_ready (va_wsS RX3 64 yX3_in wsX3_in) := goodIn_app (goodIn_of _ (by decide +kernel)) ggX3_ready_X3_in
set_option maxRecDepth 20000 in
theorem ggX3_ready_X3_readyIn : GoodIn wsX3_ready wsX3_readyIn := goodIn_ca (goodIn_r _ [9, 10, 11, 12, 13, 4, 14, 15, 16, 17, 18, 19, 20, 21, 22, 23, 24, 25, 26, 27, 28, 29, 30, 31, 32, 33, 34, 35, 36, 37] (by decide +kernel) (by decide +kernel)) (goodIn_sub (fun _ h => List.mem_cons_of_mem _ (List.mem_append_right _ h)) (by decide +kernel))
set_option maxRecDepth 20000 in
theorem gX3_ready_X3_readyIn : GoodIn wsX3_ready (wsV RX3 110 RX3 yX3_readyIn wsX3_readyIn) := goodIn_app (goodIn_of _ (by decide +kernel)) ggX3_ready_X3_readyIn
theorem dX3_ready_0 : decode cX3_ready 0 = .ok (.aload_n 0, 1) := by decide +kernel
theorem dX3_ready_1 : decode cX3_ready 1 = .ok (.iload_n 1, 1) := by decide +kernel
theorem dX3_ready_2 : decode cX3_ready 2 = .ok (.iconst 0, 1) := by decide +kernel
theorem dX3_ready_3 : decode cX3_ready 3 = .ok (.iconst 2, 1) := by decide +kernel
theorem dX3_ready_4 : decode cX3_ready 4 = .ok (.invokestatic 64, 3) := by decide +kernel
theorem dX3_ready_7 : decode cX3_ready 7 = .ok (.ifCond .eq 7, 3) := by decide +kernel
theorem dX3_ready_10 : decode cX3_ready 10 = .ok (.iconst 0, 1) := by decide +kernel
theorem dX3_ready_11 : decode cX3_ready 11 = .ok (.goto 4, 3) := by decide +kernel
theorem dX3_ready_14 : decode cX3_ready 14 = .ok (.iconst 1, 1) := by decide +kernel
theorem dX3_ready_15 : decode cX3_ready 15 = .ok (.putfield 57, 3) := by decide +kernel
theorem dX3_ready_18 : decode cX3_ready 18 = .ok (.aload_n 0, 1) := by decide +kernel
theorem dX3_ready_19 : decode cX3_ready 19 = .ok (.getfield 57, 3) := by decide +kernel
theorem dX3_ready_22 : decode cX3_ready 22 = .ok (.ifCond .le 7, 3) := by decide +kernel
theorem dX3_ready_25 : decode cX3_ready 25 = .ok (.iconst 0, 1) := by decide +kernel
theorem dX3_ready_26 : decode cX3_ready 26 = .ok (.goto 8, 3) := by decide +kernel
theorem dX3_ready_29 : decode cX3_ready 29 = .ok (.aload_n 0, 1) := by decide +kernel
theorem dX3_ready_30 : decode cX3_ready 30 = .ok (.iload_n 1, 1) := by decide +kernel
theorem dX3_ready_31 : decode cX3_ready 31 = .ok (.invokevirtual 110, 3) := by decide +kernel
theorem dX3_ready_34 : decode cX3_ready 34 = .ok (.ireturn, 1) := by decide +kernel
set_option maxRecDepth 20000 in
theorem ggX3_place_X3_isReady : GoodIn wsX3_place wsX3_isReady := goodIn_ca (goodIn_r _ [7, 8, 9, 2, 10, 11, 12, 13, 14, 15, 16, 17, 18, 19, 20, 21, 22, 23, 24, 25, 26, 27, 28, 29] (by decide +kernel) (by decide +kernel)) (goodIn_sub (fun _ h => List.mem_cons_of_mem _ (List.mem_append_right _ h)) (by decide +kernel))
set_option maxRecDepth 20000 in
theorem gX3_place_X3_isReady : GoodIn wsX3_place (wsV RX3 106 RX3 yX3_isReady wsX3_isReady) := goodIn_app (goodIn_of _ (by decide +kernel)) ggX3_place_X3_isReady
theorem dX3_place_0 : decode cX3_place 0 = .ok (.iconst 0, 1) := by decide +kernel
theorem dX3_place_1 : decode cX3_place 1 = .ok (.istore_n 3, 1) := by decide +kernel
theorem dX3_place_2 : decode cX3_place 2 = .ok (.iload_n 3, 1) := by decide +kernel
theorem dX3_place_3 : decode cX3_place 3 = .ok (.aload_n 0, 1) := by decide +kernel
theorem dX3_place_4 : decode cX3_place 4 = .ok (.getfield 68, 3) := by decide +kernel
theorem dX3_place_7 : decode cX3_place 7 = .ok (.if_icmp .ge 114, 3) := by decide +kernel
theorem dX3_place_10 : decode cX3_place 10 = .ok (.iconst 0, 1) := by decide +kernel
theorem dX3_place_11 : decode cX3_place 11 = .ok (.istore 4, 2) := by decide +kernel
theorem dX3_place_13 : decode cX3_place 13 = .ok (.iconst 0, 1) := by decide +kernel
theorem dX3_place_14 : decode cX3_place 14 = .ok (.istore 5, 2) := by decide +kernel
theorem dX3_place_16 : decode cX3_place 16 = .ok (.iload 5, 2) := by decide +kernel
theorem dX3_place_18 : decode cX3_place 18 = .ok (.aload_n 0, 1) := by decide +kernel
theorem dX3_place_19 : decode cX3_place 19 = .ok (.getfield 68, 3) := by decide +kernel
theorem dX3_place_22 : decode cX3_place 22 = .ok (.if_icmp .ge 76, 3) := by decide +kernel
theorem dX3_place_25 : decode cX3_place 25 = .ok (.aload_n 0, 1) := by decide +kernel
theorem dX3_place_26 : decode cX3_place 26 = .ok (.iload_n 3, 1) := by decide +kernel
theorem dX3_place_27 : decode cX3_place 27 = .ok (.iload_n 1, 1) := by decide +kernel
theorem dX3_place_28 : decode cX3_place 28 = .ok (.invokevirtual 106, 3) := by decide +kernel
theorem dX3_place_31 : decode cX3_place 31 = .ok (.ifCond .eq 67, 3) := by decide +kernel
theorem dX3_place_34 : decode cX3_place 34 = .ok (.iload 4, 2) := by decide +kernel
theorem dX3_place_36 : decode cX3_place 36 = .ok (.aload_n 0, 1) := by decide +kernel
theorem dX3_place_37 : decode cX3_place 37 = .ok (.iload 5, 2) := by decide +kernel
theorem dX3_place_39 : decode cX3_place 39 = .ok (.iload_n 1, 1) := by decide +kernel
theorem dX3_place_40 : decode cX3_place 40 = .ok (.invokevirtual 106, 3) := by decide +kernel
theorem dX3_place_43 : decode cX3_place 43 = .ok (.ifCond .eq 45, 3) := by decide +kernel
theorem dX3_place_46 : decode cX3_place 46 = .ok (.aload_n 0, 1) := by decide +kernel
theorem dX3_place_47 : decode cX3_place 47 = .ok (.getfield 42, 3) := by decide +kernel
theorem dX3_place_50 : decode cX3_place 50 = .ok (.iload 5, 2) := by decide +kernel
theorem dX3_place_52 : decode cX3_place 52 = .ok (.iaload, 1) := by decide +kernel
theorem dX3_place_53 : decode cX3_place 53 = .ok (.aload_n 0, 1) := by decide +kernel
theorem dX3_place_54 : decode cX3_place 54 = .ok (.getfield 42, 3) := by decide +kernel
theorem dX3_place_57 : decode cX3_place 57 = .ok (.iload_n 3, 1) := by decide +kernel
theorem dX3_place_58 : decode cX3_place 58 = .ok (.iaload, 1) := by decide +kernel
theorem dX3_place_59 : decode cX3_place 59 = .ok (.if_icmp .lt 25, 3) := by decide +kernel
theorem dX3_place_62 : decode cX3_place 62 = .ok (.aload_n 0, 1) := by decide +kernel
theorem dX3_place_63 : decode cX3_place 63 = .ok (.getfield 42, 3) := by decide +kernel
theorem dX3_place_66 : decode cX3_place 66 = .ok (.iload 5, 2) := by decide +kernel
theorem dX3_place_68 : decode cX3_place 68 = .ok (.iaload, 1) := by decide +kernel
theorem dX3_place_69 : decode cX3_place 69 = .ok (.aload_n 0, 1) := by decide +kernel
theorem dX3_place_70 : decode cX3_place 70 = .ok (.getfield 42, 3) := by decide +kernel
theorem dX3_place_73 : decode cX3_place 73 = .ok (.iload_n 3, 1) := by decide +kernel
theorem dX3_place_74 : decode cX3_place 74 = .ok (.iaload, 1) := by decide +kernel
theorem dX3_place_75 : decode cX3_place 75 = .ok (.if_icmp .ne 13, 3) := by decide +kernel
theorem dX3_place_78 : decode cX3_place 78 = .ok (.iload 5, 2) := by decide +kernel
theorem dX3_place_80 : decode cX3_place 80 = .ok (.iload_n 3, 1) := by decide +kernel
theorem dX3_place_81 : decode cX3_place 81 = .ok (.if_icmp .ge 7, 3) := by decide +kernel
theorem dX3_place_84 : decode cX3_place 84 = .ok (.iconst 1, 1) := by decide +kernel
theorem dX3_place_85 : decode cX3_place 85 = .ok (.goto 4, 3) := by decide +kernel
theorem dX3_place_88 : decode cX3_place 88 = .ok (.iconst 0, 1) := by decide +kernel
theorem dX3_place_89 : decode cX3_place 89 = .ok (.iadd, 1) := by decide +kernel
theorem dX3_place_90 : decode cX3_place 90 = .ok (.istore 4, 2) := by decide +kernel
theorem dX3_place_92 : decode cX3_place 92 = .ok (.iinc 5 1, 3) := by decide +kernel
theorem dX3_place_95 : decode cX3_place 95 = .ok (.goto (-79), 3) := by decide +kernel
theorem dX3_place_98 : decode cX3_place 98 = .ok (.aload_n 0, 1) := by decide +kernel
theorem dX3_place_99 : decode cX3_place 99 = .ok (.iload_n 3, 1) := by decide +kernel
theorem dX3_place_100 : decode cX3_place 100 = .ok (.iload_n 1, 1) := by decide +kernel
theorem dX3_place_101 : decode cX3_place 101 = .ok (.invokevirtual 106, 3) := by decide +kernel
theorem dX3_place_104 : decode cX3_place 104 = .ok (.ifCond .eq 11, 3) := by decide +kernel
theorem dX3_place_107 : decode cX3_place 107 = .ok (.iload 4, 2) := by decide +kernel
theorem dX3_place_109 : decode cX3_place 109 = .ok (.iload_n 2, 1) := by decide +kernel
theorem dX3_place_110 : decode cX3_place 110 = .ok (.if_icmp .ne 5, 3) := by decide +kernel
theorem dX3_place_113 : decode cX3_place 113 = .ok (.iload_n 3, 1) := by decide +kernel
theorem dX3_place_114 : decode cX3_place 114 = .ok (.ireturn, 1) := by decide +kernel
theorem dX3_place_115 : decode cX3_place 115 = .ok (.iinc 3 1, 3) := by decide +kernel
theorem dX3_place_118 : decode cX3_place 118 = .ok (.goto (-116), 3) := by decide +kernel
theorem dX3_place_121 : decode cX3_place 121 = .ok (.iconst (-1), 1) := by decide +kernel
theorem dX3_place_122 : decode cX3_place 122 = .ok (.ireturn, 1) := by decide +kernel
set_option maxRecDepth 20000 in
theorem ggX3_readyAtPlace_X3_in : GoodIn wsX3_readyAtPlace wsX3_in := goodIn_r _ [5] (by decide +kernel) (by decide +kernel)
set_option maxRecDepth 20000 in
theorem gX3_readyAtPlace_X3_in : GoodIn wsX3_readyAtPlace (va_wsS RX3 64 yX3_in wsX3_in) := goodIn_app (goodIn_of _ (by decide +kernel)) ggX3_readyAtPlace_X3_in
set_option maxRecDepth 20000 in
theorem ggX3_readyAtPlace_X3_raises : GoodIn wsX3_readyAtPlace wsX3_raises := goodIn_r _ [9, 1, 23, 24, 25, 26, 27, 28, 29, 30, 31, 32, 33, 34, 35, 36, 37, 38, 39, 40, 41] (by decide +kernel) (by decide +kernel)
set_option maxRecDepth 20000 in
theorem gX3_readyAtPlace_X3_raises : GoodIn wsX3_readyAtPlace (wsV RX3 96 RX3 yX3_raises wsX3_raises) := goodIn_app (goodIn_of _ (by decide +kernel)) ggX3_readyAtPlace_X3_raises
set_option maxRecDepth 20000 in
theorem ggX3_readyAtPlace_X3_place : GoodIn wsX3_readyAtPlace wsX3_place := goodIn_ca (goodIn_r _ [13, 14, 15, 16, 17, 18, 4, 19, 20, 21, 22, 23, 24, 25, 26, 27, 28, 29, 30, 31, 32, 33, 34, 35, 36, 37, 38, 39, 40, 41] (by decide +kernel) (by decide +kernel)) (goodIn_sub (fun _ h => List.mem_cons_of_mem _ (List.mem_append_right _ h)) (by decide +kernel))
set_option maxRecDepth 20000 in
theorem gX3_readyAtPlace_X3_place : GoodIn wsX3_readyAtPlace (wsV RX3 113 RX3 yX3_place wsX3_place) := goodIn_app (goodIn_of _ (by decide +kernel)) ggX3_readyAtPlace_X3_place
theorem dX3_readyAtPlace_0 : decode cX3_readyAtPlace 0 = .ok (.iload_n 1, 1) := by decide +kernel
theorem dX3_readyAtPlace_1 : decode cX3_readyAtPlace 1 = .ok (.iconst 0, 1) := by decide +kernel
theorem dX3_readyAtPlace_2 : decode cX3_readyAtPlace 2 = .ok (.iconst 2, 1) := by decide +kernel
theorem dX3_readyAtPlace_3 : decode cX3_readyAtPlace 3 = .ok (.invokestatic 64, 3) := by decide +kernel
theorem dX3_readyAtPlace_6 : decode cX3_readyAtPlace 6 = .ok (.ifCond .ne 9, 3) := by decide +kernel
theorem dX3_readyAtPlace_9 : decode cX3_readyAtPlace 9 = .ok (.aload_n 0, 1) := by decide +kernel
theorem dX3_readyAtPlace_10 : decode cX3_readyAtPlace 10 = .ok (.iconst 1, 1) := by decide +kernel
theorem dX3_readyAtPlace_11 : decode cX3_readyAtPlace 11 = .ok (.invokevirtual 96, 3) := by decide +kernel
theorem dX3_readyAtPlace_14 : decode cX3_readyAtPlace 14 = .ok (.ireturn, 1) := by decide +kernel
theorem dX3_readyAtPlace_15 : decode cX3_readyAtPlace 15 = .ok (.aload_n 0, 1) := by decide +kernel
theorem dX3_readyAtPlace_16 : decode cX3_readyAtPlace 16 = .ok (.iload_n 1, 1) := by decide +kernel
theorem dX3_readyAtPlace_17 : decode cX3_readyAtPlace 17 = .ok (.iload_n 2, 1) := by decide +kernel
theorem dX3_readyAtPlace_18 : decode cX3_readyAtPlace 18 = .ok (.invokevirtual 113, 3) := by decide +kernel
theorem dX3_readyAtPlace_21 : decode cX3_readyAtPlace 21 = .ok (.istore_n 3, 1) := by decide +kernel
theorem dX3_readyAtPlace_22 : decode cX3_readyAtPlace 22 = .ok (.aload_n 0, 1) := by decide +kernel
theorem dX3_readyAtPlace_23 : decode cX3_readyAtPlace 23 = .ok (.iload_n 3, 1) := by decide +kernel
theorem dX3_readyAtPlace_24 : decode cX3_readyAtPlace 24 = .ok (.iconst (-1), 1) := by decide +kernel
theorem dX3_readyAtPlace_25 : decode cX3_readyAtPlace 25 = .ok (.if_icmp .ne 7, 3) := by decide +kernel
theorem dX3_readyAtPlace_28 : decode cX3_readyAtPlace 28 = .ok (.iconst 2, 1) := by decide +kernel
theorem dX3_readyAtPlace_29 : decode cX3_readyAtPlace 29 = .ok (.goto 4, 3) := by decide +kernel
theorem dX3_readyAtPlace_32 : decode cX3_readyAtPlace 32 = .ok (.iconst 0, 1) := by decide +kernel
theorem dX3_readyAtPlace_33 : decode cX3_readyAtPlace 33 = .ok (.putfield 57, 3) := by decide +kernel
theorem dX3_readyAtPlace_36 : decode cX3_readyAtPlace 36 = .ok (.aload_n 0, 1) := by decide +kernel
theorem dX3_readyAtPlace_37 : decode cX3_readyAtPlace 37 = .ok (.getfield 57, 3) := by decide +kernel
theorem dX3_readyAtPlace_40 : decode cX3_readyAtPlace 40 = .ok (.ifCond .le 7, 3) := by decide +kernel
theorem dX3_readyAtPlace_43 : decode cX3_readyAtPlace 43 = .ok (.iconst 0, 1) := by decide +kernel
theorem dX3_readyAtPlace_44 : decode cX3_readyAtPlace 44 = .ok (.goto 4, 3) := by decide +kernel
theorem dX3_readyAtPlace_47 : decode cX3_readyAtPlace 47 = .ok (.iload_n 3, 1) := by decide +kernel
theorem dX3_readyAtPlace_48 : decode cX3_readyAtPlace 48 = .ok (.ireturn, 1) := by decide +kernel
theorem dX3_taken_0 : decode cX3_taken 0 = .ok (.iconst 0, 1) := by decide +kernel
theorem dX3_taken_1 : decode cX3_taken 1 = .ok (.istore_n 2, 1) := by decide +kernel
theorem dX3_taken_2 : decode cX3_taken 2 = .ok (.iconst 0, 1) := by decide +kernel
theorem dX3_taken_3 : decode cX3_taken 3 = .ok (.istore_n 3, 1) := by decide +kernel
theorem dX3_taken_4 : decode cX3_taken 4 = .ok (.iload_n 3, 1) := by decide +kernel
theorem dX3_taken_5 : decode cX3_taken 5 = .ok (.aload_n 0, 1) := by decide +kernel
theorem dX3_taken_6 : decode cX3_taken 6 = .ok (.getfield 68, 3) := by decide +kernel
theorem dX3_taken_9 : decode cX3_taken 9 = .ok (.if_icmp .ge 38, 3) := by decide +kernel
theorem dX3_taken_12 : decode cX3_taken 12 = .ok (.iload_n 2, 1) := by decide +kernel
theorem dX3_taken_13 : decode cX3_taken 13 = .ok (.aload_n 0, 1) := by decide +kernel
theorem dX3_taken_14 : decode cX3_taken 14 = .ok (.getfield 48, 3) := by decide +kernel
theorem dX3_taken_17 : decode cX3_taken 17 = .ok (.iload_n 3, 1) := by decide +kernel
theorem dX3_taken_18 : decode cX3_taken 18 = .ok (.caload, 1) := by decide +kernel
theorem dX3_taken_19 : decode cX3_taken 19 = .ok (.bipush 116, 2) := by decide +kernel
theorem dX3_taken_21 : decode cX3_taken 21 = .ok (.if_icmp .ne 17, 3) := by decide +kernel
theorem dX3_taken_24 : decode cX3_taken 24 = .ok (.aload_n 0, 1) := by decide +kernel
theorem dX3_taken_25 : decode cX3_taken 25 = .ok (.getfield 51, 3) := by decide +kernel
theorem dX3_taken_28 : decode cX3_taken 28 = .ok (.iload_n 3, 1) := by decide +kernel
theorem dX3_taken_29 : decode cX3_taken 29 = .ok (.iaload, 1) := by decide +kernel
theorem dX3_taken_30 : decode cX3_taken 30 = .ok (.iload_n 1, 1) := by decide +kernel
theorem dX3_taken_31 : decode cX3_taken 31 = .ok (.if_icmp .ne 7, 3) := by decide +kernel
theorem dX3_taken_34 : decode cX3_taken 34 = .ok (.iconst 1, 1) := by decide +kernel
theorem dX3_taken_35 : decode cX3_taken 35 = .ok (.goto 4, 3) := by decide +kernel
theorem dX3_taken_38 : decode cX3_taken 38 = .ok (.iconst 0, 1) := by decide +kernel
theorem dX3_taken_39 : decode cX3_taken 39 = .ok (.iadd, 1) := by decide +kernel
theorem dX3_taken_40 : decode cX3_taken 40 = .ok (.istore_n 2, 1) := by decide +kernel
theorem dX3_taken_41 : decode cX3_taken 41 = .ok (.iinc 3 1, 3) := by decide +kernel
theorem dX3_taken_44 : decode cX3_taken 44 = .ok (.goto (-40), 3) := by decide +kernel
theorem dX3_taken_47 : decode cX3_taken 47 = .ok (.iload_n 2, 1) := by decide +kernel
theorem dX3_taken_48 : decode cX3_taken 48 = .ok (.ireturn, 1) := by decide +kernel
set_option maxRecDepth 20000 in
theorem ggX3_take_X3_in : GoodIn wsX3_take wsX3_in := goodIn_r _ [9] (by decide +kernel) (by decide +kernel)
set_option maxRecDepth 20000 in
theorem gX3_take_X3_in : GoodIn wsX3_take (va_wsS RX3 64 yX3_in wsX3_in) := goodIn_app (goodIn_of _ (by decide +kernel)) ggX3_take_X3_in
set_option maxRecDepth 20000 in
theorem ggX3_take_X3_raises : GoodIn wsX3_take wsX3_raises := goodIn_r _ [13, 1, 29, 30, 31, 32, 33, 34, 35, 36, 37, 38, 39, 40, 41, 42, 43, 44, 45, 46, 47] (by decide +kernel) (by decide +kernel)
set_option maxRecDepth 20000 in
theorem gX3_take_X3_raises : GoodIn wsX3_take (wsV RX3 96 RX3 yX3_raises wsX3_raises) := goodIn_app (goodIn_of _ (by decide +kernel)) ggX3_take_X3_raises
set_option maxRecDepth 20000 in
theorem ggX3_take_X3_place : GoodIn wsX3_take wsX3_place := goodIn_ca (goodIn_r _ [17, 18, 19, 20, 21, 22, 8, 23, 24, 2, 5, 29, 30, 31, 32, 33, 34, 35, 36, 37, 38, 39, 40, 41, 42, 43, 44, 45, 46, 47] (by decide +kernel) (by decide +kernel)) (goodIn_sub (fun _ h => List.mem_cons_of_mem _ (List.mem_append_right _ h)) (by decide +kernel))
set_option maxRecDepth 20000 in
theorem gX3_take_X3_place : GoodIn wsX3_take (wsV RX3 113 RX3 yX3_place wsX3_place) := goodIn_app (goodIn_of _ (by decide +kernel)) ggX3_take_X3_place
set_option maxRecDepth 20000 in
theorem ggX3_take_X3_taken : GoodIn wsX3_take wsX3_taken := goodIn_ca (goodIn_r _ [28, 18, 2, 3, 29, 30, 31, 32, 33, 34, 35, 36, 37, 38, 39, 40, 41, 42, 43, 44, 45, 46, 47] (by decide +kernel) (by decide +kernel)) (goodIn_sub (fun _ h => List.mem_cons_of_mem _ (List.mem_append_right _ h)) (by decide +kernel))
set_option maxRecDepth 20000 in
theorem gX3_take_X3_taken : GoodIn wsX3_take (wsV RX3 116 RX3 yX3_taken wsX3_taken) := goodIn_app (goodIn_of _ (by decide +kernel)) ggX3_take_X3_taken
theorem dX3_take_0 : decode cX3_take 0 = .ok (.iload_n 1, 1) := by decide +kernel
theorem dX3_take_1 : decode cX3_take 1 = .ok (.iconst 0, 1) := by decide +kernel
theorem dX3_take_2 : decode cX3_take 2 = .ok (.iconst 3, 1) := by decide +kernel
theorem dX3_take_3 : decode cX3_take 3 = .ok (.invokestatic 64, 3) := by decide +kernel
theorem dX3_take_6 : decode cX3_take 6 = .ok (.ifCond .eq 12, 3) := by decide +kernel
theorem dX3_take_9 : decode cX3_take 9 = .ok (.iload_n 2, 1) := by decide +kernel
theorem dX3_take_10 : decode cX3_take 10 = .ok (.iconst 0, 1) := by decide +kernel
theorem dX3_take_11 : decode cX3_take 11 = .ok (.iconst 2, 1) := by decide +kernel
theorem dX3_take_12 : decode cX3_take 12 = .ok (.invokestatic 64, 3) := by decide +kernel
theorem dX3_take_15 : decode cX3_take 15 = .ok (.ifCond .ne 9, 3) := by decide +kernel
theorem dX3_take_18 : decode cX3_take 18 = .ok (.aload_n 0, 1) := by decide +kernel
theorem dX3_take_19 : decode cX3_take 19 = .ok (.iconst 1, 1) := by decide +kernel
theorem dX3_take_20 : decode cX3_take 20 = .ok (.invokevirtual 96, 3) := by decide +kernel
theorem dX3_take_23 : decode cX3_take 23 = .ok (.ireturn, 1) := by decide +kernel
theorem dX3_take_24 : decode cX3_take 24 = .ok (.aload_n 0, 1) := by decide +kernel
theorem dX3_take_25 : decode cX3_take 25 = .ok (.iload_n 2, 1) := by decide +kernel
theorem dX3_take_26 : decode cX3_take 26 = .ok (.iconst 0, 1) := by decide +kernel
theorem dX3_take_27 : decode cX3_take 27 = .ok (.invokevirtual 113, 3) := by decide +kernel
theorem dX3_take_30 : decode cX3_take 30 = .ok (.istore_n 3, 1) := by decide +kernel
theorem dX3_take_31 : decode cX3_take 31 = .ok (.aload_n 0, 1) := by decide +kernel
theorem dX3_take_32 : decode cX3_take 32 = .ok (.aload_n 0, 1) := by decide +kernel
theorem dX3_take_33 : decode cX3_take 33 = .ok (.iload_n 1, 1) := by decide +kernel
theorem dX3_take_34 : decode cX3_take 34 = .ok (.invokevirtual 116, 3) := by decide +kernel
theorem dX3_take_37 : decode cX3_take 37 = .ok (.iconst 2, 1) := by decide +kernel
theorem dX3_take_38 : decode cX3_take 38 = .ok (.if_icmp .ne 7, 3) := by decide +kernel
theorem dX3_take_41 : decode cX3_take 41 = .ok (.iconst 2, 1) := by decide +kernel
theorem dX3_take_42 : decode cX3_take 42 = .ok (.goto 13, 3) := by decide +kernel
theorem dX3_take_45 : decode cX3_take 45 = .ok (.iload_n 3, 1) := by decide +kernel
theorem dX3_take_46 : decode cX3_take 46 = .ok (.iconst (-1), 1) := by decide +kernel
theorem dX3_take_47 : decode cX3_take 47 = .ok (.if_icmp .ne 7, 3) := by decide +kernel
theorem dX3_take_50 : decode cX3_take 50 = .ok (.iconst 3, 1) := by decide +kernel
theorem dX3_take_51 : decode cX3_take 51 = .ok (.goto 4, 3) := by decide +kernel
theorem dX3_take_54 : decode cX3_take 54 = .ok (.iconst 0, 1) := by decide +kernel
theorem dX3_take_55 : decode cX3_take 55 = .ok (.putfield 57, 3) := by decide +kernel
theorem dX3_take_58 : decode cX3_take 58 = .ok (.aload_n 0, 1) := by decide +kernel
theorem dX3_take_59 : decode cX3_take 59 = .ok (.getfield 57, 3) := by decide +kernel
theorem dX3_take_62 : decode cX3_take 62 = .ok (.ifCond .le 5, 3) := by decide +kernel
theorem dX3_take_65 : decode cX3_take 65 = .ok (.iconst 0, 1) := by decide +kernel
theorem dX3_take_66 : decode cX3_take 66 = .ok (.ireturn, 1) := by decide +kernel
theorem dX3_take_67 : decode cX3_take 67 = .ok (.aload_n 0, 1) := by decide +kernel
theorem dX3_take_68 : decode cX3_take 68 = .ok (.getfield 48, 3) := by decide +kernel
theorem dX3_take_71 : decode cX3_take 71 = .ok (.iload_n 3, 1) := by decide +kernel
theorem dX3_take_72 : decode cX3_take 72 = .ok (.bipush 116, 2) := by decide +kernel
theorem dX3_take_74 : decode cX3_take 74 = .ok (.castore, 1) := by decide +kernel
theorem dX3_take_75 : decode cX3_take 75 = .ok (.aload_n 0, 1) := by decide +kernel
theorem dX3_take_76 : decode cX3_take 76 = .ok (.getfield 51, 3) := by decide +kernel
theorem dX3_take_79 : decode cX3_take 79 = .ok (.iload_n 3, 1) := by decide +kernel
theorem dX3_take_80 : decode cX3_take 80 = .ok (.iload_n 1, 1) := by decide +kernel
theorem dX3_take_81 : decode cX3_take 81 = .ok (.iastore, 1) := by decide +kernel
theorem dX3_take_82 : decode cX3_take 82 = .ok (.aload_n 0, 1) := by decide +kernel
theorem dX3_take_83 : decode cX3_take 83 = .ok (.getfield 54, 3) := by decide +kernel
theorem dX3_take_86 : decode cX3_take 86 = .ok (.iload_n 3, 1) := by decide +kernel
theorem dX3_take_87 : decode cX3_take 87 = .ok (.aload_n 0, 1) := by decide +kernel
theorem dX3_take_88 : decode cX3_take 88 = .ok (.getfield 71, 3) := by decide +kernel
theorem dX3_take_91 : decode cX3_take 91 = .ok (.iastore, 1) := by decide +kernel
theorem dX3_take_92 : decode cX3_take 92 = .ok (.iload_n 3, 1) := by decide +kernel
theorem dX3_take_93 : decode cX3_take 93 = .ok (.ireturn, 1) := by decide +kernel
set_option maxRecDepth 20000 in
theorem ggX3_finish_X3_noMessage : GoodIn wsX3_finish wsX3_noMessage := goodIn_r _ [17, 18, 2, 19, 20, 16, 21, 22, 23, 24, 25, 26, 27, 28, 29, 30, 31, 32, 33, 34, 35, 36, 37, 38, 39, 40] (by decide +kernel) (by decide +kernel)
set_option maxRecDepth 20000 in
theorem gX3_finish_X3_noMessage : GoodIn wsX3_finish (wsV RX3 103 RX3 yX3_noMessage wsX3_noMessage) := goodIn_app (goodIn_of _ (by decide +kernel)) ggX3_finish_X3_noMessage
theorem dX3_finish_0 : decode cX3_finish 0 = .ok (.aload_n 0, 1) := by decide +kernel
theorem dX3_finish_1 : decode cX3_finish 1 = .ok (.iload_n 1, 1) := by decide +kernel
theorem dX3_finish_2 : decode cX3_finish 2 = .ok (.invokevirtual 103, 3) := by decide +kernel
theorem dX3_finish_5 : decode cX3_finish 5 = .ok (.ifCond .eq 5, 3) := by decide +kernel
theorem dX3_finish_8 : decode cX3_finish 8 = .ok (.iconst 0, 1) := by decide +kernel
theorem dX3_finish_9 : decode cX3_finish 9 = .ok (.ireturn, 1) := by decide +kernel
theorem dX3_finish_10 : decode cX3_finish 10 = .ok (.aload_n 0, 1) := by decide +kernel
theorem dX3_finish_11 : decode cX3_finish 11 = .ok (.aload_n 0, 1) := by decide +kernel
theorem dX3_finish_12 : decode cX3_finish 12 = .ok (.getfield 48, 3) := by decide +kernel
theorem dX3_finish_15 : decode cX3_finish 15 = .ok (.iload_n 1, 1) := by decide +kernel
theorem dX3_finish_16 : decode cX3_finish 16 = .ok (.caload, 1) := by decide +kernel
theorem dX3_finish_17 : decode cX3_finish 17 = .ok (.bipush 116, 2) := by decide +kernel
theorem dX3_finish_19 : decode cX3_finish 19 = .ok (.if_icmp .ne 7, 3) := by decide +kernel
theorem dX3_finish_22 : decode cX3_finish 22 = .ok (.iconst 0, 1) := by decide +kernel
theorem dX3_finish_23 : decode cX3_finish 23 = .ok (.goto 4, 3) := by decide +kernel
theorem dX3_finish_26 : decode cX3_finish 26 = .ok (.iconst 2, 1) := by decide +kernel
theorem dX3_finish_27 : decode cX3_finish 27 = .ok (.putfield 57, 3) := by decide +kernel
theorem dX3_finish_30 : decode cX3_finish 30 = .ok (.aload_n 0, 1) := by decide +kernel
theorem dX3_finish_31 : decode cX3_finish 31 = .ok (.getfield 57, 3) := by decide +kernel
theorem dX3_finish_34 : decode cX3_finish 34 = .ok (.ifCond .le 5, 3) := by decide +kernel
theorem dX3_finish_37 : decode cX3_finish 37 = .ok (.iconst 0, 1) := by decide +kernel
theorem dX3_finish_38 : decode cX3_finish 38 = .ok (.ireturn, 1) := by decide +kernel
theorem dX3_finish_39 : decode cX3_finish 39 = .ok (.aload_n 0, 1) := by decide +kernel
theorem dX3_finish_40 : decode cX3_finish 40 = .ok (.getfield 48, 3) := by decide +kernel
theorem dX3_finish_43 : decode cX3_finish 43 = .ok (.iload_n 1, 1) := by decide +kernel
theorem dX3_finish_44 : decode cX3_finish 44 = .ok (.bipush 100, 2) := by decide +kernel
theorem dX3_finish_46 : decode cX3_finish 46 = .ok (.castore, 1) := by decide +kernel
theorem dX3_finish_47 : decode cX3_finish 47 = .ok (.aload_n 0, 1) := by decide +kernel
theorem dX3_finish_48 : decode cX3_finish 48 = .ok (.getfield 36, 3) := by decide +kernel
theorem dX3_finish_51 : decode cX3_finish 51 = .ok (.iload_n 1, 1) := by decide +kernel
theorem dX3_finish_52 : decode cX3_finish 52 = .ok (.iaload, 1) := by decide +kernel
theorem dX3_finish_53 : decode cX3_finish 53 = .ok (.istore_n 2, 1) := by decide +kernel
theorem dX3_finish_54 : decode cX3_finish 54 = .ok (.aload_n 0, 1) := by decide +kernel
theorem dX3_finish_55 : decode cX3_finish 55 = .ok (.getfield 32, 3) := by decide +kernel
theorem dX3_finish_58 : decode cX3_finish 58 = .ok (.iload_n 1, 1) := by decide +kernel
theorem dX3_finish_59 : decode cX3_finish 59 = .ok (.caload, 1) := by decide +kernel
theorem dX3_finish_60 : decode cX3_finish 60 = .ok (.bipush 112, 2) := by decide +kernel
theorem dX3_finish_62 : decode cX3_finish 62 = .ok (.if_icmp .ne 53, 3) := by decide +kernel
theorem dX3_finish_65 : decode cX3_finish 65 = .ok (.aload_n 0, 1) := by decide +kernel
theorem dX3_finish_66 : decode cX3_finish 66 = .ok (.getfield 9, 3) := by decide +kernel
theorem dX3_finish_69 : decode cX3_finish 69 = .ok (.iload_n 2, 1) := by decide +kernel
theorem dX3_finish_70 : decode cX3_finish 70 = .ok (.iaload, 1) := by decide +kernel
theorem dX3_finish_71 : decode cX3_finish 71 = .ok (.ifCond .le 16, 3) := by decide +kernel
theorem dX3_finish_74 : decode cX3_finish 74 = .ok (.aload_n 0, 1) := by decide +kernel
theorem dX3_finish_75 : decode cX3_finish 75 = .ok (.getfield 39, 3) := by decide +kernel
theorem dX3_finish_78 : decode cX3_finish 78 = .ok (.iload_n 1, 1) := by decide +kernel
theorem dX3_finish_79 : decode cX3_finish 79 = .ok (.iaload, 1) := by decide +kernel
theorem dX3_finish_80 : decode cX3_finish 80 = .ok (.ifCond .le 7, 3) := by decide +kernel
theorem dX3_finish_83 : decode cX3_finish 83 = .ok (.iconst 1, 1) := by decide +kernel
theorem dX3_finish_84 : decode cX3_finish 84 = .ok (.goto 4, 3) := by decide +kernel
theorem dX3_finish_87 : decode cX3_finish 87 = .ok (.iconst 0, 1) := by decide +kernel
theorem dX3_finish_88 : decode cX3_finish 88 = .ok (.istore_n 3, 1) := by decide +kernel
theorem dX3_finish_89 : decode cX3_finish 89 = .ok (.aload_n 0, 1) := by decide +kernel
theorem dX3_finish_90 : decode cX3_finish 90 = .ok (.getfield 9, 3) := by decide +kernel
theorem dX3_finish_93 : decode cX3_finish 93 = .ok (.iload_n 2, 1) := by decide +kernel
theorem dX3_finish_94 : decode cX3_finish 94 = .ok (.iconst 0, 1) := by decide +kernel
theorem dX3_finish_95 : decode cX3_finish 95 = .ok (.aload_n 0, 1) := by decide +kernel
theorem dX3_finish_96 : decode cX3_finish 96 = .ok (.getfield 9, 3) := by decide +kernel
theorem dX3_finish_99 : decode cX3_finish 99 = .ok (.iload_n 2, 1) := by decide +kernel
theorem dX3_finish_100 : decode cX3_finish 100 = .ok (.iaload, 1) := by decide +kernel
theorem dX3_finish_101 : decode cX3_finish 101 = .ok (.aload_n 0, 1) := by decide +kernel
theorem dX3_finish_102 : decode cX3_finish 102 = .ok (.getfield 39, 3) := by decide +kernel
theorem dX3_finish_105 : decode cX3_finish 105 = .ok (.iload_n 1, 1) := by decide +kernel
theorem dX3_finish_106 : decode cX3_finish 106 = .ok (.iaload, 1) := by decide +kernel
theorem dX3_finish_107 : decode cX3_finish 107 = .ok (.isub, 1) := by decide +kernel
theorem dX3_finish_108 : decode cX3_finish 108 = .ok (.invokestatic 74, 3) := by decide +kernel
theorem dX3_finish_111 : decode cX3_finish 111 = .ok (.iastore, 1) := by decide +kernel
theorem dX3_finish_112 : decode cX3_finish 112 = .ok (.goto 79, 3) := by decide +kernel
theorem dX3_finish_115 : decode cX3_finish 115 = .ok (.aload_n 0, 1) := by decide +kernel
theorem dX3_finish_116 : decode cX3_finish 116 = .ok (.getfield 32, 3) := by decide +kernel
theorem dX3_finish_119 : decode cX3_finish 119 = .ok (.iload_n 1, 1) := by decide +kernel
theorem dX3_finish_120 : decode cX3_finish 120 = .ok (.caload, 1) := by decide +kernel
theorem dX3_finish_121 : decode cX3_finish 121 = .ok (.bipush 110, 2) := by decide +kernel
theorem dX3_finish_123 : decode cX3_finish 123 = .ok (.if_icmp .ne 20, 3) := by decide +kernel
theorem dX3_finish_126 : decode cX3_finish 126 = .ok (.aload_n 0, 1) := by decide +kernel
theorem dX3_finish_127 : decode cX3_finish 127 = .ok (.getfield 22, 3) := by decide +kernel
theorem dX3_finish_130 : decode cX3_finish 130 = .ok (.iload_n 2, 1) := by decide +kernel
theorem dX3_finish_131 : decode cX3_finish 131 = .ok (.baload, 1) := by decide +kernel
theorem dX3_finish_132 : decode cX3_finish 132 = .ok (.istore_n 3, 1) := by decide +kernel
theorem dX3_finish_133 : decode cX3_finish 133 = .ok (.aload_n 0, 1) := by decide +kernel
theorem dX3_finish_134 : decode cX3_finish 134 = .ok (.getfield 22, 3) := by decide +kernel
theorem dX3_finish_137 : decode cX3_finish 137 = .ok (.iload_n 2, 1) := by decide +kernel
theorem dX3_finish_138 : decode cX3_finish 138 = .ok (.iconst 0, 1) := by decide +kernel
theorem dX3_finish_139 : decode cX3_finish 139 = .ok (.bastore, 1) := by decide +kernel
theorem dX3_finish_140 : decode cX3_finish 140 = .ok (.goto 51, 3) := by decide +kernel
theorem dX3_finish_143 : decode cX3_finish 143 = .ok (.aload_n 0, 1) := by decide +kernel
theorem dX3_finish_144 : decode cX3_finish 144 = .ok (.getfield 9, 3) := by decide +kernel
theorem dX3_finish_147 : decode cX3_finish 147 = .ok (.iload_n 2, 1) := by decide +kernel
theorem dX3_finish_148 : decode cX3_finish 148 = .ok (.iaload, 1) := by decide +kernel
theorem dX3_finish_149 : decode cX3_finish 149 = .ok (.ifCond .le 22, 3) := by decide +kernel
theorem dX3_finish_152 : decode cX3_finish 152 = .ok (.aload_n 0, 1) := by decide +kernel
theorem dX3_finish_153 : decode cX3_finish 153 = .ok (.getfield 16, 3) := by decide +kernel
theorem dX3_finish_156 : decode cX3_finish 156 = .ok (.iload_n 2, 1) := by decide +kernel
theorem dX3_finish_157 : decode cX3_finish 157 = .ok (.iaload, 1) := by decide +kernel
theorem dX3_finish_158 : decode cX3_finish 158 = .ok (.aload_n 0, 1) := by decide +kernel
theorem dX3_finish_159 : decode cX3_finish 159 = .ok (.getfield 39, 3) := by decide +kernel
theorem dX3_finish_162 : decode cX3_finish 162 = .ok (.iload_n 1, 1) := by decide +kernel
theorem dX3_finish_163 : decode cX3_finish 163 = .ok (.iaload, 1) := by decide +kernel
theorem dX3_finish_164 : decode cX3_finish 164 = .ok (.if_icmp .ne 7, 3) := by decide +kernel
theorem dX3_finish_167 : decode cX3_finish 167 = .ok (.iconst 1, 1) := by decide +kernel
theorem dX3_finish_168 : decode cX3_finish 168 = .ok (.goto 4, 3) := by decide +kernel
theorem dX3_finish_171 : decode cX3_finish 171 = .ok (.iconst 0, 1) := by decide +kernel
theorem dX3_finish_172 : decode cX3_finish 172 = .ok (.istore_n 3, 1) := by decide +kernel
theorem dX3_finish_173 : decode cX3_finish 173 = .ok (.aload_n 0, 1) := by decide +kernel
theorem dX3_finish_174 : decode cX3_finish 174 = .ok (.getfield 16, 3) := by decide +kernel
theorem dX3_finish_177 : decode cX3_finish 177 = .ok (.iload_n 2, 1) := by decide +kernel
theorem dX3_finish_178 : decode cX3_finish 178 = .ok (.dup2, 1) := by decide +kernel
theorem dX3_finish_179 : decode cX3_finish 179 = .ok (.iaload, 1) := by decide +kernel
theorem dX3_finish_180 : decode cX3_finish 180 = .ok (.iload_n 3, 1) := by decide +kernel
theorem dX3_finish_181 : decode cX3_finish 181 = .ok (.ifCond .eq 7, 3) := by decide +kernel
theorem dX3_finish_184 : decode cX3_finish 184 = .ok (.iconst 1, 1) := by decide +kernel
theorem dX3_finish_185 : decode cX3_finish 185 = .ok (.goto 4, 3) := by decide +kernel
theorem dX3_finish_188 : decode cX3_finish 188 = .ok (.iconst 0, 1) := by decide +kernel
theorem dX3_finish_189 : decode cX3_finish 189 = .ok (.iadd, 1) := by decide +kernel
theorem dX3_finish_190 : decode cX3_finish 190 = .ok (.iastore, 1) := by decide +kernel
theorem dX3_finish_191 : decode cX3_finish 191 = .ok (.iload_n 3, 1) := by decide +kernel
theorem dX3_finish_192 : decode cX3_finish 192 = .ok (.ireturn, 1) := by decide +kernel
theorem dX3_back_0 : decode cX3_back 0 = .ok (.aload_n 0, 1) := by decide +kernel
theorem dX3_back_1 : decode cX3_back 1 = .ok (.getfield 45, 3) := by decide +kernel
theorem dX3_back_4 : decode cX3_back 4 = .ok (.iload_n 1, 1) := by decide +kernel
theorem dX3_back_5 : decode cX3_back 5 = .ok (.dup2, 1) := by decide +kernel
theorem dX3_back_6 : decode cX3_back 6 = .ok (.iaload, 1) := by decide +kernel
theorem dX3_back_7 : decode cX3_back 7 = .ok (.iconst 1, 1) := by decide +kernel
theorem dX3_back_8 : decode cX3_back 8 = .ok (.iadd, 1) := by decide +kernel
theorem dX3_back_9 : decode cX3_back 9 = .ok (.iastore, 1) := by decide +kernel
theorem dX3_back_10 : decode cX3_back 10 = .ok (.aload_n 0, 1) := by decide +kernel
theorem dX3_back_11 : decode cX3_back 11 = .ok (.getfield 48, 3) := by decide +kernel
theorem dX3_back_14 : decode cX3_back 14 = .ok (.iload_n 1, 1) := by decide +kernel
theorem dX3_back_15 : decode cX3_back 15 = .ok (.aload_n 0, 1) := by decide +kernel
theorem dX3_back_16 : decode cX3_back 16 = .ok (.getfield 45, 3) := by decide +kernel
theorem dX3_back_19 : decode cX3_back 19 = .ok (.iload_n 1, 1) := by decide +kernel
theorem dX3_back_20 : decode cX3_back 20 = .ok (.iaload, 1) := by decide +kernel
theorem dX3_back_21 : decode cX3_back 21 = .ok (.iconst 3, 1) := by decide +kernel
theorem dX3_back_22 : decode cX3_back 22 = .ok (.if_icmp .ne 8, 3) := by decide +kernel
theorem dX3_back_25 : decode cX3_back 25 = .ok (.bipush 120, 2) := by decide +kernel
theorem dX3_back_27 : decode cX3_back 27 = .ok (.goto 5, 3) := by decide +kernel
theorem dX3_back_30 : decode cX3_back 30 = .ok (.bipush 119, 2) := by decide +kernel
theorem dX3_back_32 : decode cX3_back 32 = .ok (.castore, 1) := by decide +kernel
theorem dX3_back_33 : decode cX3_back 33 = .ok (.aload_n 0, 1) := by decide +kernel
theorem dX3_back_34 : decode cX3_back 34 = .ok (.getfield 42, 3) := by decide +kernel
theorem dX3_back_37 : decode cX3_back 37 = .ok (.iload_n 1, 1) := by decide +kernel
theorem dX3_back_38 : decode cX3_back 38 = .ok (.aload_n 0, 1) := by decide +kernel
theorem dX3_back_39 : decode cX3_back 39 = .ok (.getfield 71, 3) := by decide +kernel
theorem dX3_back_42 : decode cX3_back 42 = .ok (.iconst 2, 1) := by decide +kernel
theorem dX3_back_43 : decode cX3_back 43 = .ok (.aload_n 0, 1) := by decide +kernel
theorem dX3_back_44 : decode cX3_back 44 = .ok (.getfield 45, 3) := by decide +kernel
theorem dX3_back_47 : decode cX3_back 47 = .ok (.iload_n 1, 1) := by decide +kernel
theorem dX3_back_48 : decode cX3_back 48 = .ok (.iaload, 1) := by decide +kernel
theorem dX3_back_49 : decode cX3_back 49 = .ok (.imul, 1) := by decide +kernel
theorem dX3_back_50 : decode cX3_back 50 = .ok (.iadd, 1) := by decide +kernel
theorem dX3_back_51 : decode cX3_back 51 = .ok (.iastore, 1) := by decide +kernel
theorem dX3_back_52 : decode cX3_back 52 = .ok (.aload_n 0, 1) := by decide +kernel
theorem dX3_back_53 : decode cX3_back 53 = .ok (.getfield 45, 3) := by decide +kernel
theorem dX3_back_56 : decode cX3_back 56 = .ok (.iload_n 1, 1) := by decide +kernel
theorem dX3_back_57 : decode cX3_back 57 = .ok (.iaload, 1) := by decide +kernel
theorem dX3_back_58 : decode cX3_back 58 = .ok (.ireturn, 1) := by decide +kernel
set_option maxRecDepth 20000 in
theorem ggX3_handBack_X3_noMessage : GoodIn wsX3_handBack wsX3_noMessage := goodIn_r _ [7, 8, 2, 9, 10, 6, 11, 19, 20, 21, 22, 23, 24, 25, 26, 27, 28, 29, 30, 31, 32, 33, 34, 35, 36, 37] (by decide +kernel) (by decide +kernel)
set_option maxRecDepth 20000 in
theorem gX3_handBack_X3_noMessage : GoodIn wsX3_handBack (wsV RX3 103 RX3 yX3_noMessage wsX3_noMessage) := goodIn_app (goodIn_of _ (by decide +kernel)) ggX3_handBack_X3_noMessage
set_option maxRecDepth 20000 in
theorem ggX3_handBack_X3_back : GoodIn wsX3_handBack wsX3_back := goodIn_ca (goodIn_r _ [15, 16, 1, 17, 18, 19, 20, 21, 22, 23, 24, 25, 26, 27, 28, 29, 30, 31, 32, 33, 34, 35, 36, 37] (by decide +kernel) (by decide +kernel)) (goodIn_sub (fun _ h => List.mem_cons_of_mem _ (List.mem_append_right _ h)) (by decide +kernel))
set_option maxRecDepth 20000 in
theorem gX3_handBack_X3_back : GoodIn wsX3_handBack (wsV RX3 119 RX3 yX3_back wsX3_back) := goodIn_app (goodIn_of _ (by decide +kernel)) ggX3_handBack_X3_back
theorem dX3_handBack_0 : decode cX3_handBack 0 = .ok (.aload_n 0, 1) := by decide +kernel
theorem dX3_handBack_1 : decode cX3_handBack 1 = .ok (.iload_n 1, 1) := by decide +kernel
theorem dX3_handBack_2 : decode cX3_handBack 2 = .ok (.invokevirtual 103, 3) := by decide +kernel
theorem dX3_handBack_5 : decode cX3_handBack 5 = .ok (.ifCond .eq 5, 3) := by decide +kernel
theorem dX3_handBack_8 : decode cX3_handBack 8 = .ok (.iconst 0, 1) := by decide +kernel
theorem dX3_handBack_9 : decode cX3_handBack 9 = .ok (.ireturn, 1) := by decide +kernel
theorem dX3_handBack_10 : decode cX3_handBack 10 = .ok (.aload_n 0, 1) := by decide +kernel
theorem dX3_handBack_11 : decode cX3_handBack 11 = .ok (.aload_n 0, 1) := by decide +kernel
theorem dX3_handBack_12 : decode cX3_handBack 12 = .ok (.getfield 48, 3) := by decide +kernel
theorem dX3_handBack_15 : decode cX3_handBack 15 = .ok (.iload_n 1, 1) := by decide +kernel
theorem dX3_handBack_16 : decode cX3_handBack 16 = .ok (.caload, 1) := by decide +kernel
theorem dX3_handBack_17 : decode cX3_handBack 17 = .ok (.bipush 116, 2) := by decide +kernel
theorem dX3_handBack_19 : decode cX3_handBack 19 = .ok (.if_icmp .ne 7, 3) := by decide +kernel
theorem dX3_handBack_22 : decode cX3_handBack 22 = .ok (.iconst 0, 1) := by decide +kernel
theorem dX3_handBack_23 : decode cX3_handBack 23 = .ok (.goto 4, 3) := by decide +kernel
theorem dX3_handBack_26 : decode cX3_handBack 26 = .ok (.iconst 2, 1) := by decide +kernel
theorem dX3_handBack_27 : decode cX3_handBack 27 = .ok (.putfield 57, 3) := by decide +kernel
theorem dX3_handBack_30 : decode cX3_handBack 30 = .ok (.aload_n 0, 1) := by decide +kernel
theorem dX3_handBack_31 : decode cX3_handBack 31 = .ok (.getfield 57, 3) := by decide +kernel
theorem dX3_handBack_34 : decode cX3_handBack 34 = .ok (.ifCond .le 7, 3) := by decide +kernel
theorem dX3_handBack_37 : decode cX3_handBack 37 = .ok (.iconst 0, 1) := by decide +kernel
theorem dX3_handBack_38 : decode cX3_handBack 38 = .ok (.goto 8, 3) := by decide +kernel
theorem dX3_handBack_41 : decode cX3_handBack 41 = .ok (.aload_n 0, 1) := by decide +kernel
theorem dX3_handBack_42 : decode cX3_handBack 42 = .ok (.iload_n 1, 1) := by decide +kernel
theorem dX3_handBack_43 : decode cX3_handBack 43 = .ok (.invokevirtual 119, 3) := by decide +kernel
theorem dX3_handBack_46 : decode cX3_handBack 46 = .ok (.ireturn, 1) := by decide +kernel
theorem dX3_in__0 : decode cX3_in_ 0 = .ok (.iconst 0, 1) := by decide +kernel
theorem dX3_in__1 : decode cX3_in_ 1 = .ok (.istore_n 2, 1) := by decide +kernel
theorem dX3_in__2 : decode cX3_in_ 2 = .ok (.iconst 0, 1) := by decide +kernel
theorem dX3_in__3 : decode cX3_in_ 3 = .ok (.istore_n 3, 1) := by decide +kernel
theorem dX3_in__4 : decode cX3_in_ 4 = .ok (.iload_n 3, 1) := by decide +kernel
theorem dX3_in__5 : decode cX3_in_ 5 = .ok (.aload_n 0, 1) := by decide +kernel
theorem dX3_in__6 : decode cX3_in_ 6 = .ok (.getfield 68, 3) := by decide +kernel
theorem dX3_in__9 : decode cX3_in_ 9 = .ok (.if_icmp .ge 27, 3) := by decide +kernel
theorem dX3_in__12 : decode cX3_in_ 12 = .ok (.iload_n 2, 1) := by decide +kernel
theorem dX3_in__13 : decode cX3_in_ 13 = .ok (.aload_n 0, 1) := by decide +kernel
theorem dX3_in__14 : decode cX3_in_ 14 = .ok (.getfield 48, 3) := by decide +kernel
theorem dX3_in__17 : decode cX3_in_ 17 = .ok (.iload_n 3, 1) := by decide +kernel
theorem dX3_in__18 : decode cX3_in_ 18 = .ok (.caload, 1) := by decide +kernel
theorem dX3_in__19 : decode cX3_in_ 19 = .ok (.iload_n 1, 1) := by decide +kernel
theorem dX3_in__20 : decode cX3_in_ 20 = .ok (.if_icmp .ne 7, 3) := by decide +kernel
theorem dX3_in__23 : decode cX3_in_ 23 = .ok (.iconst 1, 1) := by decide +kernel
theorem dX3_in__24 : decode cX3_in_ 24 = .ok (.goto 4, 3) := by decide +kernel
theorem dX3_in__27 : decode cX3_in_ 27 = .ok (.iconst 0, 1) := by decide +kernel
theorem dX3_in__28 : decode cX3_in_ 28 = .ok (.iadd, 1) := by decide +kernel
theorem dX3_in__29 : decode cX3_in_ 29 = .ok (.istore_n 2, 1) := by decide +kernel
theorem dX3_in__30 : decode cX3_in_ 30 = .ok (.iinc 3 1, 3) := by decide +kernel
theorem dX3_in__33 : decode cX3_in_ 33 = .ok (.goto (-29), 3) := by decide +kernel
theorem dX3_in__36 : decode cX3_in_ 36 = .ok (.iload_n 2, 1) := by decide +kernel
theorem dX3_in__37 : decode cX3_in_ 37 = .ok (.ireturn, 1) := by decide +kernel
set_option maxRecDepth 20000 in
theorem ggX3_revive_X3_noMessage : GoodIn wsX3_revive wsX3_noMessage := goodIn_r _ [10, 11, 2, 12, 13, 9, 14, 19, 20, 21, 22, 23, 24, 25, 26, 27, 28, 29, 30, 31, 32, 33, 34, 35, 36, 37] (by decide +kernel) (by decide +kernel)
set_option maxRecDepth 20000 in
theorem gX3_revive_X3_noMessage : GoodIn wsX3_revive (wsV RX3 103 RX3 yX3_noMessage wsX3_noMessage) := goodIn_app (goodIn_of _ (by decide +kernel)) ggX3_revive_X3_noMessage
set_option maxRecDepth 20000 in
theorem ggX3_revive_X3_in_ : GoodIn wsX3_revive wsX3_in_ := goodIn_ca (goodIn_r _ [18, 11, 1, 19, 20, 21, 22, 23, 24, 25, 26, 27, 28, 29, 30, 31, 32, 33, 34, 35, 36, 37] (by decide +kernel) (by decide +kernel)) (goodIn_sub (fun _ h => List.mem_cons_of_mem _ (List.mem_append_right _ h)) (by decide +kernel))
set_option maxRecDepth 20000 in
theorem gX3_revive_X3_in_ : GoodIn wsX3_revive (wsV RX3 122 RX3 yX3_in_ wsX3_in_) := goodIn_app (goodIn_of _ (by decide +kernel)) ggX3_revive_X3_in_
theorem dX3_revive_0 : decode cX3_revive 0 = .ok (.aload_n 0, 1) := by decide +kernel
theorem dX3_revive_1 : decode cX3_revive 1 = .ok (.iload_n 1, 1) := by decide +kernel
theorem dX3_revive_2 : decode cX3_revive 2 = .ok (.invokevirtual 103, 3) := by decide +kernel
theorem dX3_revive_5 : decode cX3_revive 5 = .ok (.ifCond .eq 5, 3) := by decide +kernel
theorem dX3_revive_8 : decode cX3_revive 8 = .ok (.iconst 0, 1) := by decide +kernel
theorem dX3_revive_9 : decode cX3_revive 9 = .ok (.ireturn, 1) := by decide +kernel
theorem dX3_revive_10 : decode cX3_revive 10 = .ok (.aload_n 0, 1) := by decide +kernel
theorem dX3_revive_11 : decode cX3_revive 11 = .ok (.aload_n 0, 1) := by decide +kernel
theorem dX3_revive_12 : decode cX3_revive 12 = .ok (.getfield 48, 3) := by decide +kernel
theorem dX3_revive_15 : decode cX3_revive 15 = .ok (.iload_n 1, 1) := by decide +kernel
theorem dX3_revive_16 : decode cX3_revive 16 = .ok (.caload, 1) := by decide +kernel
theorem dX3_revive_17 : decode cX3_revive 17 = .ok (.bipush 120, 2) := by decide +kernel
theorem dX3_revive_19 : decode cX3_revive 19 = .ok (.if_icmp .ne 7, 3) := by decide +kernel
theorem dX3_revive_22 : decode cX3_revive 22 = .ok (.iconst 0, 1) := by decide +kernel
theorem dX3_revive_23 : decode cX3_revive 23 = .ok (.goto 4, 3) := by decide +kernel
theorem dX3_revive_26 : decode cX3_revive 26 = .ok (.iconst 2, 1) := by decide +kernel
theorem dX3_revive_27 : decode cX3_revive 27 = .ok (.putfield 57, 3) := by decide +kernel
theorem dX3_revive_30 : decode cX3_revive 30 = .ok (.aload_n 0, 1) := by decide +kernel
theorem dX3_revive_31 : decode cX3_revive 31 = .ok (.getfield 57, 3) := by decide +kernel
theorem dX3_revive_34 : decode cX3_revive 34 = .ok (.ifCond .le 5, 3) := by decide +kernel
theorem dX3_revive_37 : decode cX3_revive 37 = .ok (.iconst 0, 1) := by decide +kernel
theorem dX3_revive_38 : decode cX3_revive 38 = .ok (.ireturn, 1) := by decide +kernel
theorem dX3_revive_39 : decode cX3_revive 39 = .ok (.aload_n 0, 1) := by decide +kernel
theorem dX3_revive_40 : decode cX3_revive 40 = .ok (.getfield 48, 3) := by decide +kernel
theorem dX3_revive_43 : decode cX3_revive 43 = .ok (.iload_n 1, 1) := by decide +kernel
theorem dX3_revive_44 : decode cX3_revive 44 = .ok (.bipush 119, 2) := by decide +kernel
theorem dX3_revive_46 : decode cX3_revive 46 = .ok (.castore, 1) := by decide +kernel
theorem dX3_revive_47 : decode cX3_revive 47 = .ok (.aload_n 0, 1) := by decide +kernel
theorem dX3_revive_48 : decode cX3_revive 48 = .ok (.getfield 42, 3) := by decide +kernel
theorem dX3_revive_51 : decode cX3_revive 51 = .ok (.iload_n 1, 1) := by decide +kernel
theorem dX3_revive_52 : decode cX3_revive 52 = .ok (.aload_n 0, 1) := by decide +kernel
theorem dX3_revive_53 : decode cX3_revive 53 = .ok (.getfield 71, 3) := by decide +kernel
theorem dX3_revive_56 : decode cX3_revive 56 = .ok (.iastore, 1) := by decide +kernel
theorem dX3_revive_57 : decode cX3_revive 57 = .ok (.aload_n 0, 1) := by decide +kernel
theorem dX3_revive_58 : decode cX3_revive 58 = .ok (.getfield 45, 3) := by decide +kernel
theorem dX3_revive_61 : decode cX3_revive 61 = .ok (.iload_n 1, 1) := by decide +kernel
theorem dX3_revive_62 : decode cX3_revive 62 = .ok (.iconst 0, 1) := by decide +kernel
theorem dX3_revive_63 : decode cX3_revive 63 = .ok (.iastore, 1) := by decide +kernel
theorem dX3_revive_64 : decode cX3_revive 64 = .ok (.aload_n 0, 1) := by decide +kernel
theorem dX3_revive_65 : decode cX3_revive 65 = .ok (.bipush 120, 2) := by decide +kernel
theorem dX3_revive_67 : decode cX3_revive 67 = .ok (.invokevirtual 122, 3) := by decide +kernel
theorem dX3_revive_70 : decode cX3_revive 70 = .ok (.ireturn, 1) := by decide +kernel
set_option maxRecDepth 20000 in
theorem ggX3_clerk_X3_noMessage : GoodIn wsX3_clerk wsX3_noMessage := goodIn_r _ [8, 9, 2, 10, 11, 7, 12, 13, 14, 15, 16, 17, 18, 19, 20, 21, 22, 23, 24, 25, 26, 27, 28, 29, 30, 31] (by decide +kernel) (by decide +kernel)
set_option maxRecDepth 20000 in
theorem gX3_clerk_X3_noMessage : GoodIn wsX3_clerk (wsV RX3 103 RX3 yX3_noMessage wsX3_noMessage) := goodIn_app (goodIn_of _ (by decide +kernel)) ggX3_clerk_X3_noMessage
theorem dX3_clerk_0 : decode cX3_clerk 0 = .ok (.aload_n 0, 1) := by decide +kernel
theorem dX3_clerk_1 : decode cX3_clerk 1 = .ok (.iload_n 1, 1) := by decide +kernel
theorem dX3_clerk_2 : decode cX3_clerk 2 = .ok (.invokevirtual 103, 3) := by decide +kernel
theorem dX3_clerk_5 : decode cX3_clerk 5 = .ok (.ifCond .eq 5, 3) := by decide +kernel
theorem dX3_clerk_8 : decode cX3_clerk 8 = .ok (.iconst 0, 1) := by decide +kernel
theorem dX3_clerk_9 : decode cX3_clerk 9 = .ok (.ireturn, 1) := by decide +kernel
theorem dX3_clerk_10 : decode cX3_clerk 10 = .ok (.aload_n 0, 1) := by decide +kernel
theorem dX3_clerk_11 : decode cX3_clerk 11 = .ok (.aload_n 0, 1) := by decide +kernel
theorem dX3_clerk_12 : decode cX3_clerk 12 = .ok (.getfield 48, 3) := by decide +kernel
theorem dX3_clerk_15 : decode cX3_clerk 15 = .ok (.iload_n 1, 1) := by decide +kernel
theorem dX3_clerk_16 : decode cX3_clerk 16 = .ok (.caload, 1) := by decide +kernel
theorem dX3_clerk_17 : decode cX3_clerk 17 = .ok (.bipush 116, 2) := by decide +kernel
theorem dX3_clerk_19 : decode cX3_clerk 19 = .ok (.if_icmp .ne 7, 3) := by decide +kernel
theorem dX3_clerk_22 : decode cX3_clerk 22 = .ok (.iconst 0, 1) := by decide +kernel
theorem dX3_clerk_23 : decode cX3_clerk 23 = .ok (.goto 4, 3) := by decide +kernel
theorem dX3_clerk_26 : decode cX3_clerk 26 = .ok (.iconst 2, 1) := by decide +kernel
theorem dX3_clerk_27 : decode cX3_clerk 27 = .ok (.putfield 57, 3) := by decide +kernel
theorem dX3_clerk_30 : decode cX3_clerk 30 = .ok (.aload_n 0, 1) := by decide +kernel
theorem dX3_clerk_31 : decode cX3_clerk 31 = .ok (.getfield 57, 3) := by decide +kernel
theorem dX3_clerk_34 : decode cX3_clerk 34 = .ok (.ifCond .le 7, 3) := by decide +kernel
theorem dX3_clerk_37 : decode cX3_clerk 37 = .ok (.iconst 0, 1) := by decide +kernel
theorem dX3_clerk_38 : decode cX3_clerk 38 = .ok (.goto 9, 3) := by decide +kernel
theorem dX3_clerk_41 : decode cX3_clerk 41 = .ok (.aload_n 0, 1) := by decide +kernel
theorem dX3_clerk_42 : decode cX3_clerk 42 = .ok (.getfield 51, 3) := by decide +kernel
theorem dX3_clerk_45 : decode cX3_clerk 45 = .ok (.iload_n 1, 1) := by decide +kernel
theorem dX3_clerk_46 : decode cX3_clerk 46 = .ok (.iaload, 1) := by decide +kernel
theorem dX3_clerk_47 : decode cX3_clerk 47 = .ok (.ireturn, 1) := by decide +kernel
set_option maxRecDepth 20000 in
theorem ggX3_has_X3_in : GoodIn wsX3_has wsX3_in := goodIn_r _ [5] (by decide +kernel) (by decide +kernel)
set_option maxRecDepth 20000 in
theorem gX3_has_X3_in : GoodIn wsX3_has (va_wsS RX3 64 yX3_in wsX3_in) := goodIn_app (goodIn_of _ (by decide +kernel)) ggX3_has_X3_in
set_option maxRecDepth 20000 in
theorem ggX3_has_X3_taken : GoodIn wsX3_has wsX3_taken := goodIn_ca (goodIn_r _ [9, 10, 11, 12, 13, 14, 15, 16, 17, 18, 19, 20, 21, 22, 23, 24, 25, 26, 27, 28, 29, 30, 31] (by decide +kernel) (by decide +kernel)) (goodIn_sub (fun _ h => List.mem_cons_of_mem _ (List.mem_append_right _ h)) (by decide +kernel))
set_option maxRecDepth 20000 in
theorem gX3_has_X3_taken : GoodIn wsX3_has (wsV RX3 116 RX3 yX3_taken wsX3_taken) := goodIn_app (goodIn_of _ (by decide +kernel)) ggX3_has_X3_taken
theorem dX3_has_0 : decode cX3_has 0 = .ok (.aload_n 0, 1) := by decide +kernel
theorem dX3_has_1 : decode cX3_has 1 = .ok (.iload_n 1, 1) := by decide +kernel
theorem dX3_has_2 : decode cX3_has 2 = .ok (.iconst 0, 1) := by decide +kernel
theorem dX3_has_3 : decode cX3_has 3 = .ok (.iconst 3, 1) := by decide +kernel
theorem dX3_has_4 : decode cX3_has 4 = .ok (.invokestatic 64, 3) := by decide +kernel
theorem dX3_has_7 : decode cX3_has 7 = .ok (.ifCond .eq 7, 3) := by decide +kernel
theorem dX3_has_10 : decode cX3_has 10 = .ok (.iconst 0, 1) := by decide +kernel
theorem dX3_has_11 : decode cX3_has 11 = .ok (.goto 4, 3) := by decide +kernel
theorem dX3_has_14 : decode cX3_has 14 = .ok (.iconst 1, 1) := by decide +kernel
theorem dX3_has_15 : decode cX3_has 15 = .ok (.putfield 57, 3) := by decide +kernel
theorem dX3_has_18 : decode cX3_has 18 = .ok (.aload_n 0, 1) := by decide +kernel
theorem dX3_has_19 : decode cX3_has 19 = .ok (.getfield 57, 3) := by decide +kernel
theorem dX3_has_22 : decode cX3_has 22 = .ok (.ifCond .le 7, 3) := by decide +kernel
theorem dX3_has_25 : decode cX3_has 25 = .ok (.iconst 0, 1) := by decide +kernel
theorem dX3_has_26 : decode cX3_has 26 = .ok (.goto 8, 3) := by decide +kernel
theorem dX3_has_29 : decode cX3_has 29 = .ok (.aload_n 0, 1) := by decide +kernel
theorem dX3_has_30 : decode cX3_has 30 = .ok (.iload_n 1, 1) := by decide +kernel
theorem dX3_has_31 : decode cX3_has 31 = .ok (.invokevirtual 116, 3) := by decide +kernel
theorem dX3_has_34 : decode cX3_has 34 = .ok (.ireturn, 1) := by decide +kernel
set_option maxRecDepth 20000 in
theorem ggX3_passes_X3_back : GoodIn wsX3_passes wsX3_back := goodIn_ca (goodIn_r _ [11, 12, 3, 13, 1, 43, 44, 45, 46, 47, 48, 49, 50, 51, 52, 53, 54, 55, 56, 57, 58, 59, 60, 61] (by decide +kernel) (by decide +kernel)) (goodIn_sub (fun _ h => List.mem_cons_of_mem _ (List.mem_append_right _ h)) (by decide +kernel))
set_option maxRecDepth 20000 in
theorem gX3_passes_X3_back : GoodIn wsX3_passes (wsV RX3 119 RX3 yX3_back wsX3_back) := goodIn_app (goodIn_of _ (by decide +kernel)) ggX3_passes_X3_back
set_option maxRecDepth 20000 in
theorem ggX3_passes_X3_mayRemind : GoodIn wsX3_passes wsX3_mayRemind := goodIn_ca (goodIn_r _ [17, 18, 19, 6, 20, 21, 22, 10, 23, 2, 24, 43, 44, 45, 46, 47, 48, 49, 50, 51, 52, 53, 54, 55, 56, 57, 58, 59, 60, 61] (by decide +kernel) (by decide +kernel)) (goodIn_sub (fun _ h => List.mem_cons_of_mem _ (List.mem_append_right _ h)) (by decide +kernel))
set_option maxRecDepth 20000 in
theorem gX3_passes_X3_mayRemind : GoodIn wsX3_passes (wsV RX3 90 RX3 yX3_mayRemind wsX3_mayRemind) := goodIn_app (goodIn_of _ (by decide +kernel)) ggX3_passes_X3_mayRemind
set_option maxRecDepth 20000 in
theorem ggX3_passes_X3_remindsFrom : GoodIn wsX3_passes wsX3_remindsFrom := goodIn_ca (goodIn_r _ [28, 29, 30, 6, 31, 32, 33, 34, 43, 44, 45, 46, 47, 48, 49, 50, 51, 52, 53, 54, 55, 56, 57, 58, 59, 60, 61] (by decide +kernel) (by decide +kernel)) (goodIn_sub (fun _ h => List.mem_cons_of_mem _ (List.mem_append_right _ h)) (by decide +kernel))
set_option maxRecDepth 20000 in
theorem gX3_passes_X3_remindsFrom : GoodIn wsX3_passes (wsV RX3 93 RX3 yX3_remindsFrom wsX3_remindsFrom) := goodIn_app (goodIn_of _ (by decide +kernel)) ggX3_passes_X3_remindsFrom
set_option maxRecDepth 20000 in
theorem ggX3_passes_X3_adds : GoodIn wsX3_passes wsX3_adds := goodIn_ca (goodIn_r _ [38, 39, 2, 24, 40, 41, 42, 13, 3, 5, 43, 44, 45, 46, 47, 48, 49, 50, 51, 52, 53, 54, 55, 56, 57, 58, 59, 60, 61] (by decide +kernel) (by decide +kernel)) (goodIn_sub (fun _ h => List.mem_cons_of_mem _ (List.mem_append_right _ h)) (by decide +kernel))
set_option maxRecDepth 20000 in
theorem gX3_passes_X3_adds : GoodIn wsX3_passes (wsV RX3 99 RX3 yX3_adds wsX3_adds) := goodIn_app (goodIn_of _ (by decide +kernel)) ggX3_passes_X3_adds
theorem dX3_passes_0 : decode cX3_passes 0 = .ok (.aload_n 0, 1) := by decide +kernel
theorem dX3_passes_1 : decode cX3_passes 1 = .ok (.dup, 1) := by decide +kernel
theorem dX3_passes_2 : decode cX3_passes 2 = .ok (.getfield 71, 3) := by decide +kernel
theorem dX3_passes_5 : decode cX3_passes 5 = .ok (.iconst 1, 1) := by decide +kernel
theorem dX3_passes_6 : decode cX3_passes 6 = .ok (.iadd, 1) := by decide +kernel
theorem dX3_passes_7 : decode cX3_passes 7 = .ok (.putfield 71, 3) := by decide +kernel
theorem dX3_passes_10 : decode cX3_passes 10 = .ok (.iconst 0, 1) := by decide +kernel
theorem dX3_passes_11 : decode cX3_passes 11 = .ok (.istore_n 1, 1) := by decide +kernel
theorem dX3_passes_12 : decode cX3_passes 12 = .ok (.iload_n 1, 1) := by decide +kernel
theorem dX3_passes_13 : decode cX3_passes 13 = .ok (.aload_n 0, 1) := by decide +kernel
theorem dX3_passes_14 : decode cX3_passes 14 = .ok (.getfield 68, 3) := by decide +kernel
theorem dX3_passes_17 : decode cX3_passes 17 = .ok (.if_icmp .ge 41, 3) := by decide +kernel
theorem dX3_passes_20 : decode cX3_passes 20 = .ok (.aload_n 0, 1) := by decide +kernel
theorem dX3_passes_21 : decode cX3_passes 21 = .ok (.getfield 48, 3) := by decide +kernel
theorem dX3_passes_24 : decode cX3_passes 24 = .ok (.iload_n 1, 1) := by decide +kernel
theorem dX3_passes_25 : decode cX3_passes 25 = .ok (.caload, 1) := by decide +kernel
theorem dX3_passes_26 : decode cX3_passes 26 = .ok (.bipush 116, 2) := by decide +kernel
theorem dX3_passes_28 : decode cX3_passes 28 = .ok (.if_icmp .ne 24, 3) := by decide +kernel
theorem dX3_passes_31 : decode cX3_passes 31 = .ok (.aload_n 0, 1) := by decide +kernel
theorem dX3_passes_32 : decode cX3_passes 32 = .ok (.getfield 71, 3) := by decide +kernel
theorem dX3_passes_35 : decode cX3_passes 35 = .ok (.aload_n 0, 1) := by decide +kernel
theorem dX3_passes_36 : decode cX3_passes 36 = .ok (.getfield 54, 3) := by decide +kernel
theorem dX3_passes_39 : decode cX3_passes 39 = .ok (.iload_n 1, 1) := by decide +kernel
theorem dX3_passes_40 : decode cX3_passes 40 = .ok (.iaload, 1) := by decide +kernel
theorem dX3_passes_41 : decode cX3_passes 41 = .ok (.isub, 1) := by decide +kernel
theorem dX3_passes_42 : decode cX3_passes 42 = .ok (.iconst 5, 1) := by decide +kernel
theorem dX3_passes_43 : decode cX3_passes 43 = .ok (.if_icmp .lt 9, 3) := by decide +kernel
theorem dX3_passes_46 : decode cX3_passes 46 = .ok (.aload_n 0, 1) := by decide +kernel
theorem dX3_passes_47 : decode cX3_passes 47 = .ok (.iload_n 1, 1) := by decide +kernel
theorem dX3_passes_48 : decode cX3_passes 48 = .ok (.invokevirtual 119, 3) := by decide +kernel
theorem dX3_passes_51 : decode cX3_passes 51 = .ok (.istore_n 2, 1) := by decide +kernel
theorem dX3_passes_52 : decode cX3_passes 52 = .ok (.iinc 1 1, 3) := by decide +kernel
theorem dX3_passes_55 : decode cX3_passes 55 = .ok (.goto (-43), 3) := by decide +kernel
theorem dX3_passes_58 : decode cX3_passes 58 = .ok (.iconst 0, 1) := by decide +kernel
theorem dX3_passes_59 : decode cX3_passes 59 = .ok (.istore_n 1, 1) := by decide +kernel
theorem dX3_passes_60 : decode cX3_passes 60 = .ok (.iconst 0, 1) := by decide +kernel
theorem dX3_passes_61 : decode cX3_passes 61 = .ok (.istore_n 2, 1) := by decide +kernel
theorem dX3_passes_62 : decode cX3_passes 62 = .ok (.iload_n 2, 1) := by decide +kernel
theorem dX3_passes_63 : decode cX3_passes 63 = .ok (.aload_n 0, 1) := by decide +kernel
theorem dX3_passes_64 : decode cX3_passes 64 = .ok (.getfield 61, 3) := by decide +kernel
theorem dX3_passes_67 : decode cX3_passes 67 = .ok (.if_icmp .ge 75, 3) := by decide +kernel
theorem dX3_passes_70 : decode cX3_passes 70 = .ok (.aload_n 0, 1) := by decide +kernel
theorem dX3_passes_71 : decode cX3_passes 71 = .ok (.getfield 68, 3) := by decide +kernel
theorem dX3_passes_74 : decode cX3_passes 74 = .ok (.bipush 80, 2) := by decide +kernel
theorem dX3_passes_76 : decode cX3_passes 76 = .ok (.if_icmp .ge 60, 3) := by decide +kernel
theorem dX3_passes_79 : decode cX3_passes 79 = .ok (.aload_n 0, 1) := by decide +kernel
theorem dX3_passes_80 : decode cX3_passes 80 = .ok (.iload_n 2, 1) := by decide +kernel
theorem dX3_passes_81 : decode cX3_passes 81 = .ok (.invokevirtual 90, 3) := by decide +kernel
theorem dX3_passes_84 : decode cX3_passes 84 = .ok (.ifCond .eq 52, 3) := by decide +kernel
theorem dX3_passes_87 : decode cX3_passes 87 = .ok (.aload_n 0, 1) := by decide +kernel
theorem dX3_passes_88 : decode cX3_passes 88 = .ok (.getfield 71, 3) := by decide +kernel
theorem dX3_passes_91 : decode cX3_passes 91 = .ok (.aload_n 0, 1) := by decide +kernel
theorem dX3_passes_92 : decode cX3_passes 92 = .ok (.iload_n 2, 1) := by decide +kernel
theorem dX3_passes_93 : decode cX3_passes 93 = .ok (.invokevirtual 93, 3) := by decide +kernel
theorem dX3_passes_96 : decode cX3_passes 96 = .ok (.if_icmp .lt 40, 3) := by decide +kernel
theorem dX3_passes_99 : decode cX3_passes 99 = .ok (.aload_n 0, 1) := by decide +kernel
theorem dX3_passes_100 : decode cX3_passes 100 = .ok (.iconst 0, 1) := by decide +kernel
theorem dX3_passes_101 : decode cX3_passes 101 = .ok (.sipush 1000, 3) := by decide +kernel
theorem dX3_passes_104 : decode cX3_passes 104 = .ok (.bipush 10, 2) := by decide +kernel
theorem dX3_passes_106 : decode cX3_passes 106 = .ok (.iload_n 2, 1) := by decide +kernel
theorem dX3_passes_107 : decode cX3_passes 107 = .ok (.imul, 1) := by decide +kernel
theorem dX3_passes_108 : decode cX3_passes 108 = .ok (.iadd, 1) := by decide +kernel
theorem dX3_passes_109 : decode cX3_passes 109 = .ok (.aload_n 0, 1) := by decide +kernel
theorem dX3_passes_110 : decode cX3_passes 110 = .ok (.getfield 16, 3) := by decide +kernel
theorem dX3_passes_113 : decode cX3_passes 113 = .ok (.iload_n 2, 1) := by decide +kernel
theorem dX3_passes_114 : decode cX3_passes 114 = .ok (.iaload, 1) := by decide +kernel
theorem dX3_passes_115 : decode cX3_passes 115 = .ok (.iadd, 1) := by decide +kernel
theorem dX3_passes_116 : decode cX3_passes 116 = .ok (.bipush 114, 2) := by decide +kernel
theorem dX3_passes_118 : decode cX3_passes 118 = .ok (.iload_n 2, 1) := by decide +kernel
theorem dX3_passes_119 : decode cX3_passes 119 = .ok (.aload_n 0, 1) := by decide +kernel
theorem dX3_passes_120 : decode cX3_passes 120 = .ok (.getfield 16, 3) := by decide +kernel
theorem dX3_passes_123 : decode cX3_passes 123 = .ok (.iload_n 2, 1) := by decide +kernel
theorem dX3_passes_124 : decode cX3_passes 124 = .ok (.iaload, 1) := by decide +kernel
theorem dX3_passes_125 : decode cX3_passes 125 = .ok (.aload_n 0, 1) := by decide +kernel
theorem dX3_passes_126 : decode cX3_passes 126 = .ok (.getfield 71, 3) := by decide +kernel
theorem dX3_passes_129 : decode cX3_passes 129 = .ok (.invokevirtual 99, 3) := by decide +kernel
theorem dX3_passes_132 : decode cX3_passes 132 = .ok (.istore_n 3, 1) := by decide +kernel
theorem dX3_passes_133 : decode cX3_passes 133 = .ok (.iinc 1 1, 3) := by decide +kernel
theorem dX3_passes_136 : decode cX3_passes 136 = .ok (.iinc 2 1, 3) := by decide +kernel
theorem dX3_passes_139 : decode cX3_passes 139 = .ok (.goto (-77), 3) := by decide +kernel
theorem dX3_passes_142 : decode cX3_passes 142 = .ok (.iload_n 1, 1) := by decide +kernel
theorem dX3_passes_143 : decode cX3_passes 143 = .ok (.ireturn, 1) := by decide +kernel
set_option maxRecDepth 20000 in
theorem ggX3_pass_X3_in : GoodIn wsX3_pass wsX3_in := goodIn_r _ [6] (by decide +kernel) (by decide +kernel)
set_option maxRecDepth 20000 in
theorem gX3_pass_X3_in : GoodIn wsX3_pass (va_wsS RX3 64 yX3_in wsX3_in) := goodIn_app (goodIn_of _ (by decide +kernel)) ggX3_pass_X3_in
set_option maxRecDepth 20000 in
theorem ggX3_pass_X3_passes : GoodIn wsX3_pass wsX3_passes := goodIn_ca (goodIn_r _ [10, 1, 11, 12, 13, 14, 15, 16, 17, 18, 5, 19, 20, 21, 22, 23, 24, 25, 26, 27, 28, 29, 30, 31, 32, 33, 34, 35, 36, 37, 38, 39, 40, 41, 42, 43, 44, 45, 46, 47, 48, 49, 50, 51, 52, 53, 54, 55, 56, 57, 58, 59, 60, 61, 62, 63, 64, 65, 66, 67, 68, 69] (by decide +kernel) (by decide +kernel)) (goodIn_sub (fun _ h => List.mem_cons_of_mem _ (List.mem_append_right _ h)) (by decide +kernel))
set_option maxRecDepth 20000 in
theorem gX3_pass_X3_passes : GoodIn wsX3_pass (wsV RX3 125 RX3 yX3_passes wsX3_passes) := goodIn_app (goodIn_of _ (by decide +kernel)) ggX3_pass_X3_passes
theorem dX3_pass_0 : decode cX3_pass 0 = .ok (.aload_n 0, 1) := by decide +kernel
theorem dX3_pass_1 : decode cX3_pass 1 = .ok (.iload_n 1, 1) := by decide +kernel
theorem dX3_pass_2 : decode cX3_pass 2 = .ok (.iconst 1, 1) := by decide +kernel
theorem dX3_pass_3 : decode cX3_pass 3 = .ok (.bipush 30, 2) := by decide +kernel
theorem dX3_pass_5 : decode cX3_pass 5 = .ok (.invokestatic 64, 3) := by decide +kernel
theorem dX3_pass_8 : decode cX3_pass 8 = .ok (.ifCond .eq 19, 3) := by decide +kernel
theorem dX3_pass_11 : decode cX3_pass 11 = .ok (.aload_n 0, 1) := by decide +kernel
theorem dX3_pass_12 : decode cX3_pass 12 = .ok (.getfield 71, 3) := by decide +kernel
theorem dX3_pass_15 : decode cX3_pass 15 = .ok (.iload_n 1, 1) := by decide +kernel
theorem dX3_pass_16 : decode cX3_pass 16 = .ok (.iadd, 1) := by decide +kernel
theorem dX3_pass_17 : decode cX3_pass 17 = .ok (.sipush 999, 3) := by decide +kernel
theorem dX3_pass_20 : decode cX3_pass 20 = .ok (.if_icmp .gt 7, 3) := by decide +kernel
theorem dX3_pass_23 : decode cX3_pass 23 = .ok (.iconst 0, 1) := by decide +kernel
theorem dX3_pass_24 : decode cX3_pass 24 = .ok (.goto 4, 3) := by decide +kernel
theorem dX3_pass_27 : decode cX3_pass 27 = .ok (.iconst 1, 1) := by decide +kernel
theorem dX3_pass_28 : decode cX3_pass 28 = .ok (.putfield 57, 3) := by decide +kernel
theorem dX3_pass_31 : decode cX3_pass 31 = .ok (.iconst 0, 1) := by decide +kernel
theorem dX3_pass_32 : decode cX3_pass 32 = .ok (.istore_n 2, 1) := by decide +kernel
theorem dX3_pass_33 : decode cX3_pass 33 = .ok (.iconst 0, 1) := by decide +kernel
theorem dX3_pass_34 : decode cX3_pass 34 = .ok (.istore_n 3, 1) := by decide +kernel
theorem dX3_pass_35 : decode cX3_pass 35 = .ok (.iload_n 3, 1) := by decide +kernel
theorem dX3_pass_36 : decode cX3_pass 36 = .ok (.iload_n 1, 1) := by decide +kernel
theorem dX3_pass_37 : decode cX3_pass 37 = .ok (.if_icmp .ge 23, 3) := by decide +kernel
theorem dX3_pass_40 : decode cX3_pass 40 = .ok (.aload_n 0, 1) := by decide +kernel
theorem dX3_pass_41 : decode cX3_pass 41 = .ok (.getfield 57, 3) := by decide +kernel
theorem dX3_pass_44 : decode cX3_pass 44 = .ok (.ifCond .ne 16, 3) := by decide +kernel
theorem dX3_pass_47 : decode cX3_pass 47 = .ok (.iload_n 2, 1) := by decide +kernel
theorem dX3_pass_48 : decode cX3_pass 48 = .ok (.aload_n 0, 1) := by decide +kernel
theorem dX3_pass_49 : decode cX3_pass 49 = .ok (.invokevirtual 125, 3) := by decide +kernel
theorem dX3_pass_52 : decode cX3_pass 52 = .ok (.iadd, 1) := by decide +kernel
theorem dX3_pass_53 : decode cX3_pass 53 = .ok (.istore_n 2, 1) := by decide +kernel
theorem dX3_pass_54 : decode cX3_pass 54 = .ok (.iinc 3 1, 3) := by decide +kernel
theorem dX3_pass_57 : decode cX3_pass 57 = .ok (.goto (-22), 3) := by decide +kernel
theorem dX3_pass_60 : decode cX3_pass 60 = .ok (.iload_n 2, 1) := by decide +kernel
theorem dX3_pass_61 : decode cX3_pass 61 = .ok (.ireturn, 1) := by decide +kernel
theorem dX3_day_0 : decode cX3_day 0 = .ok (.aload_n 0, 1) := by decide +kernel
theorem dX3_day_1 : decode cX3_day 1 = .ok (.iconst 0, 1) := by decide +kernel
theorem dX3_day_2 : decode cX3_day 2 = .ok (.putfield 57, 3) := by decide +kernel
theorem dX3_day_5 : decode cX3_day 5 = .ok (.aload_n 0, 1) := by decide +kernel
theorem dX3_day_6 : decode cX3_day 6 = .ok (.getfield 71, 3) := by decide +kernel
theorem dX3_day_9 : decode cX3_day 9 = .ok (.ireturn, 1) := by decide +kernel
set_option maxRecDepth 20000 in
theorem ggX3_count_X3_in_ : GoodIn wsX3_count wsX3_in_ := goodIn_ca (goodIn_r _ [6, 7, 8, 9, 10, 11, 12, 13, 14, 15, 16, 17, 18, 19, 20, 21, 22, 23, 24, 25, 26, 27] (by decide +kernel) (by decide +kernel)) (goodIn_sub (fun _ h => List.mem_cons_of_mem _ (List.mem_append_right _ h)) (by decide +kernel))
set_option maxRecDepth 20000 in
theorem gX3_count_X3_in_ : GoodIn wsX3_count (wsV RX3 122 RX3 yX3_in_ wsX3_in_) := goodIn_app (goodIn_of _ (by decide +kernel)) ggX3_count_X3_in_
theorem dX3_count_0 : decode cX3_count 0 = .ok (.aload_n 0, 1) := by decide +kernel
theorem dX3_count_1 : decode cX3_count 1 = .ok (.iload_n 1, 1) := by decide +kernel
theorem dX3_count_2 : decode cX3_count 2 = .ok (.bipush 104, 2) := by decide +kernel
theorem dX3_count_4 : decode cX3_count 4 = .ok (.if_icmp .eq 27, 3) := by decide +kernel
theorem dX3_count_7 : decode cX3_count 7 = .ok (.iload_n 1, 1) := by decide +kernel
theorem dX3_count_8 : decode cX3_count 8 = .ok (.bipush 119, 2) := by decide +kernel
theorem dX3_count_10 : decode cX3_count 10 = .ok (.if_icmp .eq 21, 3) := by decide +kernel
theorem dX3_count_13 : decode cX3_count 13 = .ok (.iload_n 1, 1) := by decide +kernel
theorem dX3_count_14 : decode cX3_count 14 = .ok (.bipush 116, 2) := by decide +kernel
theorem dX3_count_16 : decode cX3_count 16 = .ok (.if_icmp .eq 15, 3) := by decide +kernel
theorem dX3_count_19 : decode cX3_count 19 = .ok (.iload_n 1, 1) := by decide +kernel
theorem dX3_count_20 : decode cX3_count 20 = .ok (.bipush 100, 2) := by decide +kernel
theorem dX3_count_22 : decode cX3_count 22 = .ok (.if_icmp .eq 9, 3) := by decide +kernel
theorem dX3_count_25 : decode cX3_count 25 = .ok (.iload_n 1, 1) := by decide +kernel
theorem dX3_count_26 : decode cX3_count 26 = .ok (.bipush 120, 2) := by decide +kernel
theorem dX3_count_28 : decode cX3_count 28 = .ok (.if_icmp .ne 7, 3) := by decide +kernel
theorem dX3_count_31 : decode cX3_count 31 = .ok (.iconst 0, 1) := by decide +kernel
theorem dX3_count_32 : decode cX3_count 32 = .ok (.goto 4, 3) := by decide +kernel
theorem dX3_count_35 : decode cX3_count 35 = .ok (.iconst 1, 1) := by decide +kernel
theorem dX3_count_36 : decode cX3_count 36 = .ok (.putfield 57, 3) := by decide +kernel
theorem dX3_count_39 : decode cX3_count 39 = .ok (.aload_n 0, 1) := by decide +kernel
theorem dX3_count_40 : decode cX3_count 40 = .ok (.getfield 57, 3) := by decide +kernel
theorem dX3_count_43 : decode cX3_count 43 = .ok (.ifCond .le 7, 3) := by decide +kernel
theorem dX3_count_46 : decode cX3_count 46 = .ok (.iconst 0, 1) := by decide +kernel
theorem dX3_count_47 : decode cX3_count 47 = .ok (.goto 8, 3) := by decide +kernel
theorem dX3_count_50 : decode cX3_count 50 = .ok (.aload_n 0, 1) := by decide +kernel
theorem dX3_count_51 : decode cX3_count 51 = .ok (.iload_n 1, 1) := by decide +kernel
theorem dX3_count_52 : decode cX3_count 52 = .ok (.invokevirtual 122, 3) := by decide +kernel
theorem dX3_count_55 : decode cX3_count 55 = .ok (.ireturn, 1) := by decide +kernel
set_option maxRecDepth 20000 in
theorem ggX3_doneShare_X3_in_ : GoodIn wsX3_doneShare wsX3_in_ := goodIn_ca (goodIn_r _ [7, 1, 8, 9, 10, 11, 12, 13, 14, 15, 16, 17, 18, 19, 20, 21, 22, 23, 24, 25, 26, 27] (by decide +kernel) (by decide +kernel)) (goodIn_sub (fun _ h => List.mem_cons_of_mem _ (List.mem_append_right _ h)) (by decide +kernel))
set_option maxRecDepth 20000 in
theorem gX3_doneShare_X3_in_ : GoodIn wsX3_doneShare (wsV RX3 122 RX3 yX3_in_ wsX3_in_) := goodIn_app (goodIn_of _ (by decide +kernel)) ggX3_doneShare_X3_in_
theorem dX3_doneShare_0 : decode cX3_doneShare 0 = .ok (.aload_n 0, 1) := by decide +kernel
theorem dX3_doneShare_1 : decode cX3_doneShare 1 = .ok (.aload_n 0, 1) := by decide +kernel
theorem dX3_doneShare_2 : decode cX3_doneShare 2 = .ok (.getfield 68, 3) := by decide +kernel
theorem dX3_doneShare_5 : decode cX3_doneShare 5 = .ok (.ifCond .ne 7, 3) := by decide +kernel
theorem dX3_doneShare_8 : decode cX3_doneShare 8 = .ok (.iconst 1, 1) := by decide +kernel
theorem dX3_doneShare_9 : decode cX3_doneShare 9 = .ok (.goto 4, 3) := by decide +kernel
theorem dX3_doneShare_12 : decode cX3_doneShare 12 = .ok (.iconst 0, 1) := by decide +kernel
theorem dX3_doneShare_13 : decode cX3_doneShare 13 = .ok (.putfield 57, 3) := by decide +kernel
theorem dX3_doneShare_16 : decode cX3_doneShare 16 = .ok (.aload_n 0, 1) := by decide +kernel
theorem dX3_doneShare_17 : decode cX3_doneShare 17 = .ok (.getfield 57, 3) := by decide +kernel
theorem dX3_doneShare_20 : decode cX3_doneShare 20 = .ok (.ifCond .le 7, 3) := by decide +kernel
theorem dX3_doneShare_23 : decode cX3_doneShare 23 = .ok (.fconst 0, 1) := by decide +kernel
theorem dX3_doneShare_24 : decode cX3_doneShare 24 = .ok (.goto 16, 3) := by decide +kernel
theorem dX3_doneShare_27 : decode cX3_doneShare 27 = .ok (.aload_n 0, 1) := by decide +kernel
theorem dX3_doneShare_28 : decode cX3_doneShare 28 = .ok (.bipush 100, 2) := by decide +kernel
theorem dX3_doneShare_30 : decode cX3_doneShare 30 = .ok (.invokevirtual 122, 3) := by decide +kernel
theorem dX3_doneShare_33 : decode cX3_doneShare 33 = .ok (.i2f, 1) := by decide +kernel
theorem dX3_doneShare_34 : decode cX3_doneShare 34 = .ok (.aload_n 0, 1) := by decide +kernel
theorem dX3_doneShare_35 : decode cX3_doneShare 35 = .ok (.getfield 68, 3) := by decide +kernel
theorem dX3_doneShare_38 : decode cX3_doneShare 38 = .ok (.i2f, 1) := by decide +kernel
theorem dX3_doneShare_39 : decode cX3_doneShare 39 = .ok (.fdiv, 1) := by decide +kernel
theorem dX3_doneShare_40 : decode cX3_doneShare 40 = .ok (.freturn, 1) := by decide +kernel
theorem dX3_meanAmount_0 : decode cX3_meanAmount 0 = .ok (.iconst 0, 1) := by decide +kernel
theorem dX3_meanAmount_1 : decode cX3_meanAmount 1 = .ok (.istore_n 1, 1) := by decide +kernel
theorem dX3_meanAmount_2 : decode cX3_meanAmount 2 = .ok (.iconst 0, 1) := by decide +kernel
theorem dX3_meanAmount_3 : decode cX3_meanAmount 3 = .ok (.istore_n 2, 1) := by decide +kernel
theorem dX3_meanAmount_4 : decode cX3_meanAmount 4 = .ok (.iconst 0, 1) := by decide +kernel
theorem dX3_meanAmount_5 : decode cX3_meanAmount 5 = .ok (.istore_n 3, 1) := by decide +kernel
theorem dX3_meanAmount_6 : decode cX3_meanAmount 6 = .ok (.iload_n 3, 1) := by decide +kernel
theorem dX3_meanAmount_7 : decode cX3_meanAmount 7 = .ok (.aload_n 0, 1) := by decide +kernel
theorem dX3_meanAmount_8 : decode cX3_meanAmount 8 = .ok (.getfield 61, 3) := by decide +kernel
theorem dX3_meanAmount_11 : decode cX3_meanAmount 11 = .ok (.if_icmp .ge 35, 3) := by decide +kernel
theorem dX3_meanAmount_14 : decode cX3_meanAmount 14 = .ok (.iload_n 1, 1) := by decide +kernel
theorem dX3_meanAmount_15 : decode cX3_meanAmount 15 = .ok (.aload_n 0, 1) := by decide +kernel
theorem dX3_meanAmount_16 : decode cX3_meanAmount 16 = .ok (.getfield 9, 3) := by decide +kernel
theorem dX3_meanAmount_19 : decode cX3_meanAmount 19 = .ok (.iload_n 3, 1) := by decide +kernel
theorem dX3_meanAmount_20 : decode cX3_meanAmount 20 = .ok (.iaload, 1) := by decide +kernel
theorem dX3_meanAmount_21 : decode cX3_meanAmount 21 = .ok (.iadd, 1) := by decide +kernel
theorem dX3_meanAmount_22 : decode cX3_meanAmount 22 = .ok (.istore_n 1, 1) := by decide +kernel
theorem dX3_meanAmount_23 : decode cX3_meanAmount 23 = .ok (.iload_n 2, 1) := by decide +kernel
theorem dX3_meanAmount_24 : decode cX3_meanAmount 24 = .ok (.aload_n 0, 1) := by decide +kernel
theorem dX3_meanAmount_25 : decode cX3_meanAmount 25 = .ok (.getfield 9, 3) := by decide +kernel
theorem dX3_meanAmount_28 : decode cX3_meanAmount 28 = .ok (.iload_n 3, 1) := by decide +kernel
theorem dX3_meanAmount_29 : decode cX3_meanAmount 29 = .ok (.iaload, 1) := by decide +kernel
theorem dX3_meanAmount_30 : decode cX3_meanAmount 30 = .ok (.ifCond .le 7, 3) := by decide +kernel
theorem dX3_meanAmount_33 : decode cX3_meanAmount 33 = .ok (.iconst 1, 1) := by decide +kernel
theorem dX3_meanAmount_34 : decode cX3_meanAmount 34 = .ok (.goto 4, 3) := by decide +kernel
theorem dX3_meanAmount_37 : decode cX3_meanAmount 37 = .ok (.iconst 0, 1) := by decide +kernel
theorem dX3_meanAmount_38 : decode cX3_meanAmount 38 = .ok (.iadd, 1) := by decide +kernel
theorem dX3_meanAmount_39 : decode cX3_meanAmount 39 = .ok (.istore_n 2, 1) := by decide +kernel
theorem dX3_meanAmount_40 : decode cX3_meanAmount 40 = .ok (.iinc 3 1, 3) := by decide +kernel
theorem dX3_meanAmount_43 : decode cX3_meanAmount 43 = .ok (.goto (-37), 3) := by decide +kernel
theorem dX3_meanAmount_46 : decode cX3_meanAmount 46 = .ok (.aload_n 0, 1) := by decide +kernel
theorem dX3_meanAmount_47 : decode cX3_meanAmount 47 = .ok (.iload_n 2, 1) := by decide +kernel
theorem dX3_meanAmount_48 : decode cX3_meanAmount 48 = .ok (.ifCond .ne 7, 3) := by decide +kernel
theorem dX3_meanAmount_51 : decode cX3_meanAmount 51 = .ok (.iconst 1, 1) := by decide +kernel
theorem dX3_meanAmount_52 : decode cX3_meanAmount 52 = .ok (.goto 4, 3) := by decide +kernel
theorem dX3_meanAmount_55 : decode cX3_meanAmount 55 = .ok (.iconst 0, 1) := by decide +kernel
theorem dX3_meanAmount_56 : decode cX3_meanAmount 56 = .ok (.putfield 57, 3) := by decide +kernel
theorem dX3_meanAmount_59 : decode cX3_meanAmount 59 = .ok (.aload_n 0, 1) := by decide +kernel
theorem dX3_meanAmount_60 : decode cX3_meanAmount 60 = .ok (.getfield 57, 3) := by decide +kernel
theorem dX3_meanAmount_63 : decode cX3_meanAmount 63 = .ok (.ifCond .le 7, 3) := by decide +kernel
theorem dX3_meanAmount_66 : decode cX3_meanAmount 66 = .ok (.dconst 0, 1) := by decide +kernel
theorem dX3_meanAmount_67 : decode cX3_meanAmount 67 = .ok (.goto 8, 3) := by decide +kernel
theorem dX3_meanAmount_70 : decode cX3_meanAmount 70 = .ok (.iload_n 1, 1) := by decide +kernel
theorem dX3_meanAmount_71 : decode cX3_meanAmount 71 = .ok (.i2d, 1) := by decide +kernel
theorem dX3_meanAmount_72 : decode cX3_meanAmount 72 = .ok (.iload_n 2, 1) := by decide +kernel
theorem dX3_meanAmount_73 : decode cX3_meanAmount 73 = .ok (.i2d, 1) := by decide +kernel
theorem dX3_meanAmount_74 : decode cX3_meanAmount 74 = .ok (.ddiv, 1) := by decide +kernel
theorem dX3_meanAmount_75 : decode cX3_meanAmount 75 = .ok (.dreturn, 1) := by decide +kernel
theorem dJx00060_init_a7421_0 : decode cJx00060_init_a7421 0 = .ok (.aload_n 0, 1) := by decide +kernel
theorem dJx00060_init_a7421_1 : decode cJx00060_init_a7421 1 = .ok (.aload_n 1, 1) := by decide +kernel
theorem dJx00060_init_a7421_2 : decode cJx00060_init_a7421 2 = .ok (.invokespecial 7, 3) := by decide +kernel
theorem dJx00060_init_a7421_5 : decode cJx00060_init_a7421 5 = .ok (.return_, 1) := by decide +kernel
theorem dJ9_max_7cf53_0 : decode cJ9_max_7cf53 0 = .ok (.iload_n 0, 1) := by decide +kernel
theorem dJ9_max_7cf53_1 : decode cJ9_max_7cf53 1 = .ok (.iload_n 1, 1) := by decide +kernel
theorem dJ9_max_7cf53_2 : decode cJ9_max_7cf53 2 = .ok (.if_icmp .lt 7, 3) := by decide +kernel
theorem dJ9_max_7cf53_5 : decode cJ9_max_7cf53 5 = .ok (.iload_n 0, 1) := by decide +kernel
theorem dJ9_max_7cf53_6 : decode cJ9_max_7cf53 6 = .ok (.goto 4, 3) := by decide +kernel
theorem dJ9_max_7cf53_9 : decode cJ9_max_7cf53 9 = .ok (.iload_n 1, 1) := by decide +kernel
theorem dJ9_max_7cf53_10 : decode cJ9_max_7cf53 10 = .ok (.ireturn, 1) := by decide +kernel
set_option maxRecDepth 20000 in
theorem ggL_open_X2_open : GoodIn wsL_open wsX2_open := goodIn_ca (goodIn_ca (goodIn_ca (goodIn_r _ [7, 8, 9, 10, 11, 12, 13, 14, 15, 16, 6, 17, 18, 19, 20, 21, 22, 23, 24, 25, 26, 27, 28, 29, 30, 31, 32, 33, 34, 35, 36, 37, 38, 39, 40, 41, 42, 43, 44, 45, 46, 47, 48, 49, 50, 51, 52, 53, 54, 55, 56, 57, 58, 59, 60, 61, 62, 63] (by decide +kernel) (by decide +kernel)) (goodIn_sub (fun _ h => List.mem_cons_of_mem _ (List.mem_append_left _ (List.mem_append_right _ h))) (by decide +kernel))) (goodIn_sub (fun _ h => List.mem_cons_of_mem _ (List.mem_append_right _ h)) (by decide +kernel))) (goodIn_sub (fun _ h => List.mem_cons_of_mem _ (List.mem_append_left _ (List.mem_append_left _ (List.mem_append_right _ h)))) (by decide +kernel))
set_option maxRecDepth 20000 in
theorem gL_open_X2_open : GoodIn wsL_open (wsV RL 7 RX2 yX2_open wsX2_open) := goodIn_app (goodIn_of _ (by decide +kernel)) ggL_open_X2_open
